/-! drafts: begin, mark, renew, sign -/
theorem am1 (a : Nat) : (∃ k, k < a + 1 ∧ nI a - nI 1 = nI k) ∨ nI a - nI 1 = -1 := by
  cases a with
  | zero => exact Or.inr (by decide)
  | succ q => exact Or.inl ⟨q, by omega, nI_pred q⟩
theorem am3 {a : Nat} {cx : Int32} (h : (∃ k, k < a + 1 ∧ cx = nI k) ∨ cx = -1) : (∃ k, k < a ∧ cx = nI k) ∨ cx = nI a ∨ cx = -1 := by
  rcases h with ⟨k, h1, h2⟩ | h
  · by_cases e : k = a
    · exact Or.inr (Or.inl (by rw [h2, e]))
    · exact Or.inl ⟨k, by omega, h2⟩
  · exact Or.inr (Or.inr h)
theorem m1_ne {a : Nat} (h : a < 2 ^ 31) : ¬ (-1 : Int32) = nI a := fun q => absurd (q ▸ nI_pos' h : (0 : Int32) ≤ -1) (by decide)
theorem obst_le (S : SS) (N : NN) (i : Nat) : K_obst S N i ≤ 5 := by
  unfold K_obst
  repeat' split
  all_goals omega
theorem mk_in {mk : Nat} (h : mk = 2 ∨ mk = 1) : nI 1 ≤ nI mk ∧ nI mk ≤ nI 2 := by rcases h with rfl | rfl <;> decide
theorem bt_00 : ∀ v : Fin 16, ∀ m0 m1 : Fin 4, ∀ mk : Fin 3, (nI (v.val + 16 * m0.val + 64 * m1.val) &&& ((nI 3 <<< (nI 4 &&& 31)) ^^^ (-1))) ||| (nI mk.val <<< (nI 4 &&& 31)) = nI (v.val + 16 * mk.val + 64 * m1.val) := by decide +kernel
theorem bt_10 : ∀ v : Fin 16, ∀ m0 m1 : Fin 4, ∀ mk : Fin 3, (nI (v.val + 16 * m0.val + 64 * m1.val) &&& ((nI 3 <<< (nI 6 &&& 31)) ^^^ (-1))) ||| (nI mk.val <<< (nI 6 &&& 31)) = nI (v.val + 16 * m0.val + 64 * mk.val) := by decide +kernel
theorem bt_0 {it v m0 m1 mk : Nat} (h : it = v + 16 * m0 + 64 * m1) (hv : v < 16) (h0 : m0 < 4) (h1 : m1 < 4) (hk : mk < 3) : (nI it &&& ((nI 3 <<< (nI 4 &&& 31)) ^^^ (-1))) ||| (nI mk <<< (nI 4 &&& 31)) = nI (v + 16 * mk + 64 * m1) := by
  subst h
  exact bt_00 ⟨v, hv⟩ ⟨m0, h0⟩ ⟨m1, h1⟩ ⟨mk, hk⟩
theorem bt_1 {it v m0 m1 mk : Nat} (h : it = v + 16 * m0 + 64 * m1) (hv : v < 16) (h0 : m0 < 4) (h1 : m1 < 4) (hk : mk < 3) : (nI it &&& ((nI 3 <<< (nI 6 &&& 31)) ^^^ (-1))) ||| (nI mk <<< (nI 6 &&& 31)) = nI (v + 16 * m0 + 64 * mk) := by
  subst h
  exact bt_10 ⟨v, hv⟩ ⟨m0, h0⟩ ⟨m1, h1⟩ ⟨mk, hk⟩
theorem Y_id {Y : Nat → Nat → Nat} {k i v : Nat} (h : v = Y k i) : va_up Y k (va_up (Y k) i v) = Y := by
  subst h
  funext r j
  by_cases e : r = k
  · subst e
    by_cases e2 : j = i
    · subst e2; exact Y_at _ _ _ _
    · exact Y_ne e2
  · rw [Y_row e]
theorem yz1 (Y : Nat → Nat → Nat) (i q v : Nat) : (∀ r, ¬ r = 3 → ¬ r = 4 → va_up (va_up Y 4 (va_up (Y 4) i 0)) 3 (va_up ((va_up Y 4 (va_up (Y 4) i 0)) 3) q v) r = Y r) ∧ (∀ j, ¬ j = q → va_up (va_up Y 4 (va_up (Y 4) i 0)) 3 (va_up ((va_up Y 4 (va_up (Y 4) i 0)) 3) q v) 3 j = Y 3 j) ∧ va_up (va_up Y 4 (va_up (Y 4) i 0)) 3 (va_up ((va_up Y 4 (va_up (Y 4) i 0)) 3) q v) 3 q = v ∧ va_up (va_up Y 4 (va_up (Y 4) i 0)) 3 (va_up ((va_up Y 4 (va_up (Y 4) i 0)) 3) q v) 4 i = 0 ∧ (∀ j, ¬ j = i → va_up (va_up Y 4 (va_up (Y 4) i 0)) 3 (va_up ((va_up Y 4 (va_up (Y 4) i 0)) 3) q v) 4 j = Y 4 j) := by
  refine ⟨fun r h3 h4 => ?_, fun j hj => ?_, Y_at _ _ _ _, ?_, fun j hj => ?_⟩
  · rw [Y_row h3, Y_row h4]
  · rw [Y_ne hj, Y_row (by decide)]
  · rw [Y_row (by decide), Y_at]
  · rw [Y_row (by decide), Y_ne hj]
theorem yz2 (Y : Nat → Nat → Nat) (i q v : Nat) : (∀ r, ¬ r = 3 → ¬ r = 4 → va_up (va_up Y 3 (va_up (Y 3) q v)) 4 (va_up ((va_up Y 3 (va_up (Y 3) q v)) 4) i 0) r = Y r) ∧ (∀ j, ¬ j = q → va_up (va_up Y 3 (va_up (Y 3) q v)) 4 (va_up ((va_up Y 3 (va_up (Y 3) q v)) 4) i 0) 3 j = Y 3 j) ∧ va_up (va_up Y 3 (va_up (Y 3) q v)) 4 (va_up ((va_up Y 3 (va_up (Y 3) q v)) 4) i 0) 3 q = v ∧ va_up (va_up Y 3 (va_up (Y 3) q v)) 4 (va_up ((va_up Y 3 (va_up (Y 3) q v)) 4) i 0) 4 i = 0 ∧ (∀ j, ¬ j = i → va_up (va_up Y 3 (va_up (Y 3) q v)) 4 (va_up ((va_up Y 3 (va_up (Y 3) q v)) 4) i 0) 4 j = Y 4 j) := by
  refine ⟨fun r h3 h4 => ?_, fun j hj => ?_, ?_, Y_at _ _ _ _, fun j hj => ?_⟩
  · rw [Y_row h4, Y_row h3]
  · rw [Y_row (by decide), Y_ne hj]
  · rw [Y_row (by decide), Y_at]
  · rw [Y_ne hj, Y_row (by decide)]
theorem sg_at (S : SS) (i : Nat) : (isDr (S_sgn S i 0) i ↔ S 6 i 1 = 0) ∧ (isDr (S_sgn S i 1) i ↔ S 6 i 0 = 0) := by
  have e6 : ∀ sd, S_sgn S i sd 6 i = upd (S 6 i) sd (nI 1) := fun sd => su_self _ _ _ _
  unfold isDr
  rw [e6, e6, upd_self, upd_self, upd_ne (by decide : ¬ (1 : Nat) = 0), upd_ne (by decide : ¬ (0 : Nat) = 1)]
  exact ⟨⟨fun q => q.elim (fun q => absurd q (by decide)) id, Or.inr⟩, ⟨fun q => q.elim id (fun q => absurd q (by decide)), Or.inl⟩⟩
theorem rz_60m {q : Nat} {S : SS} {N N0 : NN} {Y : Nat → Nat → Nat} {t : Nat → Int32} {D : Int32} {a b : Nat} (h : RZm q S N Y t D a b) (hN : okS N0) (h0 : N 0 0 0 = N0 0 0 0) : b + q ≤ 60 := by
  have h1 := h.2.2.2.2.2.2.1.2.2.2
  have h2 := sgN_le S (N 0 0 0)
  have h3 := hN.2.2.2.1
  have h4 := h.2.2.2.2.2.2.1.2.2.1
  omega

set_option maxHeartbeats 8000000 in
set_option maxRecDepth 100000 in
/-- begin, mark, renew, sign -/
theorem qL_drafts (l : Launch) (dC : Nat → ClassId) (dI : Nat → Nat → Nat) (cy : Nat → ClassId) (e0 mi oc : Nat) (ab : Nat → Nat) (ad : Lc → Nat) (L : List Lc) (S : SS) (N : NN) (Y : Nat → Nat → Nat) (t : Nat → Int32) (D : Int32) (a b : Nat) (sz : Nat)  (act : Nat) (y x : Int32) (hI : okC L N) (hX : okX L N) (hst : l.stackTraces = false) (hoc : ad (10, 0) = oc) (hR : RZ S N Y t D a b) (hact : act < 10) : Met l yL_drafts wsL_drafts ({ frames := 11, cells := 200, slots := 20000, locals := 282 }) (va_Pc [.ref oc, .int (nI act), .int y, .int x, .ref ((ab 0)), .ref ((ab 1)), .ref ((ab 2)), .ref ((ab 3)), .ref ((ab 4)), .ref ((ab 5)), .ref ((ab 6)), .ref ((ab 7))] (wPreL (dC, dI) (tyL cy) e0 mi (cw cy e0 ad L S N ++ yw ab cy Y t D a b) sz)) (QI (dC, dI) (tyL cy) (fun (r : Int32) (u : LU2) => r = nI 1 ∧ INV oc u) (lw2 cy e0 ab) (va_A (cw cy e0 ad L S N ++ yw ab cy Y t D a b) sz)) 200 20000 (va_A (cw cy e0 ad L S N ++ yw ab cy Y t D a b) sz) := by
  refine enLA (cc := cL_drafts) (maxL := 21) (ret := (some .boolean)) (own := RL) (lv := [(0, .ref oc), (1, .int (nI act)), (2, .int y), (3, .int x), (4, .ref ((ab 0))), (5, .ref ((ab 1))), (6, .ref ((ab 2))), (7, .ref ((ab 3))), (8, .ref ((ab 4))), (9, .ref ((ab 5))), (10, .ref ((ab 6))), (11, .ref ((ab 7)))]) (by decide) rfl rfl (Nat.le_of_ble_eq_true rfl) rfl ?_
  intro p e s m below meth c ls A H locs hx hb hr hts hown hlocks hml hin hsz hK hP hD hS hA hl ham
  generalize hQQ : MQ below _ _ s _ _ A = QQ
  have lk0 : (Cond.constant RL 80 (196608)).before (([.ref oc, .int (nI act), .int y, .int x, .ref ((ab 0)), .ref ((ab 1)), .ref ((ab 2)), .ref ((ab 3)), .ref ((ab 4)), .ref ((ab 5)), .ref ((ab 6)), .ref ((ab 7))] : List Value).toArray) s = true := hts _ (List.mem_of_getElem? (i := 1) rfl)
  have hN := okS_of hI
  have hYb : zY Y := hR.2.2.2.2.2.2.2
  obtain ⟨hD0, hb1, hb5, -⟩ := hR.2.2.2.2.2.2.1
  have hb60 := rz_60 hR hN
  have h10 := hN.2.2.2.1
  refine lv_iload_n hx hb dL_drafts_0 rfl (lv_at hl 2 rfl) ?_
  refine lv_bipush (v := nI 96) hx hb dL_drafts_1 (by decide) ?_
  refine lv_iand hx hb dL_drafts_3 ?_
  have J29 : ∀ (cx : Int32), ((∃ k, k < a + 1 ∧ cx = nI k) ∨ cx = -1) → ∀ (H : Heap) (locs : List Loc), va_P (dC, dI) vwCl (cw cy e0 ad L S N ++ yw ab cy Y t D a b) H → va_D A (cw cy e0 ad L S N ++ yw ab cy Y t D a b) → va_S A s.heap H locs → W p l e ({ frames := 11, cells := 200, slots := 20000, locals := 282 }) s m (([.ref oc, .int (nI act), .int y, .int x, .ref ((ab 0)), .ref ((ab 1)), .ref ((ab 2)), .ref ((ab 3)), .ref ((ab 4)), .ref ((ab 5)), .ref ((ab 6)), .ref ((ab 7))] : List Value).toArray) below meth c H locs 0 0 QQ (F0 m 29 ls [.int cx]) := by
    intro cx hcx H locs hP hD hS
    refine lv_istore (lv' := [(12, .int cx), (0, .ref oc), (1, .int (nI act)), (2, .int y), (3, .int x), (4, .ref ((ab 0))), (5, .ref ((ab 1))), (6, .ref ((ab 2))), (7, .ref ((ab 3))), (8, .ref ((ab 4))), (9, .ref ((ab 5))), (10, .ref ((ab 6))), (11, .ref ((ab 7)))]) hx hb dL_drafts_29 hl (by decide) rfl (fun ls hl => ?_)
    refine lv_iload_n hx hb dL_drafts_31 rfl (lv_at hl 4 rfl) ?_
    refine lv_iconst (v := nI 1) hx hb dL_drafts_32 (by decide) ?_
    refine lv_iand hx hb dL_drafts_33 ?_
    obtain ⟨sd, hsd, esd⟩ := pk_andE x (m := nI 1) 1 (by decide)
    have hsd : sd < 2 := hsd
    refine to_i (y := nI sd) (esd) ?_
    refine lv_istore (lv' := [(13, .int (nI sd)), (12, .int cx), (0, .ref oc), (1, .int (nI act)), (2, .int y), (3, .int x), (4, .ref ((ab 0))), (5, .ref ((ab 1))), (6, .ref ((ab 2))), (7, .ref ((ab 3))), (8, .ref ((ab 4))), (9, .ref ((ab 5))), (10, .ref ((ab 6))), (11, .ref ((ab 7)))]) hx hb dL_drafts_34 hl (by decide) rfl (fun ls hl => ?_)
    refine lv_iload_n hx hb dL_drafts_36 rfl (lv_at hl 5 rfl) ?_
    refine lv_iconst (v := nI 1) hx hb dL_drafts_37 (by decide) ?_
    refine lv_ishr hx hb dL_drafts_38 ?_
    refine lv_iload_n hx hb dL_drafts_39 rfl (lv_at hl 5 rfl) ?_
    refine lv_sipush (v := nI 12288) hx hb dL_drafts_40 (by decide) ?_
    refine lv_iand hx hb dL_drafts_43 ?_
    have J53 : ∀ (dn : Nat), (dn = 6 ∨ dn = 3) → ∀ (H : Heap) (locs : List Loc), va_P (dC, dI) vwCl (cw cy e0 ad L S N ++ yw ab cy Y t D a b) H → va_D A (cw cy e0 ad L S N ++ yw ab cy Y t D a b) → va_S A s.heap H locs → W p l e ({ frames := 11, cells := 200, slots := 20000, locals := 282 }) s m (([.ref oc, .int (nI act), .int y, .int x, .ref ((ab 0)), .ref ((ab 1)), .ref ((ab 2)), .ref ((ab 3)), .ref ((ab 4)), .ref ((ab 5)), .ref ((ab 6)), .ref ((ab 7))] : List Value).toArray) below meth c H locs 0 0 QQ (F0 m 53 ls [.int (nI dn), .int (x >>> ((nI 1) &&& 31))]) := by
      intro dn hdn H locs hP hD hS
      refine call_i (va_runS (As := [.int (x >>> ((nI 1) &&& 31)), .int (nI dn)]) (rest := []) ⟨hx, hb, hml, hown, hts⟩ (qL_low l dC dI cy (cw cy e0 ad L S N ++ yw ab cy Y t D a b) H.size (x >>> ((nI 1) &&& 31)) dn (by omega) (by omega)) (va_cwS 2 hts gL_drafts_L_low rfl rfl rfl (by decide +kernel) ⟨Nat.le_of_ble_eq_true rfl, Nat.le_of_ble_eq_true rfl⟩) (preS hK hP hD) rfl rfl hl.1 rfl (lv_room (Nat.le_of_ble_eq_true rfl)) dL_drafts_53 ⟨Nat.le_of_ble_eq_true rfl, Nat.le_of_ble_eq_true rfl⟩) hD hS hA (fun rr uu H locs hw hP hD hS => ?_)
      obtain ⟨cl, hcl, rfl⟩ := hw
      have hP : va_P (dC, dI) vwCl (cw cy e0 ad L S N ++ yw ab cy Y t D a b) H := hP
      have hD : va_D A (cw cy e0 ad L S N ++ yw ab cy Y t D a b) := hD
      refine lv_istore (lv' := [(14, .int (nI cl)), (13, .int (nI sd)), (12, .int cx), (0, .ref oc), (1, .int (nI act)), (2, .int y), (3, .int x), (4, .ref ((ab 0))), (5, .ref ((ab 1))), (6, .ref ((ab 2))), (7, .ref ((ab 3))), (8, .ref ((ab 4))), (9, .ref ((ab 5))), (10, .ref ((ab 6))), (11, .ref ((ab 7)))]) hx hb dL_drafts_56 hl (by decide) rfl (fun ls hl => ?_)
      refine lv_iload_n hx hb dL_drafts_58 rfl (lv_at hl 4 rfl) ?_
      refine n_if_ne (tgt := 113) hx hb dL_drafts_59 (by decide) (by omega) (fun c_1 => ?_) (fun c_1 => ?_)
      · have hcx3 := am3 hcx
        clear hcx
        rcases hcx3 with ⟨ci, hci, rfl⟩ | rfl | rfl
        · refine lv_iload hx hb dL_drafts_113 (lv_at hl 2 rfl) ?_
          refine lv_aload hx hb dL_drafts_115 (lv_at hl 14 rfl) ?_
          refine lv_iconst (v := nI 1) hx hb dL_drafts_117 (by decide) ?_
          refine x_iald (f := gf D a b) hx hb hK hP (_ + 7) 0 (app_r rfl) rfl (t := 1) (by decide) (by decide) dL_drafts_118 ?_
          refine to_i (y := nI a) rfl ?_
          refine n_eq (tgt := 127) hx hb dL_drafts_119 (by decide) (by omega) (by omega) (fun h9 => absurd h9 (by omega)) (fun _ => ?_)
          refine lv_iload hx hb dL_drafts_122 (lv_at hl 2 rfl) ?_
          refine lv_if_ge (tgt := 227) hx hb dL_drafts_124 (by decide) (fun _ => ?_) (fun h9 => absurd (nI_pos' (by omega)) h9)
          have hdr := dr_iff hR.2.2.2.1 (show ci < 10 by omega)
          have hcl6 : cl < 6 := by omega
          have ezi := zi_iff hR (show ci < 10 by omega) hcl6
          have ey0 : Y 0 cl = N 1 0 cl := (hR.1 cl hcl6).1
          have h9 := hN.2.1 cl (by omega)
          have eci : ix (nI ci) = ci := ix_nI (by omega)
          have ecl : ix (nI cl) = cl := ix_nI (by omega)
          obtain ⟨it, hit⟩ : ∃ it, Y 3 (6 * ci + cl) = it := ⟨_, rfl⟩
          have hitb : it < 67108864 := by rw [← hit]; exact hYb _ _
          have h4b := hYb 4 ci
          refine lv_bipush (v := nI 6) hx hb dL_drafts_227 (by decide) ?_
          refine lv_iload hx hb dL_drafts_229 (lv_at hl 2 rfl) ?_
          refine lv_imul hx hb dL_drafts_231 ?_
          refine to_i (y := nI (6 * ci)) (pk_mul _ _) ?_
          refine lv_iload hx hb dL_drafts_232 (lv_at hl 0 rfl) ?_
          refine lv_iadd hx hb dL_drafts_234 ?_
          refine to_i (y := nI ((6 * ci) + cl)) (nI_add _ _) ?_
          refine lv_istore (lv' := [(15, .int (nI ((6 * ci) + cl))), (14, .int (nI cl)), (13, .int (nI sd)), (12, .int (nI ci)), (0, .ref oc), (1, .int (nI act)), (2, .int y), (3, .int x), (4, .ref ((ab 0))), (5, .ref ((ab 1))), (6, .ref ((ab 2))), (7, .ref ((ab 3))), (8, .ref ((ab 4))), (9, .ref ((ab 5))), (10, .ref ((ab 6))), (11, .ref ((ab 7)))]) hx hb dL_drafts_235 hl (by decide) rfl (fun ls hl => ?_)
          refine lv_aload hx hb dL_drafts_237 (lv_at hl 11 rfl) ?_
          refine lv_iload hx hb dL_drafts_239 (lv_at hl 0 rfl) ?_
          refine x_iald (f := fun j => nI (Y 3 j)) hx hb hK hP (_ + 3) 0 (app_r rfl) rfl (t := (6 * ci) + cl) (by omega) (by decide) dL_drafts_241 ?_
          refine to_i (y := nI (Y 3 ((6 * ci) + cl))) rfl ?_
          refine to_i (y := nI it) (congrArg nI hit) ?_
          refine lv_istore (lv' := [(16, .int (nI it)), (15, .int (nI ((6 * ci) + cl))), (14, .int (nI cl)), (13, .int (nI sd)), (12, .int (nI ci)), (0, .ref oc), (1, .int (nI act)), (2, .int y), (3, .int x), (4, .ref ((ab 0))), (5, .ref ((ab 1))), (6, .ref ((ab 2))), (7, .ref ((ab 3))), (8, .ref ((ab 4))), (9, .ref ((ab 5))), (10, .ref ((ab 6))), (11, .ref ((ab 7)))]) hx hb dL_drafts_242 hl (by decide) rfl (fun ls hl => ?_)
          refine lv_iload_n hx hb dL_drafts_244 rfl (lv_at hl 6 rfl) ?_
          refine lv_bipush (v := nI 8) hx hb dL_drafts_245 (by decide) ?_
          refine n_ge (tgt := 522) hx hb dL_drafts_247 (by decide) (by omega) (by omega) (fun c_2 => ?_) (fun c_2 => ?_)
          · refine lv_iload_n hx hb dL_drafts_522 rfl (lv_at hl 6 rfl) ?_
            refine lv_bipush (v := nI 8) hx hb dL_drafts_523 (by decide) ?_
            refine n_ne (tgt := 654) hx hb dL_drafts_525 (by decide) (by omega) (by omega) (fun c_3 => ?_) (fun c_3 => ?_)
            · refine lv_aload_n hx hb dL_drafts_654 rfl (lv_at hl 5 rfl) ?_
              refine lv_iload hx hb dL_drafts_655 (lv_at hl 4 rfl) ?_
              refine lv_iconst (v := nI 2) hx hb dL_drafts_657 (by decide) ?_
              refine callY_i hP (vx_runSW (As := [.ref oc, .int (nI ci), .int (nI 2)]) (rest := []) ⟨hx, hb, hml, hown, hts⟩ (qL_sign l dC dI cy e0 mi oc ad L S N H.size (nI ci) (nI 2) hI hX (fun i hi hd => by have := rz_room hR hN hi hd; omega) hst hoc) (vx_cwSW 3 hts gL_drafts_L_sign rfl rfl rfl (by decide +kernel) ⟨Nat.le_of_ble_eq_true rfl, Nat.le_of_ble_eq_true rfl⟩) (preLS hK (w_leftP hP) (w_leftD hD) hS hA ham) rfl rfl hl.1 rfl (lv_room (Nat.le_of_ble_eq_true rfl)) dL_drafts_658 ⟨Nat.le_of_ble_eq_true rfl, Nat.le_of_ble_eq_true rfl⟩) hD hS hA (fun rr uc H locs hw hP hD hS => ?_)
              obtain ⟨rfl, ad, L, rfl, hI, hX, hoc⟩ := lres_n2 hw ((if_pos (ct_in (by omega) (by omega))).trans (if_neg (fun q => absurd q (by decide))))
              have hP : va_P (dC, dI) vwCl (cw cy e0 ad L S N ++ yw ab cy Y t D a b) H := hP
              have hD : va_D A (cw cy e0 ad L S N ++ yw ab cy Y t D a b) := hD
              refine lv_bipush (v := -72) hx hb dL_drafts_661 (by decide) ?_
              refine lv_icmp_ne (tgt := 678) hx hb dL_drafts_663 (by decide) (fun h9 => absurd rfl h9) (fun _ => ?_)
              refine lv_aload_n hx hb dL_drafts_666 rfl (lv_at hl 5 rfl) ?_
              refine lv_iload hx hb dL_drafts_667 (lv_at hl 4 rfl) ?_
              refine lv_iconst (v := -1) hx hb dL_drafts_669 (by decide) ?_
              refine callY_i hP (vx_runSW (As := [.ref oc, .int (nI ci), .int ((-1))]) (rest := []) ⟨hx, hb, hml, hown, hts⟩ (qL_sign l dC dI cy e0 mi oc ad L S N H.size (nI ci) ((-1)) hI hX (fun i hi hd => by have := rz_room hR hN hi hd; omega) hst hoc) (vx_cwSW 3 hts gL_drafts_L_sign rfl rfl rfl (by decide +kernel) ⟨Nat.le_of_ble_eq_true rfl, Nat.le_of_ble_eq_true rfl⟩) (preLS hK (w_leftP hP) (w_leftD hD) hS hA ham) rfl rfl hl.1 rfl (lv_room (Nat.le_of_ble_eq_true rfl)) dL_drafts_670 ⟨Nat.le_of_ble_eq_true rfl, Nat.le_of_ble_eq_true rfl⟩) hD hS hA (fun rr uc H locs hw hP hD hS => ?_)
              obtain ⟨rfl, ad, L, rfl, hI, hX, hoc⟩ := lres_n2 hw ((if_pos (ct_in (by omega) (by omega))).trans (if_neg (fun q => absurd q (by decide))))
              have hP : va_P (dC, dI) vwCl (cw cy e0 ad L S N ++ yw ab cy Y t D a b) H := hP
              have hD : va_D A (cw cy e0 ad L S N ++ yw ab cy Y t D a b) := hD
              refine lv_bipush (v := -72) hx hb dL_drafts_673 (by decide) ?_
              refine lv_icmp_eq (tgt := 680) hx hb dL_drafts_675 (by decide) (fun _ => ?_) (fun h9 => absurd rfl h9)
              refine lv_aload hx hb dL_drafts_680 (lv_at hl 10 rfl) ?_
              refine lv_aload hx hb dL_drafts_682 (lv_at hl 12 rfl) ?_
              refine lv_aload hx hb dL_drafts_684 (lv_at hl 13 rfl) ?_
              refine lv_iload hx hb dL_drafts_686 (lv_at hl 4 rfl) ?_
              refine call_i (va_runS (As := [.ref ((ab 1)), .ref ((ab 3)), .ref ((ab 4)), .int (nI ci)]) (rest := []) ⟨hx, hb, hml, hown, hts⟩ (qL_reason l dC dI cy (cw cy e0 ad L S N) ab S N Y t D a b H.size ci hR hN (by omega)) (va_cwS 4 hts gL_drafts_L_reason rfl rfl rfl (by decide +kernel) ⟨Nat.le_of_ble_eq_true rfl, Nat.le_of_ble_eq_true rfl⟩) (preS hK hP hD) rfl rfl hl.1 rfl (lv_room (Nat.le_of_ble_eq_true rfl)) dL_drafts_688 ⟨Nat.le_of_ble_eq_true rfl, Nat.le_of_ble_eq_true rfl⟩) hD hS hA (fun rr uu H locs hw hP hD hS => ?_)
              obtain rfl := hw
              have hP : va_P (dC, dI) vwCl (cw cy e0 ad L S N ++ yw ab cy Y t D a b) H := hP
              have hD : va_D A (cw cy e0 ad L S N ++ yw ab cy Y t D a b) := hD
              have hob := obst_le S N ci
              refine n_if_gt (tgt := 708) hx hb dL_drafts_691 (by decide) (by omega) (fun c_4 => ?_) (fun c_4 => ?_)
              · refine lv_aload_n hx hb dL_drafts_708 rfl (lv_at hl 5 rfl) ?_
                refine lv_iload hx hb dL_drafts_709 (lv_at hl 4 rfl) ?_
                refine lv_iload hx hb dL_drafts_711 (lv_at hl 3 rfl) ?_
                refine callY_i hP (vx_runSW (As := [.ref oc, .int (nI ci), .int (nI sd)]) (rest := []) ⟨hx, hb, hml, hown, hts⟩ (qL_sign l dC dI cy e0 mi oc ad L S N H.size (nI ci) (nI sd) hI hX (fun i hi hd => by have := rz_room hR hN hi hd; omega) hst hoc) (vx_cwSW 3 hts gL_drafts_L_sign rfl rfl rfl (by decide +kernel) ⟨Nat.le_of_ble_eq_true rfl, Nat.le_of_ble_eq_true rfl⟩) (preLS hK (w_leftP hP) (w_leftD hD) hS hA ham) rfl rfl hl.1 rfl (lv_room (Nat.le_of_ble_eq_true rfl)) dL_drafts_713 ⟨Nat.le_of_ble_eq_true rfl, Nat.le_of_ble_eq_true rfl⟩) hD hS hA (fun rr uc H locs hw hP hD hS => ?_)
                obtain ⟨rfl, ad, L, rfl, hI, hX, hoc⟩ := lres_n3 hw ((if_pos (ct_in (by omega) (by omega))).trans ((if_pos (sd_in hsd)).trans (if_neg (by rw [eci]; exact fun q => absurd q.1 (by omega)))))
                have hP : va_P (dC, dI) vwCl (cw cy e0 ad L S N ++ yw ab cy Y t D a b) H := hP
                have hD : va_D A (cw cy e0 ad L S N ++ yw ab cy Y t D a b) := hD
                refine lv_bipush (v := -73) hx hb dL_drafts_716 (by decide) ?_
                refine lv_icmp_ne (tgt := 725) hx hb dL_drafts_718 (by decide) (fun h9 => absurd rfl h9) (fun _ => ?_)
                refine lv_iconst (v := nI 1) hx hb dL_drafts_721 (by decide) ?_
                refine lv_goto (tgt := 726) hx hb dL_drafts_722 (by decide) ?_
                rw [← hQQ]; exact end_z (u := ((ad, L, S, N), (Y, t, D, a, b))) hx hb hr hlocks dL_drafts_726 hK hP hD hS (by rfl) ⟨rfl, ⟨hI, hX⟩, hoc, hR⟩ (Nat.le_of_ble_eq_true rfl) (Nat.le_of_ble_eq_true rfl)
              · have hob0 : K_obst S N ci = 0 := c_4
                have hdr0 := K_obst_dr hob0
                obtain ⟨s0, s1, v0, v1, g0, g1, g4⟩ := zs_at hR.2.2.2.1 (show ci < 10 by omega)
                rcases (show sd = 0 ∨ sd = 1 by omega) with rfl | rfl
                · rcases (show s0 = 0 ∨ s0 = 1 by omega) with rfl | rfl
                  · rcases (show s1 = 0 ∨ s1 = 1 by omega) with rfl | rfl
                    · refine lv_aload hx hb dL_drafts_694 (lv_at hl 13 rfl) ?_
                      refine lv_iload hx hb dL_drafts_696 (lv_at hl 4 rfl) ?_
                      refine x_iald (f := fun j => nI (Y 4 j)) hx hb hK hP (_ + 4) 0 (app_r rfl) rfl (t := ci) (by omega) (by decide) dL_drafts_698 ?_
                      refine to_i (y := nI (Y 4 ci)) rfl ?_
                      refine to_i (y := nI 0) (congrArg nI (by omega)) ?_
                      refine lv_iload hx hb dL_drafts_699 (lv_at hl 3 rfl) ?_
                      refine lv_ishr hx hb dL_drafts_701 ?_
                      refine to_i (y := nI (0 / 1)) (pk_shrN (by omega) _ 0 (by decide)) ?_
                      refine lv_iconst (v := nI 1) hx hb dL_drafts_702 (by decide) ?_
                      refine lv_iand hx hb dL_drafts_703 ?_
                      refine to_i (y := nI ((0 / 1) % 2)) (pk_andN (by omega) 1 (by decide)) ?_
                      refine to_i (y := nI 0) (congrArg nI (by omega)) ?_
                      refine lv_iconst (v := nI 1) hx hb dL_drafts_704 (by decide) ?_
                      refine lv_icmp_ne (tgt := 727) hx hb dL_drafts_705 (by decide) (fun _ => ?_) (fun h9 => absurd h9 (by decide))
                      refine lv_aload hx hb dL_drafts_727 (lv_at hl 13 rfl) ?_
                      refine lv_iload hx hb dL_drafts_729 (lv_at hl 4 rfl) ?_
                      refine lv_dup2_11 hx hb dL_drafts_731 rfl rfl ?_
                      refine x_iald (f := fun j => nI (Y 4 j)) hx hb hK hP (_ + 4) 0 (app_r rfl) rfl (t := ci) (by omega) (by decide) dL_drafts_732 ?_
                      refine to_i (y := nI (Y 4 ci)) rfl ?_
                      refine to_i (y := nI 0) (congrArg nI (by omega)) ?_
                      refine lv_iconst (v := nI 1) hx hb dL_drafts_733 (by decide) ?_
                      refine lv_iload hx hb dL_drafts_734 (lv_at hl 3 rfl) ?_
                      refine lv_ishl hx hb dL_drafts_736 ?_
                      refine lv_ior hx hb dL_drafts_737 ?_
                      have hsg : isDr (S_sgn S ci 0) ci := (sg_at S ci).1.mpr (g1.trans nI_00)
                      refine to_i (y := nI 1) (by decide) ?_
                      refine x_iast (f := fun j => nI (Y 4 j)) hx hb hK hP hD hS (_ + 4) 0 (app_r rfl) rfl (t := ci) (x := nI 1) (by omega) (by decide) dL_drafts_738 (fun H locs hP hD hS => ?_)
                      rw [app_setr, upd_nI] at hP hD
                      have hP : va_P (dC, dI) vwCl (cw cy e0 ad L S N ++ yw ab cy (va_up Y 4 (va_up (Y 4) ci 1)) t D a b) H := hP
                      have hD : va_D A (cw cy e0 ad L S N ++ yw ab cy (va_up Y 4 (va_up (Y 4) ci 1)) t D a b) := hD
                      refine lv_aload hx hb dL_drafts_739 (lv_at hl 13 rfl) ?_
                      refine lv_iload hx hb dL_drafts_741 (lv_at hl 4 rfl) ?_
                      refine x_iald (f := fun j => nI ((va_up Y 4 (va_up (Y 4) ci 1)) 4 j)) hx hb hK hP (_ + 4) 0 (app_r rfl) rfl (t := ci) (by omega) (by decide) dL_drafts_743 ?_
                      refine to_i (y := nI (1)) (congrArg nI (by simp [va_up])) ?_
                      refine lv_iconst (v := nI 3) hx hb dL_drafts_744 (by decide) ?_
                      refine lv_icmp_ge (tgt := 765) hx hb dL_drafts_745 (by decide) (fun h9 => absurd h9 (by decide)) (fun _ => ?_)
                      refine lv_aload_n hx hb dL_drafts_748 rfl (lv_at hl 5 rfl) ?_
                      refine lv_iload hx hb dL_drafts_749 (lv_at hl 4 rfl) ?_
                      refine lv_iload hx hb dL_drafts_751 (lv_at hl 3 rfl) ?_
                      refine callY_i hP (vx_runSW (As := [.ref oc, .int (nI ci), .int (nI 0)]) (rest := []) ⟨hx, hb, hml, hown, hts⟩ (qL_sign l dC dI cy e0 mi oc ad L S N H.size (nI ci) (nI 0) hI hX (fun i hi hd => by have := rz_room hR hN hi hd; omega) hst hoc) (vx_cwSW 3 hts gL_drafts_L_sign rfl rfl rfl (by decide +kernel) ⟨Nat.le_of_ble_eq_true rfl, Nat.le_of_ble_eq_true rfl⟩) (preLS hK (w_leftP hP) (w_leftD hD) hS hA ham) rfl rfl hl.1 rfl (lv_room (Nat.le_of_ble_eq_true rfl)) dL_drafts_753 ⟨Nat.le_of_ble_eq_true rfl, Nat.le_of_ble_eq_true rfl⟩) hD hS hA (fun rr uc H locs hw hP hD hS => ?_)
                      rw [eci] at hw
                      rw [ix_nI (show (0 : Nat) < 2 ^ 31 by decide)] at hw
                      rw [if_pos hsg] at hw
                      rw [if_pos hsg] at hw
                      obtain ⟨er, ad, L, rfl, hI, hX, hoc⟩ := lres_n0 hw ((if_pos (ct_in (by omega) (by omega))).trans ((if_pos (by decide)).trans (if_pos (by rw [eci, ix_nI (show (0 : Nat) < 2 ^ 31 by decide)]; exact ⟨hob0, g0.trans nI_00⟩))))
                      have hP : va_P (dC, dI) vwCl (cwT cy e0 (ad, L, S_sgn S ci 0, N) ++ yw ab cy (va_up Y 4 (va_up (Y 4) ci 1)) t D a b) H := hP
                      have hD : va_D A (cwT cy e0 (ad, L, S_sgn S ci 0, N) ++ yw ab cy (va_up Y 4 (va_up (Y 4) ci 1)) t D a b) := hD
                      refine to_i (y := nI 0) (er.trans (rfl)) ?_
                      refine lv_if_ne (tgt := 763) hx hb dL_drafts_756 (by decide) (fun h9 => absurd h9 (by decide)) (fun _ => ?_)
                      refine lv_iconst (v := nI 1) hx hb dL_drafts_759 (by decide) ?_
                      refine lv_goto (tgt := 764) hx hb dL_drafts_760 (by decide) ?_
                      rw [← hQQ]; exact end_z (u := ((ad, L, S_sgn S ci 0, N), (va_up Y 4 (va_up (Y 4) ci 1), t, D, a, b))) hx hb hr hlocks dL_drafts_764 hK hP hD hS (by rfl) ⟨rfl, ⟨hI, hX⟩, hoc, (by show RZ (S_sgn S ci 0) N (va_up Y 4 (va_up (Y 4) ci 1)) t D a b; exact rz_sgn (v := 1) hR (by omega) (by omega) (by decide) (fun r hr => Y_row hr) (fun j hj => Y_ne hj) (Y_at _ _ _ _) (zY_up hYb _ _ (by decide)) (by have q := (sg_one hR.2.2.2.1 (by omega) (by decide) hdr0 (g0.trans nI_00) hsg).2; rw [if_pos rfl] at q; exact q) (sgN_one hR hdr0 hsg))⟩ (Nat.le_of_ble_eq_true rfl) (Nat.le_of_ble_eq_true rfl)
                    · refine lv_aload hx hb dL_drafts_694 (lv_at hl 13 rfl) ?_
                      refine lv_iload hx hb dL_drafts_696 (lv_at hl 4 rfl) ?_
                      refine x_iald (f := fun j => nI (Y 4 j)) hx hb hK hP (_ + 4) 0 (app_r rfl) rfl (t := ci) (by omega) (by decide) dL_drafts_698 ?_
                      refine to_i (y := nI (Y 4 ci)) rfl ?_
                      refine to_i (y := nI 2) (congrArg nI (by omega)) ?_
                      refine lv_iload hx hb dL_drafts_699 (lv_at hl 3 rfl) ?_
                      refine lv_ishr hx hb dL_drafts_701 ?_
                      refine to_i (y := nI (2 / 1)) (pk_shrN (by omega) _ 0 (by decide)) ?_
                      refine lv_iconst (v := nI 1) hx hb dL_drafts_702 (by decide) ?_
                      refine lv_iand hx hb dL_drafts_703 ?_
                      refine to_i (y := nI ((2 / 1) % 2)) (pk_andN (by omega) 1 (by decide)) ?_
                      refine to_i (y := nI 0) (congrArg nI (by omega)) ?_
                      refine lv_iconst (v := nI 1) hx hb dL_drafts_704 (by decide) ?_
                      refine lv_icmp_ne (tgt := 727) hx hb dL_drafts_705 (by decide) (fun _ => ?_) (fun h9 => absurd h9 (by decide))
                      refine lv_aload hx hb dL_drafts_727 (lv_at hl 13 rfl) ?_
                      refine lv_iload hx hb dL_drafts_729 (lv_at hl 4 rfl) ?_
                      refine lv_dup2_11 hx hb dL_drafts_731 rfl rfl ?_
                      refine x_iald (f := fun j => nI (Y 4 j)) hx hb hK hP (_ + 4) 0 (app_r rfl) rfl (t := ci) (by omega) (by decide) dL_drafts_732 ?_
                      refine to_i (y := nI (Y 4 ci)) rfl ?_
                      refine to_i (y := nI 2) (congrArg nI (by omega)) ?_
                      refine lv_iconst (v := nI 1) hx hb dL_drafts_733 (by decide) ?_
                      refine lv_iload hx hb dL_drafts_734 (lv_at hl 3 rfl) ?_
                      refine lv_ishl hx hb dL_drafts_736 ?_
                      refine lv_ior hx hb dL_drafts_737 ?_
                      have hsg : ¬ isDr (S_sgn S ci 0) ci := fun q => absurd (g1.symm.trans ((sg_at S ci).1.mp q)) (by decide)
                      refine to_i (y := nI 3) (by decide) ?_
                      refine x_iast (f := fun j => nI (Y 4 j)) hx hb hK hP hD hS (_ + 4) 0 (app_r rfl) rfl (t := ci) (x := nI 3) (by omega) (by decide) dL_drafts_738 (fun H locs hP hD hS => ?_)
                      rw [app_setr, upd_nI] at hP hD
                      have hP : va_P (dC, dI) vwCl (cw cy e0 ad L S N ++ yw ab cy (va_up Y 4 (va_up (Y 4) ci 3)) t D a b) H := hP
                      have hD : va_D A (cw cy e0 ad L S N ++ yw ab cy (va_up Y 4 (va_up (Y 4) ci 3)) t D a b) := hD
                      refine lv_aload hx hb dL_drafts_739 (lv_at hl 13 rfl) ?_
                      refine lv_iload hx hb dL_drafts_741 (lv_at hl 4 rfl) ?_
                      refine x_iald (f := fun j => nI ((va_up Y 4 (va_up (Y 4) ci 3)) 4 j)) hx hb hK hP (_ + 4) 0 (app_r rfl) rfl (t := ci) (by omega) (by decide) dL_drafts_743 ?_
                      refine to_i (y := nI (3)) (congrArg nI (by simp [va_up])) ?_
                      refine lv_iconst (v := nI 3) hx hb dL_drafts_744 (by decide) ?_
                      refine lv_icmp_ge (tgt := 765) hx hb dL_drafts_745 (by decide) (fun _ => ?_) (fun h9 => absurd h9 (by decide))
                      refine lv_aload hx hb dL_drafts_765 (lv_at hl 13 rfl) ?_
                      refine lv_iload hx hb dL_drafts_767 (lv_at hl 4 rfl) ?_
                      refine lv_iconst (v := nI 4) hx hb dL_drafts_769 (by decide) ?_
                      refine x_iast (f := fun j => nI ((va_up Y 4 (va_up (Y 4) ci 3)) 4 j)) hx hb hK hP hD hS (_ + 4) 0 (app_r rfl) rfl (t := ci) (x := nI 4) (by omega) (by decide) dL_drafts_770 (fun H locs hP hD hS => ?_)
                      rw [app_setr, upd_nI] at hP hD
                      have hP : va_P (dC, dI) vwCl (cw cy e0 ad L S N ++ yw ab cy (va_up (va_up Y 4 (va_up (Y 4) ci 3)) 4 (va_up ((va_up Y 4 (va_up (Y 4) ci 3)) 4) ci 4)) t D a b) H := hP
                      have hD : va_D A (cw cy e0 ad L S N ++ yw ab cy (va_up (va_up Y 4 (va_up (Y 4) ci 3)) 4 (va_up ((va_up Y 4 (va_up (Y 4) ci 3)) 4) ci 4)) t D a b) := hD
                      refine lv_aload hx hb dL_drafts_771 (lv_at hl 16 rfl) ?_
                      refine lv_iconst (v := nI 2) hx hb dL_drafts_773 (by decide) ?_
                      refine x_iald (f := gf D a b) hx hb hK hP (_ + 7) 0 (app_r rfl) rfl (t := 2) (by decide) (by decide) dL_drafts_774 ?_
                      refine to_i (y := nI b) rfl ?_
                      refine lv_istore (lv' := [(17, .int (nI b)), (16, .int (nI it)), (15, .int (nI ((6 * ci) + cl))), (14, .int (nI cl)), (13, .int (nI 0)), (12, .int (nI ci)), (0, .ref oc), (1, .int (nI act)), (2, .int y), (3, .int x), (4, .ref ((ab 0))), (5, .ref ((ab 1))), (6, .ref ((ab 2))), (7, .ref ((ab 3))), (8, .ref ((ab 4))), (9, .ref ((ab 5))), (10, .ref ((ab 6))), (11, .ref ((ab 7)))]) hx hb dL_drafts_775 hl (by decide) rfl (fun ls hl => ?_)
                      have hRs : RZm 6 (S_sgn S ci 0) N (va_up (va_up Y 4 (va_up (Y 4) ci 3)) 4 (va_up ((va_up Y 4 (va_up (Y 4) ci 3)) 4) ci 4)) t D a b := rz_sgn hR (by omega) (by omega) (by decide) (fun r hr => (Y_row hr).trans (Y_row hr)) (fun j hj => (Y_ne hj).trans (Y_ne hj)) (Y_at _ _ _ _) (zY_up (zY_up hYb _ _ (by decide)) _ _ (by decide)) (sg_two hR.2.2.2.1 (by omega) (by decide) hdr0 (g0.trans nI_00) hsg).2 (sgN_two hR (by omega) hdr0 hsg)
                      generalize hSG : S_sgn S ci 0 = SG at hRs
                      refine lv_iconst (v := nI 0) hx hb dL_drafts_777 (by decide) ?_
                      refine lv_istore (lv' := [(18, .int (nI 0)), (17, .int (nI b)), (16, .int (nI it)), (15, .int (nI ((6 * ci) + cl))), (14, .int (nI cl)), (13, .int (nI 0)), (12, .int (nI ci)), (0, .ref oc), (1, .int (nI act)), (2, .int y), (3, .int x), (4, .ref ((ab 0))), (5, .ref ((ab 1))), (6, .ref ((ab 2))), (7, .ref ((ab 3))), (8, .ref ((ab 4))), (9, .ref ((ab 5))), (10, .ref ((ab 6))), (11, .ref ((ab 7)))]) hx hb dL_drafts_778 hl (by decide) rfl (fun ls hl => ?_)
                      have hl_d : ∀ (k9 ck : Nat) (Y1 : Nat → Nat → Nat) (t1 : Nat → Int32) (b1 : Nat), 6 - ck = k9 → ck ≤ 6 → RZm (6 - ck) (K_mkD SG N ci ck).1 (K_mkD SG N ci ck).2 Y1 t1 D a b1 → b1 = b + K_made SG N ci ck → ∀ (H : Heap) (locs : List Loc) (ls : Array Slot), va_P (dC, dI) vwCl (cw cy e0 ad L S N ++ yw ab cy Y1 t1 D a b1) H → va_D A (cw cy e0 ad L S N ++ yw ab cy Y1 t1 D a b1) → va_S A s.heap H locs → lv_has ls 21 [(0, .ref oc), (1, .int (nI act)), (2, .int y), (3, .int x), (4, .ref ((ab 0))), (5, .ref ((ab 1))), (6, .ref ((ab 2))), (7, .ref ((ab 3))), (8, .ref ((ab 4))), (9, .ref ((ab 5))), (10, .ref ((ab 6))), (11, .ref ((ab 7))), (12, .int (nI ci)), (13, .int (nI 0)), (14, .int (nI cl)), (15, .int (nI ((6 * ci) + cl))), (16, .int (nI it)), (17, .int (nI b)), (18, .int (nI ck))] → W p l e ({ frames := 11, cells := 200, slots := 20000, locals := 282 }) s m (([.ref oc, .int (nI act), .int y, .int x, .ref ((ab 0)), .ref ((ab 1)), .ref ((ab 2)), .ref ((ab 3)), .ref ((ab 4)), .ref ((ab 5)), .ref ((ab 6)), .ref ((ab 7))] : List Value).toArray) below meth c H locs 46 8120 QQ (F0 m 780 ls []) := by
                        intro k9
                        induction k9 using Nat.strongRecOn with
                        | _ k9 ih_d =>
                          intro ck Y1 t1 b1 hk9 hle9 hR1 hbm H locs ls hP hD hS hl
                          refine lv_iload hx hb dL_drafts_780 (lv_at hl 18 rfl) ?_
                          refine lv_bipush (v := nI 6) hx hb dL_drafts_782 (by decide) ?_
                          refine n_ge (tgt := 899) hx hb dL_drafts_784 (by decide) (by omega) (by omega) (fun c_10 => ?_) (fun c_10 => ?_)
                          · obtain rfl : 6 = ck := by omega
                            refine lv_aload_n hx hb dL_drafts_899 rfl (lv_at hl 0 rfl) ?_
                            refine lv_iload hx hb dL_drafts_900 (lv_at hl 12 rfl) ?_
                            refine lv_iload hx hb dL_drafts_902 (lv_at hl 13 rfl) ?_
                            refine callY_i hP (vx_runSW (As := [.ref oc, .int (nI ci), .int (nI 0)]) (rest := []) ⟨hx, hb, hml, hown, hts⟩ (qL_sign l dC dI cy e0 mi oc ad L S N H.size (nI ci) (nI 0) hI hX (fun i hi hd => by have := rz_room hR hN hi hd; omega) hst hoc) (vx_cwSW 3 hts gL_drafts_L_sign rfl rfl rfl (by decide +kernel) ⟨Nat.le_of_ble_eq_true rfl, Nat.le_of_ble_eq_true rfl⟩) (preLS hK (w_leftP hP) (w_leftD hD) hS hA ham) rfl rfl hl.1 rfl (lv_room (Nat.le_of_ble_eq_true rfl)) dL_drafts_904 ⟨Nat.le_of_ble_eq_true rfl, Nat.le_of_ble_eq_true rfl⟩) hD hS hA (fun rr uc H locs hw hP hD hS => ?_)
                            rw [eci] at hw
                            rw [ix_nI (show (0 : Nat) < 2 ^ 31 by decide)] at hw
                            rw [if_neg hsg] at hw
                            rw [if_neg hsg] at hw
                            rw [hSG] at hw
                            obtain ⟨er, ad, L, rfl, hI, hX, hoc⟩ := lres_n0 hw ((if_pos (ct_in (by omega) (by omega))).trans ((if_pos (by decide)).trans (if_pos (by rw [eci, ix_nI (show (0 : Nat) < 2 ^ 31 by decide)]; exact ⟨hob0, g0.trans nI_00⟩))))
                            have hP : va_P (dC, dI) vwCl (cwT cy e0 (ad, L, K_mkD SG N ci 10) ++ yw ab cy Y1 t1 D a b1) H := hP
                            have hD : va_D A (cwT cy e0 (ad, L, K_mkD SG N ci 10) ++ yw ab cy Y1 t1 D a b1) := hD
                            refine to_i (y := nI (b1 - b)) (er.trans (congrArg nI (by rw [(mkD_stop SG N ci (hi6 hR hN (by omega)) 4 (by decide)).2]; omega))) ?_
                            refine lv_aload hx hb dL_drafts_907 (lv_at hl 11 rfl) ?_
                            refine lv_iconst (v := nI 2) hx hb dL_drafts_909 (by decide) ?_
                            refine x_iald (f := gf D a b1) hx hb hK hP (_ + 7) 0 (app_r rfl) rfl (t := 2) (by decide) (by decide) dL_drafts_910 ?_
                            refine to_i (y := nI b1) rfl ?_
                            refine lv_iload hx hb dL_drafts_911 (lv_at hl 17 rfl) ?_
                            refine lv_isub hx hb dL_drafts_913 ?_
                            refine to_i (y := nI (b1 - b)) (pk_sub (by omega)) ?_
                            refine lv_icmp_ne (tgt := 921) hx hb dL_drafts_914 (by decide) (fun h9 => absurd rfl h9) (fun _ => ?_)
                            refine lv_iconst (v := nI 1) hx hb dL_drafts_917 (by decide) ?_
                            refine lv_goto (tgt := 922) hx hb dL_drafts_918 (by decide) ?_
                            rw [← hQQ]; exact end_z (u := ((ad, L, K_mkD SG N ci 10), (Y1, t1, D, a, b1))) hx hb hr hlocks dL_drafts_922 hK hP hD hS (by rfl) ⟨rfl, ⟨hI, hX⟩, hoc, (by show RZ (K_mkD SG N ci 10).1 (K_mkD SG N ci 10).2 _ _ _ _ _; rw [(mkD_stop SG N ci (hi6 hR hN (by omega)) 4 (by decide)).1]; exact hR1)⟩ (Nat.le_of_ble_eq_true rfl) (Nat.le_of_ble_eq_true rfl)
                          · have hYb1 : zY Y1 := hR1.2.2.2.2.2.2.2
                            obtain ⟨⟨sm1, sm2, sm3⟩, sm4⟩ := mkD_same SG N ci ck
                            have hq60 := rz_60m hR1 hN sm1
                            have hle := hN.1 ci ck (by omega) (by omega)
                            have hle9 := hN.2.1 ck (by omega)
                            obtain ⟨zi0, zi1⟩ := (hR1.2.2.1 ci (by omega)).1 ck (by omega)
                            rw [sm3] at zi0 zi1
                            refine lv_aload hx hb dL_drafts_787 (lv_at hl 7 rfl) ?_
                            refine lv_bipush (v := nI 6) hx hb dL_drafts_789 (by decide) ?_
                            refine lv_iload hx hb dL_drafts_791 (lv_at hl 12 rfl) ?_
                            refine lv_imul hx hb dL_drafts_793 ?_
                            refine to_i (y := nI (6 * ci)) (pk_mul _ _) ?_
                            refine lv_iload hx hb dL_drafts_794 (lv_at hl 18 rfl) ?_
                            refine lv_iadd hx hb dL_drafts_796 ?_
                            refine to_i (y := nI ((6 * ci) + ck)) (nI_add _ _) ?_
                            refine x_iald (f := fun j => nI (Y1 3 j)) hx hb hK hP (_ + 3) 0 (app_r rfl) rfl (t := (6 * ci) + ck) (by omega) (by decide) dL_drafts_797 ?_
                            refine to_i (y := nI (Y1 3 ((6 * ci) + ck))) rfl ?_
                            refine lv_istore (lv' := [(19, .int (nI (Y1 3 ((6 * ci) + ck)))), (0, .ref oc), (1, .int (nI act)), (2, .int y), (3, .int x), (4, .ref ((ab 0))), (5, .ref ((ab 1))), (6, .ref ((ab 2))), (7, .ref ((ab 3))), (8, .ref ((ab 4))), (9, .ref ((ab 5))), (10, .ref ((ab 6))), (11, .ref ((ab 7))), (12, .int (nI ci)), (13, .int (nI 0)), (14, .int (nI cl)), (15, .int (nI ((6 * ci) + cl))), (16, .int (nI it)), (17, .int (nI b)), (18, .int (nI ck))]) hx hb dL_drafts_798 hl (by decide) rfl (fun ls hl => ?_)
                            refine lv_iload hx hb dL_drafts_800 (lv_at hl 0 rfl) ?_
                            refine n_if_ne (tgt := 808) hx hb dL_drafts_802 (by decide) (by have := hYb1 3 ((6 * ci) + ck); omega) (fun c_11 => ?_) (fun c_11 => ?_)
                            · have hz : ¬ N 2 ci ck = 0 := fun q => c_11 (zi0 q)
                              obtain ⟨y1, y2, y3, y4⟩ := zi1 hz
                              refine lv_aload hx hb dL_drafts_808 (lv_at hl 7 rfl) ?_
                              refine lv_bipush (v := nI 9) hx hb dL_drafts_810 (by decide) ?_
                              refine lv_iload hx hb dL_drafts_812 (lv_at hl 19 rfl) ?_
                              refine lv_imul hx hb dL_drafts_814 ?_
                              refine to_i (y := nI (9 * ck)) (pk_mul _ _) ?_
                              refine lv_iload hx hb dL_drafts_815 (lv_at hl 0 rfl) ?_
                              refine lv_bipush (v := nI 15) hx hb dL_drafts_817 (by decide) ?_
                              refine lv_iand hx hb dL_drafts_819 ?_
                              refine to_i (y := nI ((Y1 3 ((6 * ci) + ck)) % 16)) (pk_andN (by have := hYb1 3 ((6 * ci) + ck); omega) 4 (by decide)) ?_
                              refine to_i (y := nI (N 2 ci ck)) (congrArg nI (by omega)) ?_
                              refine lv_iadd hx hb dL_drafts_820 ?_
                              refine to_i (y := nI ((9 * ck) + (N 2 ci ck))) (nI_add _ _) ?_
                              refine lv_iconst (v := nI 1) hx hb dL_drafts_821 (by decide) ?_
                              refine lv_isub hx hb dL_drafts_822 ?_
                              refine to_i (y := nI (((9 * ck) + (N 2 ci ck)) - 1)) (pk_sub (by omega)) ?_
                              refine x_iald (f := fun j => nI (Y1 2 j)) hx hb hK hP (_ + 2) 0 (app_r rfl) rfl (t := ((9 * ck) + (N 2 ci ck)) - 1) (by omega) (by decide) dL_drafts_823 ?_
                              refine to_i (y := nI (Y1 2 (((9 * ck) + (N 2 ci ck)) - 1))) rfl ?_
                              obtain ⟨td, htd⟩ : ∃ td, Y1 2 (9 * ck + N 2 ci ck - 1) = td := ⟨_, rfl⟩
                              have htdb : td < 67108864 := by rw [← htd]; exact hYb1 _ _
                              refine to_i (y := nI td) (congrArg nI htd) ?_
                              refine lv_istore (lv' := [(20, .int (nI td)), (19, .int (nI (Y1 3 ((6 * ci) + ck)))), (0, .ref oc), (1, .int (nI act)), (2, .int y), (3, .int x), (4, .ref ((ab 0))), (5, .ref ((ab 1))), (6, .ref ((ab 2))), (7, .ref ((ab 3))), (8, .ref ((ab 4))), (9, .ref ((ab 5))), (10, .ref ((ab 6))), (11, .ref ((ab 7))), (12, .int (nI ci)), (13, .int (nI 0)), (14, .int (nI cl)), (15, .int (nI ((6 * ci) + cl))), (16, .int (nI it)), (17, .int (nI b)), (18, .int (nI ck))]) hx hb dL_drafts_824 hl (by decide) rfl (fun ls hl => ?_)
                              refine lv_aload hx hb dL_drafts_826 (lv_at hl 11 rfl) ?_
                              refine lv_aload hx hb dL_drafts_828 (lv_at hl 13 rfl) ?_
                              refine lv_iconst (v := nI 2) hx hb dL_drafts_830 (by decide) ?_
                              refine x_iald (f := gf D a b1) hx hb hK hP (_ + 7) 0 (app_r rfl) rfl (t := 2) (by decide) (by decide) dL_drafts_831 ?_
                              refine to_i (y := nI b1) rfl ?_
                              refine lv_iload hx hb dL_drafts_832 (lv_at hl 14 rfl) ?_
                              refine lv_bipush (v := nI 16) hx hb dL_drafts_834 (by decide) ?_
                              refine lv_iload hx hb dL_drafts_836 (lv_at hl 0 rfl) ?_
                              refine lv_iconst (v := nI 1) hx hb dL_drafts_838 (by decide) ?_
                              refine lv_iand hx hb dL_drafts_839 ?_
                              refine to_i (y := nI (td % 2)) (pk_andN (by omega) 1 (by decide)) ?_
                              refine lv_imul hx hb dL_drafts_840 ?_
                              refine to_i (y := nI (16 * (td % 2))) (pk_mul _ _) ?_
                              refine lv_iadd hx hb dL_drafts_841 ?_
                              refine to_i (y := nI (ci + (16 * (td % 2)))) (nI_add _ _) ?_
                              refine lv_sipush (v := nI 256) hx hb dL_drafts_842 (by decide) ?_
                              refine lv_iload hx hb dL_drafts_845 (lv_at hl 0 rfl) ?_
                              refine lv_bipush (v := nI 8) hx hb dL_drafts_847 (by decide) ?_
                              refine lv_ishr hx hb dL_drafts_849 ?_
                              refine to_i (y := nI (td / 256)) (pk_shrN (by omega) _ 8 (by decide)) ?_
                              refine lv_bipush (v := nI 63) hx hb dL_drafts_850 (by decide) ?_
                              refine lv_iand hx hb dL_drafts_852 ?_
                              refine to_i (y := nI ((td / 256) % 64)) (pk_andN (by omega) 6 (by decide)) ?_
                              refine lv_imul hx hb dL_drafts_853 ?_
                              refine to_i (y := nI (256 * ((td / 256) % 64))) (pk_mul _ _) ?_
                              refine lv_iadd hx hb dL_drafts_854 ?_
                              refine to_i (y := nI ((ci + (16 * (td % 2))) + (256 * ((td / 256) % 64)))) (nI_add _ _) ?_
                              refine lv_sipush (v := nI 16384) hx hb dL_drafts_855 (by decide) ?_
                              refine lv_iload hx hb dL_drafts_858 (lv_at hl 0 rfl) ?_
                              refine lv_bipush (v := nI 14) hx hb dL_drafts_860 (by decide) ?_
                              refine lv_ishr hx hb dL_drafts_862 ?_
                              refine to_i (y := nI (td / 16384)) (pk_shrN (by omega) _ 14 (by decide)) ?_
                              refine lv_imul hx hb dL_drafts_863 ?_
                              refine to_i (y := nI (16384 * (td / 16384))) (pk_mul _ _) ?_
                              refine lv_iadd hx hb dL_drafts_864 ?_
                              refine to_i (y := nI (((ci + (16 * (td % 2))) + (256 * ((td / 256) % 64))) + (16384 * (td / 16384)))) (nI_add _ _) ?_
                              refine x_iast (f := fun j => nI (Y1 5 j)) hx hb hK hP hD hS (_ + 5) 0 (app_r rfl) rfl (t := b1) (x := nI (((ci + (16 * (td % 2))) + (256 * ((td / 256) % 64))) + (16384 * (td / 16384)))) (by omega) (by decide) dL_drafts_865 (fun H locs hP hD hS => ?_)
                              rw [app_setr, upd_nI] at hP hD
                              have hP : va_P (dC, dI) vwCl (cw cy e0 ad L S N ++ yw ab cy (va_up Y1 5 (va_up (Y1 5) b1 (((ci + (16 * (td % 2))) + (256 * ((td / 256) % 64))) + (16384 * (td / 16384))))) t1 D a b1) H := hP
                              have hD : va_D A (cw cy e0 ad L S N ++ yw ab cy (va_up Y1 5 (va_up (Y1 5) b1 (((ci + (16 * (td % 2))) + (256 * ((td / 256) % 64))) + (16384 * (td / 16384))))) t1 D a b1) := hD
                              refine lv_aload hx hb dL_drafts_866 (lv_at hl 12 rfl) ?_
                              refine lv_aload hx hb dL_drafts_868 (lv_at hl 13 rfl) ?_
                              refine lv_iconst (v := nI 2) hx hb dL_drafts_870 (by decide) ?_
                              refine x_iald (f := gf D a b1) hx hb hK hP (_ + 7) 0 (app_r rfl) rfl (t := 2) (by decide) (by decide) dL_drafts_871 ?_
                              refine to_i (y := nI b1) rfl ?_
                              refine lv_aload hx hb dL_drafts_872 (lv_at hl 13 rfl) ?_
                              refine lv_iconst (v := nI 0) hx hb dL_drafts_874 (by decide) ?_
                              refine x_iald (f := gf D a b1) hx hb hK hP (_ + 7) 0 (app_r rfl) rfl (t := 0) (by decide) (by decide) dL_drafts_875 ?_
                              refine to_i (y := D) rfl ?_
                              refine lv_iload hx hb dL_drafts_876 (lv_at hl 0 rfl) ?_
                              refine lv_iconst (v := nI 1) hx hb dL_drafts_878 (by decide) ?_
                              refine lv_ishr hx hb dL_drafts_879 ?_
                              refine to_i (y := nI (td / 2)) (pk_shrN (by omega) _ 1 (by decide)) ?_
                              refine lv_bipush (v := nI 127) hx hb dL_drafts_880 (by decide) ?_
                              refine lv_iand hx hb dL_drafts_882 ?_
                              refine to_i (y := nI ((td / 2) % 128)) (pk_andN (by omega) 7 (by decide)) ?_
                              refine lv_iadd hx hb dL_drafts_883 ?_
                              refine x_iast (f := t1) hx hb hK hP hD hS (_ + 6) 0 (app_r rfl) rfl (t := b1) (x := (D + (nI ((td / 2) % 128)))) (by omega) (by decide) dL_drafts_884 (fun H locs hP hD hS => ?_)
                              rw [app_setr] at hP hD
                              have hP : va_P (dC, dI) vwCl (cw cy e0 ad L S N ++ yw ab cy (va_up Y1 5 (va_up (Y1 5) b1 (((ci + (16 * (td % 2))) + (256 * ((td / 256) % 64))) + (16384 * (td / 16384))))) (upd t1 b1 (D + (nI ((td / 2) % 128)))) D a b1) H := hP
                              have hD : va_D A (cw cy e0 ad L S N ++ yw ab cy (va_up Y1 5 (va_up (Y1 5) b1 (((ci + (16 * (td % 2))) + (256 * ((td / 256) % 64))) + (16384 * (td / 16384))))) (upd t1 b1 (D + (nI ((td / 2) % 128)))) D a b1) := hD
                              refine lv_aload hx hb dL_drafts_885 (lv_at hl 13 rfl) ?_
                              refine lv_iconst (v := nI 2) hx hb dL_drafts_887 (by decide) ?_
                              refine lv_dup2_11 hx hb dL_drafts_888 rfl rfl ?_
                              refine x_iald (f := gf D a b1) hx hb hK hP (_ + 7) 0 (app_r rfl) rfl (t := 2) (by decide) (by decide) dL_drafts_889 ?_
                              refine to_i (y := nI b1) rfl ?_
                              refine lv_iconst (v := nI 1) hx hb dL_drafts_890 (by decide) ?_
                              refine lv_iadd hx hb dL_drafts_891 ?_
                              refine to_i (y := nI (b1 + 1)) (nI_add _ _) ?_
                              refine x_iast (f := gf D a b1) hx hb hK hP hD hS (_ + 7) 0 (app_r rfl) rfl (t := 2) (x := (nI (b1 + 1))) (by decide) (by decide) dL_drafts_892 (fun H locs hP hD hS => ?_)
                              rw [app_setr, gf_2] at hP hD
                              have hP : va_P (dC, dI) vwCl (cw cy e0 ad L S N ++ yw ab cy (va_up Y1 5 (va_up (Y1 5) b1 (((ci + (16 * (td % 2))) + (256 * ((td / 256) % 64))) + (16384 * (td / 16384))))) (upd t1 b1 (D + (nI ((td / 2) % 128)))) D a (b1 + 1)) H := hP
                              have hD : va_D A (cw cy e0 ad L S N ++ yw ab cy (va_up Y1 5 (va_up (Y1 5) b1 (((ci + (16 * (td % 2))) + (256 * ((td / 256) % 64))) + (16384 * (td / 16384))))) (upd t1 b1 (D + (nI ((td / 2) % 128)))) D a (b1 + 1)) := hD
                              refine lv_iinc (v := nI (ck + 1)) (lv' := [(18, .int (nI (ck + 1))), (20, .int (nI td)), (19, .int (nI (Y1 3 ((6 * ci) + ck)))), (0, .ref oc), (1, .int (nI act)), (2, .int y), (3, .int x), (4, .ref ((ab 0))), (5, .ref ((ab 1))), (6, .ref ((ab 2))), (7, .ref ((ab 3))), (8, .ref ((ab 4))), (9, .ref ((ab 5))), (10, .ref ((ab 6))), (11, .ref ((ab 7))), (12, .int (nI ci)), (13, .int (nI 0)), (14, .int (nI cl)), (15, .int (nI ((6 * ci) + cl))), (16, .int (nI it)), (17, .int (nI b))]) hx hb dL_drafts_893 hl (k := 20) rfl (by rw [show Int32.ofInt 1 = 1 from rfl]; exact nI_1 _) (by decide) rfl (fun ls hl => ?_)
                              refine lv_goto (tgt := 780) hx hb dL_drafts_896 (by decide) ?_
                              have eK : K_mkD SG N ci (ck + 1) = (S_dut (K_mkD SG N ci ck).1 ((K_mkD SG N ci ck).2 5 0 0) ((K_mkD SG N ci ck).1 0 0 0 + (K_mkD SG N ci ck).1 3 (9 * ck + (K_mkD SG N ci ck).2 2 ci ck - 1) 1), N_dut (K_mkD SG N ci ck).2 ci (9 * ck + (K_mkD SG N ci ck).2 2 ci ck - 1)) := if_neg (by rw [sm3]; exact hz)
                              have eM : K_made SG N ci (ck + 1) = K_made SG N ci ck + 1 := if_neg (by rw [sm3]; exact hz)
                              have hRn := rz_put (q := 6 - (ck + 1)) (i := ci) (c := ck) (told := td) (by rw [show 6 - (ck + 1) + 1 = 6 - ck by omega]; exact hR1) (by rw [sm1]; omega) (by omega) (by omega) (by rw [sm3]; exact hz) (by rw [sm2, sm3]; exact hle) (by rw [sm4]; exact hN.2.2.1) (by rw [sm3]; exact htd.symm) rfl rfl
                              exact ih_d (6 - (ck + 1)) (by omega) (ck + 1) (va_up Y1 5 (va_up (Y1 5) b1 (((ci + (16 * (td % 2))) + (256 * ((td / 256) % 64))) + (16384 * (td / 16384))))) (upd t1 b1 (D + (nI ((td / 2) % 128)))) (b1 + 1) rfl (by omega) (by rw [eK]; exact hRn) (by omega) H locs ls hP hD hS (by exact lv_sub hl [3, 4, 5, 6, 7, 8, 9, 10, 11, 12, 13, 14, 15, 16, 17, 18, 19, 20, 0] rfl)
                            · have hz : N 2 ci ck = 0 := Classical.byContradiction (fun q => by obtain ⟨-, -, -, e⟩ := zi1 q; omega)
                              refine lv_goto (tgt := 893) hx hb dL_drafts_805 (by decide) ?_
                              refine lv_iinc (v := nI (ck + 1)) (lv' := [(18, .int (nI (ck + 1))), (19, .int (nI (Y1 3 ((6 * ci) + ck)))), (0, .ref oc), (1, .int (nI act)), (2, .int y), (3, .int x), (4, .ref ((ab 0))), (5, .ref ((ab 1))), (6, .ref ((ab 2))), (7, .ref ((ab 3))), (8, .ref ((ab 4))), (9, .ref ((ab 5))), (10, .ref ((ab 6))), (11, .ref ((ab 7))), (12, .int (nI ci)), (13, .int (nI 0)), (14, .int (nI cl)), (15, .int (nI ((6 * ci) + cl))), (16, .int (nI it)), (17, .int (nI b))]) hx hb dL_drafts_893 hl (k := 19) rfl (by rw [show Int32.ofInt 1 = 1 from rfl]; exact nI_1 _) (by decide) rfl (fun ls hl => ?_)
                              refine lv_goto (tgt := 780) hx hb dL_drafts_896 (by decide) ?_
                              have eK : K_mkD SG N ci (ck + 1) = K_mkD SG N ci ck := if_pos (by rw [sm3]; exact hz)
                              have eM : K_made SG N ci (ck + 1) = K_made SG N ci ck := if_pos (by rw [sm3]; exact hz)
                              exact ih_d (6 - (ck + 1)) (by omega) (ck + 1) Y1 t1 b1 rfl (by omega) (by rw [eK]; exact rz_less hR1 (by omega)) (by rw [eM]; exact hbm) H locs ls hP hD hS (by exact lv_sub hl [2, 3, 4, 5, 6, 7, 8, 9, 10, 11, 12, 13, 14, 15, 16, 17, 18, 19, 0] rfl)
                      exact hl_d 6 0 (va_up (va_up Y 4 (va_up (Y 4) ci 3)) 4 (va_up ((va_up Y 4 (va_up (Y 4) ci 3)) 4) ci 4)) t b rfl (Nat.zero_le _) hRs rfl H locs ls hP hD hS (lv_sub hl [7, 8, 9, 10, 11, 12, 13, 14, 15, 16, 17, 18, 6, 5, 4, 3, 2, 1, 0] rfl)
                  · rcases (show s1 = 0 ∨ s1 = 1 by omega) with rfl | rfl
                    · refine lv_aload hx hb dL_drafts_694 (lv_at hl 13 rfl) ?_
                      refine lv_iload hx hb dL_drafts_696 (lv_at hl 4 rfl) ?_
                      refine x_iald (f := fun j => nI (Y 4 j)) hx hb hK hP (_ + 4) 0 (app_r rfl) rfl (t := ci) (by omega) (by decide) dL_drafts_698 ?_
                      refine to_i (y := nI (Y 4 ci)) rfl ?_
                      refine to_i (y := nI 1) (congrArg nI (by omega)) ?_
                      refine lv_iload hx hb dL_drafts_699 (lv_at hl 3 rfl) ?_
                      refine lv_ishr hx hb dL_drafts_701 ?_
                      refine to_i (y := nI (1 / 1)) (pk_shrN (by omega) _ 0 (by decide)) ?_
                      refine lv_iconst (v := nI 1) hx hb dL_drafts_702 (by decide) ?_
                      refine lv_iand hx hb dL_drafts_703 ?_
                      refine to_i (y := nI ((1 / 1) % 2)) (pk_andN (by omega) 1 (by decide)) ?_
                      refine to_i (y := nI 1) (congrArg nI (by omega)) ?_
                      refine lv_iconst (v := nI 1) hx hb dL_drafts_704 (by decide) ?_
                      refine lv_icmp_ne (tgt := 727) hx hb dL_drafts_705 (by decide) (fun h9 => absurd rfl h9) (fun _ => ?_)
                      refine lv_aload_n hx hb dL_drafts_708 rfl (lv_at hl 5 rfl) ?_
                      refine lv_iload hx hb dL_drafts_709 (lv_at hl 4 rfl) ?_
                      refine lv_iload hx hb dL_drafts_711 (lv_at hl 3 rfl) ?_
                      refine callY_i hP (vx_runSW (As := [.ref oc, .int (nI ci), .int (nI 0)]) (rest := []) ⟨hx, hb, hml, hown, hts⟩ (qL_sign l dC dI cy e0 mi oc ad L S N H.size (nI ci) (nI 0) hI hX (fun i hi hd => by have := rz_room hR hN hi hd; omega) hst hoc) (vx_cwSW 3 hts gL_drafts_L_sign rfl rfl rfl (by decide +kernel) ⟨Nat.le_of_ble_eq_true rfl, Nat.le_of_ble_eq_true rfl⟩) (preLS hK (w_leftP hP) (w_leftD hD) hS hA ham) rfl rfl hl.1 rfl (lv_room (Nat.le_of_ble_eq_true rfl)) dL_drafts_713 ⟨Nat.le_of_ble_eq_true rfl, Nat.le_of_ble_eq_true rfl⟩) hD hS hA (fun rr uc H locs hw hP hD hS => ?_)
                      obtain ⟨rfl, ad, L, rfl, hI, hX, hoc⟩ := lres_n3 hw ((if_pos (ct_in (by omega) (by omega))).trans ((if_pos (by decide)).trans (if_neg (by rw [eci, ix_nI (show (0 : Nat) < 2 ^ 31 by decide)]; exact fun q => absurd (g0.symm.trans q.2) (by decide)))))
                      have hP : va_P (dC, dI) vwCl (cw cy e0 ad L S N ++ yw ab cy Y t D a b) H := hP
                      have hD : va_D A (cw cy e0 ad L S N ++ yw ab cy Y t D a b) := hD
                      refine lv_bipush (v := -73) hx hb dL_drafts_716 (by decide) ?_
                      refine lv_icmp_ne (tgt := 725) hx hb dL_drafts_718 (by decide) (fun h9 => absurd rfl h9) (fun _ => ?_)
                      refine lv_iconst (v := nI 1) hx hb dL_drafts_721 (by decide) ?_
                      refine lv_goto (tgt := 726) hx hb dL_drafts_722 (by decide) ?_
                      rw [← hQQ]; exact end_z (u := ((ad, L, S, N), (Y, t, D, a, b))) hx hb hr hlocks dL_drafts_726 hK hP hD hS (by rfl) ⟨rfl, ⟨hI, hX⟩, hoc, hR⟩ (Nat.le_of_ble_eq_true rfl) (Nat.le_of_ble_eq_true rfl)
                    · exact absurd g4 (hdr.mp hdr0)
                · rcases (show s0 = 0 ∨ s0 = 1 by omega) with rfl | rfl
                  · rcases (show s1 = 0 ∨ s1 = 1 by omega) with rfl | rfl
                    · refine lv_aload hx hb dL_drafts_694 (lv_at hl 13 rfl) ?_
                      refine lv_iload hx hb dL_drafts_696 (lv_at hl 4 rfl) ?_
                      refine x_iald (f := fun j => nI (Y 4 j)) hx hb hK hP (_ + 4) 0 (app_r rfl) rfl (t := ci) (by omega) (by decide) dL_drafts_698 ?_
                      refine to_i (y := nI (Y 4 ci)) rfl ?_
                      refine to_i (y := nI 0) (congrArg nI (by omega)) ?_
                      refine lv_iload hx hb dL_drafts_699 (lv_at hl 3 rfl) ?_
                      refine lv_ishr hx hb dL_drafts_701 ?_
                      refine to_i (y := nI (0 / 2)) (pk_shrN (by omega) _ 1 (by decide)) ?_
                      refine lv_iconst (v := nI 1) hx hb dL_drafts_702 (by decide) ?_
                      refine lv_iand hx hb dL_drafts_703 ?_
                      refine to_i (y := nI ((0 / 2) % 2)) (pk_andN (by omega) 1 (by decide)) ?_
                      refine to_i (y := nI 0) (congrArg nI (by omega)) ?_
                      refine lv_iconst (v := nI 1) hx hb dL_drafts_704 (by decide) ?_
                      refine lv_icmp_ne (tgt := 727) hx hb dL_drafts_705 (by decide) (fun _ => ?_) (fun h9 => absurd h9 (by decide))
                      refine lv_aload hx hb dL_drafts_727 (lv_at hl 13 rfl) ?_
                      refine lv_iload hx hb dL_drafts_729 (lv_at hl 4 rfl) ?_
                      refine lv_dup2_11 hx hb dL_drafts_731 rfl rfl ?_
                      refine x_iald (f := fun j => nI (Y 4 j)) hx hb hK hP (_ + 4) 0 (app_r rfl) rfl (t := ci) (by omega) (by decide) dL_drafts_732 ?_
                      refine to_i (y := nI (Y 4 ci)) rfl ?_
                      refine to_i (y := nI 0) (congrArg nI (by omega)) ?_
                      refine lv_iconst (v := nI 1) hx hb dL_drafts_733 (by decide) ?_
                      refine lv_iload hx hb dL_drafts_734 (lv_at hl 3 rfl) ?_
                      refine lv_ishl hx hb dL_drafts_736 ?_
                      refine lv_ior hx hb dL_drafts_737 ?_
                      have hsg : isDr (S_sgn S ci 1) ci := (sg_at S ci).2.mpr (g0.trans nI_00)
                      refine to_i (y := nI 2) (by decide) ?_
                      refine x_iast (f := fun j => nI (Y 4 j)) hx hb hK hP hD hS (_ + 4) 0 (app_r rfl) rfl (t := ci) (x := nI 2) (by omega) (by decide) dL_drafts_738 (fun H locs hP hD hS => ?_)
                      rw [app_setr, upd_nI] at hP hD
                      have hP : va_P (dC, dI) vwCl (cw cy e0 ad L S N ++ yw ab cy (va_up Y 4 (va_up (Y 4) ci 2)) t D a b) H := hP
                      have hD : va_D A (cw cy e0 ad L S N ++ yw ab cy (va_up Y 4 (va_up (Y 4) ci 2)) t D a b) := hD
                      refine lv_aload hx hb dL_drafts_739 (lv_at hl 13 rfl) ?_
                      refine lv_iload hx hb dL_drafts_741 (lv_at hl 4 rfl) ?_
                      refine x_iald (f := fun j => nI ((va_up Y 4 (va_up (Y 4) ci 2)) 4 j)) hx hb hK hP (_ + 4) 0 (app_r rfl) rfl (t := ci) (by omega) (by decide) dL_drafts_743 ?_
                      refine to_i (y := nI (2)) (congrArg nI (by simp [va_up])) ?_
                      refine lv_iconst (v := nI 3) hx hb dL_drafts_744 (by decide) ?_
                      refine lv_icmp_ge (tgt := 765) hx hb dL_drafts_745 (by decide) (fun h9 => absurd h9 (by decide)) (fun _ => ?_)
                      refine lv_aload_n hx hb dL_drafts_748 rfl (lv_at hl 5 rfl) ?_
                      refine lv_iload hx hb dL_drafts_749 (lv_at hl 4 rfl) ?_
                      refine lv_iload hx hb dL_drafts_751 (lv_at hl 3 rfl) ?_
                      refine callY_i hP (vx_runSW (As := [.ref oc, .int (nI ci), .int (nI 1)]) (rest := []) ⟨hx, hb, hml, hown, hts⟩ (qL_sign l dC dI cy e0 mi oc ad L S N H.size (nI ci) (nI 1) hI hX (fun i hi hd => by have := rz_room hR hN hi hd; omega) hst hoc) (vx_cwSW 3 hts gL_drafts_L_sign rfl rfl rfl (by decide +kernel) ⟨Nat.le_of_ble_eq_true rfl, Nat.le_of_ble_eq_true rfl⟩) (preLS hK (w_leftP hP) (w_leftD hD) hS hA ham) rfl rfl hl.1 rfl (lv_room (Nat.le_of_ble_eq_true rfl)) dL_drafts_753 ⟨Nat.le_of_ble_eq_true rfl, Nat.le_of_ble_eq_true rfl⟩) hD hS hA (fun rr uc H locs hw hP hD hS => ?_)
                      rw [eci] at hw
                      rw [ix_nI (show (1 : Nat) < 2 ^ 31 by decide)] at hw
                      rw [if_pos hsg] at hw
                      rw [if_pos hsg] at hw
                      obtain ⟨er, ad, L, rfl, hI, hX, hoc⟩ := lres_n0 hw ((if_pos (ct_in (by omega) (by omega))).trans ((if_pos (by decide)).trans (if_pos (by rw [eci, ix_nI (show (1 : Nat) < 2 ^ 31 by decide)]; exact ⟨hob0, g1.trans nI_00⟩))))
                      have hP : va_P (dC, dI) vwCl (cwT cy e0 (ad, L, S_sgn S ci 1, N) ++ yw ab cy (va_up Y 4 (va_up (Y 4) ci 2)) t D a b) H := hP
                      have hD : va_D A (cwT cy e0 (ad, L, S_sgn S ci 1, N) ++ yw ab cy (va_up Y 4 (va_up (Y 4) ci 2)) t D a b) := hD
                      refine to_i (y := nI 0) (er.trans (rfl)) ?_
                      refine lv_if_ne (tgt := 763) hx hb dL_drafts_756 (by decide) (fun h9 => absurd h9 (by decide)) (fun _ => ?_)
                      refine lv_iconst (v := nI 1) hx hb dL_drafts_759 (by decide) ?_
                      refine lv_goto (tgt := 764) hx hb dL_drafts_760 (by decide) ?_
                      rw [← hQQ]; exact end_z (u := ((ad, L, S_sgn S ci 1, N), (va_up Y 4 (va_up (Y 4) ci 2), t, D, a, b))) hx hb hr hlocks dL_drafts_764 hK hP hD hS (by rfl) ⟨rfl, ⟨hI, hX⟩, hoc, (by show RZ (S_sgn S ci 1) N (va_up Y 4 (va_up (Y 4) ci 2)) t D a b; exact rz_sgn (v := 2) hR (by omega) (by omega) (by decide) (fun r hr => Y_row hr) (fun j hj => Y_ne hj) (Y_at _ _ _ _) (zY_up hYb _ _ (by decide)) (by have q := (sg_one hR.2.2.2.1 (by omega) (by decide) hdr0 (g1.trans nI_00) hsg).2; rw [if_neg (by decide)] at q; exact q) (sgN_one hR hdr0 hsg))⟩ (Nat.le_of_ble_eq_true rfl) (Nat.le_of_ble_eq_true rfl)
                    · refine lv_aload hx hb dL_drafts_694 (lv_at hl 13 rfl) ?_
                      refine lv_iload hx hb dL_drafts_696 (lv_at hl 4 rfl) ?_
                      refine x_iald (f := fun j => nI (Y 4 j)) hx hb hK hP (_ + 4) 0 (app_r rfl) rfl (t := ci) (by omega) (by decide) dL_drafts_698 ?_
                      refine to_i (y := nI (Y 4 ci)) rfl ?_
                      refine to_i (y := nI 2) (congrArg nI (by omega)) ?_
                      refine lv_iload hx hb dL_drafts_699 (lv_at hl 3 rfl) ?_
                      refine lv_ishr hx hb dL_drafts_701 ?_
                      refine to_i (y := nI (2 / 2)) (pk_shrN (by omega) _ 1 (by decide)) ?_
                      refine lv_iconst (v := nI 1) hx hb dL_drafts_702 (by decide) ?_
                      refine lv_iand hx hb dL_drafts_703 ?_
                      refine to_i (y := nI ((2 / 2) % 2)) (pk_andN (by omega) 1 (by decide)) ?_
                      refine to_i (y := nI 1) (congrArg nI (by omega)) ?_
                      refine lv_iconst (v := nI 1) hx hb dL_drafts_704 (by decide) ?_
                      refine lv_icmp_ne (tgt := 727) hx hb dL_drafts_705 (by decide) (fun h9 => absurd rfl h9) (fun _ => ?_)
                      refine lv_aload_n hx hb dL_drafts_708 rfl (lv_at hl 5 rfl) ?_
                      refine lv_iload hx hb dL_drafts_709 (lv_at hl 4 rfl) ?_
                      refine lv_iload hx hb dL_drafts_711 (lv_at hl 3 rfl) ?_
                      refine callY_i hP (vx_runSW (As := [.ref oc, .int (nI ci), .int (nI 1)]) (rest := []) ⟨hx, hb, hml, hown, hts⟩ (qL_sign l dC dI cy e0 mi oc ad L S N H.size (nI ci) (nI 1) hI hX (fun i hi hd => by have := rz_room hR hN hi hd; omega) hst hoc) (vx_cwSW 3 hts gL_drafts_L_sign rfl rfl rfl (by decide +kernel) ⟨Nat.le_of_ble_eq_true rfl, Nat.le_of_ble_eq_true rfl⟩) (preLS hK (w_leftP hP) (w_leftD hD) hS hA ham) rfl rfl hl.1 rfl (lv_room (Nat.le_of_ble_eq_true rfl)) dL_drafts_713 ⟨Nat.le_of_ble_eq_true rfl, Nat.le_of_ble_eq_true rfl⟩) hD hS hA (fun rr uc H locs hw hP hD hS => ?_)
                      obtain ⟨rfl, ad, L, rfl, hI, hX, hoc⟩ := lres_n3 hw ((if_pos (ct_in (by omega) (by omega))).trans ((if_pos (by decide)).trans (if_neg (by rw [eci, ix_nI (show (1 : Nat) < 2 ^ 31 by decide)]; exact fun q => absurd (g1.symm.trans q.2) (by decide)))))
                      have hP : va_P (dC, dI) vwCl (cw cy e0 ad L S N ++ yw ab cy Y t D a b) H := hP
                      have hD : va_D A (cw cy e0 ad L S N ++ yw ab cy Y t D a b) := hD
                      refine lv_bipush (v := -73) hx hb dL_drafts_716 (by decide) ?_
                      refine lv_icmp_ne (tgt := 725) hx hb dL_drafts_718 (by decide) (fun h9 => absurd rfl h9) (fun _ => ?_)
                      refine lv_iconst (v := nI 1) hx hb dL_drafts_721 (by decide) ?_
                      refine lv_goto (tgt := 726) hx hb dL_drafts_722 (by decide) ?_
                      rw [← hQQ]; exact end_z (u := ((ad, L, S, N), (Y, t, D, a, b))) hx hb hr hlocks dL_drafts_726 hK hP hD hS (by rfl) ⟨rfl, ⟨hI, hX⟩, hoc, hR⟩ (Nat.le_of_ble_eq_true rfl) (Nat.le_of_ble_eq_true rfl)
                  · rcases (show s1 = 0 ∨ s1 = 1 by omega) with rfl | rfl
                    · refine lv_aload hx hb dL_drafts_694 (lv_at hl 13 rfl) ?_
                      refine lv_iload hx hb dL_drafts_696 (lv_at hl 4 rfl) ?_
                      refine x_iald (f := fun j => nI (Y 4 j)) hx hb hK hP (_ + 4) 0 (app_r rfl) rfl (t := ci) (by omega) (by decide) dL_drafts_698 ?_
                      refine to_i (y := nI (Y 4 ci)) rfl ?_
                      refine to_i (y := nI 1) (congrArg nI (by omega)) ?_
                      refine lv_iload hx hb dL_drafts_699 (lv_at hl 3 rfl) ?_
                      refine lv_ishr hx hb dL_drafts_701 ?_
                      refine to_i (y := nI (1 / 2)) (pk_shrN (by omega) _ 1 (by decide)) ?_
                      refine lv_iconst (v := nI 1) hx hb dL_drafts_702 (by decide) ?_
                      refine lv_iand hx hb dL_drafts_703 ?_
                      refine to_i (y := nI ((1 / 2) % 2)) (pk_andN (by omega) 1 (by decide)) ?_
                      refine to_i (y := nI 0) (congrArg nI (by omega)) ?_
                      refine lv_iconst (v := nI 1) hx hb dL_drafts_704 (by decide) ?_
                      refine lv_icmp_ne (tgt := 727) hx hb dL_drafts_705 (by decide) (fun _ => ?_) (fun h9 => absurd h9 (by decide))
                      refine lv_aload hx hb dL_drafts_727 (lv_at hl 13 rfl) ?_
                      refine lv_iload hx hb dL_drafts_729 (lv_at hl 4 rfl) ?_
                      refine lv_dup2_11 hx hb dL_drafts_731 rfl rfl ?_
                      refine x_iald (f := fun j => nI (Y 4 j)) hx hb hK hP (_ + 4) 0 (app_r rfl) rfl (t := ci) (by omega) (by decide) dL_drafts_732 ?_
                      refine to_i (y := nI (Y 4 ci)) rfl ?_
                      refine to_i (y := nI 1) (congrArg nI (by omega)) ?_
                      refine lv_iconst (v := nI 1) hx hb dL_drafts_733 (by decide) ?_
                      refine lv_iload hx hb dL_drafts_734 (lv_at hl 3 rfl) ?_
                      refine lv_ishl hx hb dL_drafts_736 ?_
                      refine lv_ior hx hb dL_drafts_737 ?_
                      have hsg : ¬ isDr (S_sgn S ci 1) ci := fun q => absurd (g0.symm.trans ((sg_at S ci).2.mp q)) (by decide)
                      refine to_i (y := nI 3) (by decide) ?_
                      refine x_iast (f := fun j => nI (Y 4 j)) hx hb hK hP hD hS (_ + 4) 0 (app_r rfl) rfl (t := ci) (x := nI 3) (by omega) (by decide) dL_drafts_738 (fun H locs hP hD hS => ?_)
                      rw [app_setr, upd_nI] at hP hD
                      have hP : va_P (dC, dI) vwCl (cw cy e0 ad L S N ++ yw ab cy (va_up Y 4 (va_up (Y 4) ci 3)) t D a b) H := hP
                      have hD : va_D A (cw cy e0 ad L S N ++ yw ab cy (va_up Y 4 (va_up (Y 4) ci 3)) t D a b) := hD
                      refine lv_aload hx hb dL_drafts_739 (lv_at hl 13 rfl) ?_
                      refine lv_iload hx hb dL_drafts_741 (lv_at hl 4 rfl) ?_
                      refine x_iald (f := fun j => nI ((va_up Y 4 (va_up (Y 4) ci 3)) 4 j)) hx hb hK hP (_ + 4) 0 (app_r rfl) rfl (t := ci) (by omega) (by decide) dL_drafts_743 ?_
                      refine to_i (y := nI (3)) (congrArg nI (by simp [va_up])) ?_
                      refine lv_iconst (v := nI 3) hx hb dL_drafts_744 (by decide) ?_
                      refine lv_icmp_ge (tgt := 765) hx hb dL_drafts_745 (by decide) (fun _ => ?_) (fun h9 => absurd h9 (by decide))
                      refine lv_aload hx hb dL_drafts_765 (lv_at hl 13 rfl) ?_
                      refine lv_iload hx hb dL_drafts_767 (lv_at hl 4 rfl) ?_
                      refine lv_iconst (v := nI 4) hx hb dL_drafts_769 (by decide) ?_
                      refine x_iast (f := fun j => nI ((va_up Y 4 (va_up (Y 4) ci 3)) 4 j)) hx hb hK hP hD hS (_ + 4) 0 (app_r rfl) rfl (t := ci) (x := nI 4) (by omega) (by decide) dL_drafts_770 (fun H locs hP hD hS => ?_)
                      rw [app_setr, upd_nI] at hP hD
                      have hP : va_P (dC, dI) vwCl (cw cy e0 ad L S N ++ yw ab cy (va_up (va_up Y 4 (va_up (Y 4) ci 3)) 4 (va_up ((va_up Y 4 (va_up (Y 4) ci 3)) 4) ci 4)) t D a b) H := hP
                      have hD : va_D A (cw cy e0 ad L S N ++ yw ab cy (va_up (va_up Y 4 (va_up (Y 4) ci 3)) 4 (va_up ((va_up Y 4 (va_up (Y 4) ci 3)) 4) ci 4)) t D a b) := hD
                      refine lv_aload hx hb dL_drafts_771 (lv_at hl 16 rfl) ?_
                      refine lv_iconst (v := nI 2) hx hb dL_drafts_773 (by decide) ?_
                      refine x_iald (f := gf D a b) hx hb hK hP (_ + 7) 0 (app_r rfl) rfl (t := 2) (by decide) (by decide) dL_drafts_774 ?_
                      refine to_i (y := nI b) rfl ?_
                      refine lv_istore (lv' := [(17, .int (nI b)), (16, .int (nI it)), (15, .int (nI ((6 * ci) + cl))), (14, .int (nI cl)), (13, .int (nI 1)), (12, .int (nI ci)), (0, .ref oc), (1, .int (nI act)), (2, .int y), (3, .int x), (4, .ref ((ab 0))), (5, .ref ((ab 1))), (6, .ref ((ab 2))), (7, .ref ((ab 3))), (8, .ref ((ab 4))), (9, .ref ((ab 5))), (10, .ref ((ab 6))), (11, .ref ((ab 7)))]) hx hb dL_drafts_775 hl (by decide) rfl (fun ls hl => ?_)
                      have hRs : RZm 6 (S_sgn S ci 1) N (va_up (va_up Y 4 (va_up (Y 4) ci 3)) 4 (va_up ((va_up Y 4 (va_up (Y 4) ci 3)) 4) ci 4)) t D a b := rz_sgn hR (by omega) (by omega) (by decide) (fun r hr => (Y_row hr).trans (Y_row hr)) (fun j hj => (Y_ne hj).trans (Y_ne hj)) (Y_at _ _ _ _) (zY_up (zY_up hYb _ _ (by decide)) _ _ (by decide)) (sg_two hR.2.2.2.1 (by omega) (by decide) hdr0 (g1.trans nI_00) hsg).2 (sgN_two hR (by omega) hdr0 hsg)
                      generalize hSG : S_sgn S ci 1 = SG at hRs
                      refine lv_iconst (v := nI 0) hx hb dL_drafts_777 (by decide) ?_
                      refine lv_istore (lv' := [(18, .int (nI 0)), (17, .int (nI b)), (16, .int (nI it)), (15, .int (nI ((6 * ci) + cl))), (14, .int (nI cl)), (13, .int (nI 1)), (12, .int (nI ci)), (0, .ref oc), (1, .int (nI act)), (2, .int y), (3, .int x), (4, .ref ((ab 0))), (5, .ref ((ab 1))), (6, .ref ((ab 2))), (7, .ref ((ab 3))), (8, .ref ((ab 4))), (9, .ref ((ab 5))), (10, .ref ((ab 6))), (11, .ref ((ab 7)))]) hx hb dL_drafts_778 hl (by decide) rfl (fun ls hl => ?_)
                      have hl_d : ∀ (k9 ck : Nat) (Y1 : Nat → Nat → Nat) (t1 : Nat → Int32) (b1 : Nat), 6 - ck = k9 → ck ≤ 6 → RZm (6 - ck) (K_mkD SG N ci ck).1 (K_mkD SG N ci ck).2 Y1 t1 D a b1 → b1 = b + K_made SG N ci ck → ∀ (H : Heap) (locs : List Loc) (ls : Array Slot), va_P (dC, dI) vwCl (cw cy e0 ad L S N ++ yw ab cy Y1 t1 D a b1) H → va_D A (cw cy e0 ad L S N ++ yw ab cy Y1 t1 D a b1) → va_S A s.heap H locs → lv_has ls 21 [(0, .ref oc), (1, .int (nI act)), (2, .int y), (3, .int x), (4, .ref ((ab 0))), (5, .ref ((ab 1))), (6, .ref ((ab 2))), (7, .ref ((ab 3))), (8, .ref ((ab 4))), (9, .ref ((ab 5))), (10, .ref ((ab 6))), (11, .ref ((ab 7))), (12, .int (nI ci)), (13, .int (nI 1)), (14, .int (nI cl)), (15, .int (nI ((6 * ci) + cl))), (16, .int (nI it)), (17, .int (nI b)), (18, .int (nI ck))] → W p l e ({ frames := 11, cells := 200, slots := 20000, locals := 282 }) s m (([.ref oc, .int (nI act), .int y, .int x, .ref ((ab 0)), .ref ((ab 1)), .ref ((ab 2)), .ref ((ab 3)), .ref ((ab 4)), .ref ((ab 5)), .ref ((ab 6)), .ref ((ab 7))] : List Value).toArray) below meth c H locs 46 8120 QQ (F0 m 780 ls []) := by
                        intro k9
                        induction k9 using Nat.strongRecOn with
                        | _ k9 ih_d =>
                          intro ck Y1 t1 b1 hk9 hle9 hR1 hbm H locs ls hP hD hS hl
                          refine lv_iload hx hb dL_drafts_780 (lv_at hl 18 rfl) ?_
                          refine lv_bipush (v := nI 6) hx hb dL_drafts_782 (by decide) ?_
                          refine n_ge (tgt := 899) hx hb dL_drafts_784 (by decide) (by omega) (by omega) (fun c_17 => ?_) (fun c_17 => ?_)
                          · obtain rfl : 6 = ck := by omega
                            refine lv_aload_n hx hb dL_drafts_899 rfl (lv_at hl 0 rfl) ?_
                            refine lv_iload hx hb dL_drafts_900 (lv_at hl 12 rfl) ?_
                            refine lv_iload hx hb dL_drafts_902 (lv_at hl 13 rfl) ?_
                            refine callY_i hP (vx_runSW (As := [.ref oc, .int (nI ci), .int (nI 1)]) (rest := []) ⟨hx, hb, hml, hown, hts⟩ (qL_sign l dC dI cy e0 mi oc ad L S N H.size (nI ci) (nI 1) hI hX (fun i hi hd => by have := rz_room hR hN hi hd; omega) hst hoc) (vx_cwSW 3 hts gL_drafts_L_sign rfl rfl rfl (by decide +kernel) ⟨Nat.le_of_ble_eq_true rfl, Nat.le_of_ble_eq_true rfl⟩) (preLS hK (w_leftP hP) (w_leftD hD) hS hA ham) rfl rfl hl.1 rfl (lv_room (Nat.le_of_ble_eq_true rfl)) dL_drafts_904 ⟨Nat.le_of_ble_eq_true rfl, Nat.le_of_ble_eq_true rfl⟩) hD hS hA (fun rr uc H locs hw hP hD hS => ?_)
                            rw [eci] at hw
                            rw [ix_nI (show (1 : Nat) < 2 ^ 31 by decide)] at hw
                            rw [if_neg hsg] at hw
                            rw [if_neg hsg] at hw
                            rw [hSG] at hw
                            obtain ⟨er, ad, L, rfl, hI, hX, hoc⟩ := lres_n0 hw ((if_pos (ct_in (by omega) (by omega))).trans ((if_pos (by decide)).trans (if_pos (by rw [eci, ix_nI (show (1 : Nat) < 2 ^ 31 by decide)]; exact ⟨hob0, g1.trans nI_00⟩))))
                            have hP : va_P (dC, dI) vwCl (cwT cy e0 (ad, L, K_mkD SG N ci 10) ++ yw ab cy Y1 t1 D a b1) H := hP
                            have hD : va_D A (cwT cy e0 (ad, L, K_mkD SG N ci 10) ++ yw ab cy Y1 t1 D a b1) := hD
                            refine to_i (y := nI (b1 - b)) (er.trans (congrArg nI (by rw [(mkD_stop SG N ci (hi6 hR hN (by omega)) 4 (by decide)).2]; omega))) ?_
                            refine lv_aload hx hb dL_drafts_907 (lv_at hl 11 rfl) ?_
                            refine lv_iconst (v := nI 2) hx hb dL_drafts_909 (by decide) ?_
                            refine x_iald (f := gf D a b1) hx hb hK hP (_ + 7) 0 (app_r rfl) rfl (t := 2) (by decide) (by decide) dL_drafts_910 ?_
                            refine to_i (y := nI b1) rfl ?_
                            refine lv_iload hx hb dL_drafts_911 (lv_at hl 17 rfl) ?_
                            refine lv_isub hx hb dL_drafts_913 ?_
                            refine to_i (y := nI (b1 - b)) (pk_sub (by omega)) ?_
                            refine lv_icmp_ne (tgt := 921) hx hb dL_drafts_914 (by decide) (fun h9 => absurd rfl h9) (fun _ => ?_)
                            refine lv_iconst (v := nI 1) hx hb dL_drafts_917 (by decide) ?_
                            refine lv_goto (tgt := 922) hx hb dL_drafts_918 (by decide) ?_
                            rw [← hQQ]; exact end_z (u := ((ad, L, K_mkD SG N ci 10), (Y1, t1, D, a, b1))) hx hb hr hlocks dL_drafts_922 hK hP hD hS (by rfl) ⟨rfl, ⟨hI, hX⟩, hoc, (by show RZ (K_mkD SG N ci 10).1 (K_mkD SG N ci 10).2 _ _ _ _ _; rw [(mkD_stop SG N ci (hi6 hR hN (by omega)) 4 (by decide)).1]; exact hR1)⟩ (Nat.le_of_ble_eq_true rfl) (Nat.le_of_ble_eq_true rfl)
                          · have hYb1 : zY Y1 := hR1.2.2.2.2.2.2.2
                            obtain ⟨⟨sm1, sm2, sm3⟩, sm4⟩ := mkD_same SG N ci ck
                            have hq60 := rz_60m hR1 hN sm1
                            have hle := hN.1 ci ck (by omega) (by omega)
                            have hle9 := hN.2.1 ck (by omega)
                            obtain ⟨zi0, zi1⟩ := (hR1.2.2.1 ci (by omega)).1 ck (by omega)
                            rw [sm3] at zi0 zi1
                            refine lv_aload hx hb dL_drafts_787 (lv_at hl 7 rfl) ?_
                            refine lv_bipush (v := nI 6) hx hb dL_drafts_789 (by decide) ?_
                            refine lv_iload hx hb dL_drafts_791 (lv_at hl 12 rfl) ?_
                            refine lv_imul hx hb dL_drafts_793 ?_
                            refine to_i (y := nI (6 * ci)) (pk_mul _ _) ?_
                            refine lv_iload hx hb dL_drafts_794 (lv_at hl 18 rfl) ?_
                            refine lv_iadd hx hb dL_drafts_796 ?_
                            refine to_i (y := nI ((6 * ci) + ck)) (nI_add _ _) ?_
                            refine x_iald (f := fun j => nI (Y1 3 j)) hx hb hK hP (_ + 3) 0 (app_r rfl) rfl (t := (6 * ci) + ck) (by omega) (by decide) dL_drafts_797 ?_
                            refine to_i (y := nI (Y1 3 ((6 * ci) + ck))) rfl ?_
                            refine lv_istore (lv' := [(19, .int (nI (Y1 3 ((6 * ci) + ck)))), (0, .ref oc), (1, .int (nI act)), (2, .int y), (3, .int x), (4, .ref ((ab 0))), (5, .ref ((ab 1))), (6, .ref ((ab 2))), (7, .ref ((ab 3))), (8, .ref ((ab 4))), (9, .ref ((ab 5))), (10, .ref ((ab 6))), (11, .ref ((ab 7))), (12, .int (nI ci)), (13, .int (nI 1)), (14, .int (nI cl)), (15, .int (nI ((6 * ci) + cl))), (16, .int (nI it)), (17, .int (nI b)), (18, .int (nI ck))]) hx hb dL_drafts_798 hl (by decide) rfl (fun ls hl => ?_)
                            refine lv_iload hx hb dL_drafts_800 (lv_at hl 0 rfl) ?_
                            refine n_if_ne (tgt := 808) hx hb dL_drafts_802 (by decide) (by have := hYb1 3 ((6 * ci) + ck); omega) (fun c_18 => ?_) (fun c_18 => ?_)
                            · have hz : ¬ N 2 ci ck = 0 := fun q => c_18 (zi0 q)
                              obtain ⟨y1, y2, y3, y4⟩ := zi1 hz
                              refine lv_aload hx hb dL_drafts_808 (lv_at hl 7 rfl) ?_
                              refine lv_bipush (v := nI 9) hx hb dL_drafts_810 (by decide) ?_
                              refine lv_iload hx hb dL_drafts_812 (lv_at hl 19 rfl) ?_
                              refine lv_imul hx hb dL_drafts_814 ?_
                              refine to_i (y := nI (9 * ck)) (pk_mul _ _) ?_
                              refine lv_iload hx hb dL_drafts_815 (lv_at hl 0 rfl) ?_
                              refine lv_bipush (v := nI 15) hx hb dL_drafts_817 (by decide) ?_
                              refine lv_iand hx hb dL_drafts_819 ?_
                              refine to_i (y := nI ((Y1 3 ((6 * ci) + ck)) % 16)) (pk_andN (by have := hYb1 3 ((6 * ci) + ck); omega) 4 (by decide)) ?_
                              refine to_i (y := nI (N 2 ci ck)) (congrArg nI (by omega)) ?_
                              refine lv_iadd hx hb dL_drafts_820 ?_
                              refine to_i (y := nI ((9 * ck) + (N 2 ci ck))) (nI_add _ _) ?_
                              refine lv_iconst (v := nI 1) hx hb dL_drafts_821 (by decide) ?_
                              refine lv_isub hx hb dL_drafts_822 ?_
                              refine to_i (y := nI (((9 * ck) + (N 2 ci ck)) - 1)) (pk_sub (by omega)) ?_
                              refine x_iald (f := fun j => nI (Y1 2 j)) hx hb hK hP (_ + 2) 0 (app_r rfl) rfl (t := ((9 * ck) + (N 2 ci ck)) - 1) (by omega) (by decide) dL_drafts_823 ?_
                              refine to_i (y := nI (Y1 2 (((9 * ck) + (N 2 ci ck)) - 1))) rfl ?_
                              obtain ⟨td, htd⟩ : ∃ td, Y1 2 (9 * ck + N 2 ci ck - 1) = td := ⟨_, rfl⟩
                              have htdb : td < 67108864 := by rw [← htd]; exact hYb1 _ _
                              refine to_i (y := nI td) (congrArg nI htd) ?_
                              refine lv_istore (lv' := [(20, .int (nI td)), (19, .int (nI (Y1 3 ((6 * ci) + ck)))), (0, .ref oc), (1, .int (nI act)), (2, .int y), (3, .int x), (4, .ref ((ab 0))), (5, .ref ((ab 1))), (6, .ref ((ab 2))), (7, .ref ((ab 3))), (8, .ref ((ab 4))), (9, .ref ((ab 5))), (10, .ref ((ab 6))), (11, .ref ((ab 7))), (12, .int (nI ci)), (13, .int (nI 1)), (14, .int (nI cl)), (15, .int (nI ((6 * ci) + cl))), (16, .int (nI it)), (17, .int (nI b)), (18, .int (nI ck))]) hx hb dL_drafts_824 hl (by decide) rfl (fun ls hl => ?_)
                              refine lv_aload hx hb dL_drafts_826 (lv_at hl 11 rfl) ?_
                              refine lv_aload hx hb dL_drafts_828 (lv_at hl 13 rfl) ?_
                              refine lv_iconst (v := nI 2) hx hb dL_drafts_830 (by decide) ?_
                              refine x_iald (f := gf D a b1) hx hb hK hP (_ + 7) 0 (app_r rfl) rfl (t := 2) (by decide) (by decide) dL_drafts_831 ?_
                              refine to_i (y := nI b1) rfl ?_
                              refine lv_iload hx hb dL_drafts_832 (lv_at hl 14 rfl) ?_
                              refine lv_bipush (v := nI 16) hx hb dL_drafts_834 (by decide) ?_
                              refine lv_iload hx hb dL_drafts_836 (lv_at hl 0 rfl) ?_
                              refine lv_iconst (v := nI 1) hx hb dL_drafts_838 (by decide) ?_
                              refine lv_iand hx hb dL_drafts_839 ?_
                              refine to_i (y := nI (td % 2)) (pk_andN (by omega) 1 (by decide)) ?_
                              refine lv_imul hx hb dL_drafts_840 ?_
                              refine to_i (y := nI (16 * (td % 2))) (pk_mul _ _) ?_
                              refine lv_iadd hx hb dL_drafts_841 ?_
                              refine to_i (y := nI (ci + (16 * (td % 2)))) (nI_add _ _) ?_
                              refine lv_sipush (v := nI 256) hx hb dL_drafts_842 (by decide) ?_
                              refine lv_iload hx hb dL_drafts_845 (lv_at hl 0 rfl) ?_
                              refine lv_bipush (v := nI 8) hx hb dL_drafts_847 (by decide) ?_
                              refine lv_ishr hx hb dL_drafts_849 ?_
                              refine to_i (y := nI (td / 256)) (pk_shrN (by omega) _ 8 (by decide)) ?_
                              refine lv_bipush (v := nI 63) hx hb dL_drafts_850 (by decide) ?_
                              refine lv_iand hx hb dL_drafts_852 ?_
                              refine to_i (y := nI ((td / 256) % 64)) (pk_andN (by omega) 6 (by decide)) ?_
                              refine lv_imul hx hb dL_drafts_853 ?_
                              refine to_i (y := nI (256 * ((td / 256) % 64))) (pk_mul _ _) ?_
                              refine lv_iadd hx hb dL_drafts_854 ?_
                              refine to_i (y := nI ((ci + (16 * (td % 2))) + (256 * ((td / 256) % 64)))) (nI_add _ _) ?_
                              refine lv_sipush (v := nI 16384) hx hb dL_drafts_855 (by decide) ?_
                              refine lv_iload hx hb dL_drafts_858 (lv_at hl 0 rfl) ?_
                              refine lv_bipush (v := nI 14) hx hb dL_drafts_860 (by decide) ?_
                              refine lv_ishr hx hb dL_drafts_862 ?_
                              refine to_i (y := nI (td / 16384)) (pk_shrN (by omega) _ 14 (by decide)) ?_
                              refine lv_imul hx hb dL_drafts_863 ?_
                              refine to_i (y := nI (16384 * (td / 16384))) (pk_mul _ _) ?_
                              refine lv_iadd hx hb dL_drafts_864 ?_
                              refine to_i (y := nI (((ci + (16 * (td % 2))) + (256 * ((td / 256) % 64))) + (16384 * (td / 16384)))) (nI_add _ _) ?_
                              refine x_iast (f := fun j => nI (Y1 5 j)) hx hb hK hP hD hS (_ + 5) 0 (app_r rfl) rfl (t := b1) (x := nI (((ci + (16 * (td % 2))) + (256 * ((td / 256) % 64))) + (16384 * (td / 16384)))) (by omega) (by decide) dL_drafts_865 (fun H locs hP hD hS => ?_)
                              rw [app_setr, upd_nI] at hP hD
                              have hP : va_P (dC, dI) vwCl (cw cy e0 ad L S N ++ yw ab cy (va_up Y1 5 (va_up (Y1 5) b1 (((ci + (16 * (td % 2))) + (256 * ((td / 256) % 64))) + (16384 * (td / 16384))))) t1 D a b1) H := hP
                              have hD : va_D A (cw cy e0 ad L S N ++ yw ab cy (va_up Y1 5 (va_up (Y1 5) b1 (((ci + (16 * (td % 2))) + (256 * ((td / 256) % 64))) + (16384 * (td / 16384))))) t1 D a b1) := hD
                              refine lv_aload hx hb dL_drafts_866 (lv_at hl 12 rfl) ?_
                              refine lv_aload hx hb dL_drafts_868 (lv_at hl 13 rfl) ?_
                              refine lv_iconst (v := nI 2) hx hb dL_drafts_870 (by decide) ?_
                              refine x_iald (f := gf D a b1) hx hb hK hP (_ + 7) 0 (app_r rfl) rfl (t := 2) (by decide) (by decide) dL_drafts_871 ?_
                              refine to_i (y := nI b1) rfl ?_
                              refine lv_aload hx hb dL_drafts_872 (lv_at hl 13 rfl) ?_
                              refine lv_iconst (v := nI 0) hx hb dL_drafts_874 (by decide) ?_
                              refine x_iald (f := gf D a b1) hx hb hK hP (_ + 7) 0 (app_r rfl) rfl (t := 0) (by decide) (by decide) dL_drafts_875 ?_
                              refine to_i (y := D) rfl ?_
                              refine lv_iload hx hb dL_drafts_876 (lv_at hl 0 rfl) ?_
                              refine lv_iconst (v := nI 1) hx hb dL_drafts_878 (by decide) ?_
                              refine lv_ishr hx hb dL_drafts_879 ?_
                              refine to_i (y := nI (td / 2)) (pk_shrN (by omega) _ 1 (by decide)) ?_
                              refine lv_bipush (v := nI 127) hx hb dL_drafts_880 (by decide) ?_
                              refine lv_iand hx hb dL_drafts_882 ?_
                              refine to_i (y := nI ((td / 2) % 128)) (pk_andN (by omega) 7 (by decide)) ?_
                              refine lv_iadd hx hb dL_drafts_883 ?_
                              refine x_iast (f := t1) hx hb hK hP hD hS (_ + 6) 0 (app_r rfl) rfl (t := b1) (x := (D + (nI ((td / 2) % 128)))) (by omega) (by decide) dL_drafts_884 (fun H locs hP hD hS => ?_)
                              rw [app_setr] at hP hD
                              have hP : va_P (dC, dI) vwCl (cw cy e0 ad L S N ++ yw ab cy (va_up Y1 5 (va_up (Y1 5) b1 (((ci + (16 * (td % 2))) + (256 * ((td / 256) % 64))) + (16384 * (td / 16384))))) (upd t1 b1 (D + (nI ((td / 2) % 128)))) D a b1) H := hP
                              have hD : va_D A (cw cy e0 ad L S N ++ yw ab cy (va_up Y1 5 (va_up (Y1 5) b1 (((ci + (16 * (td % 2))) + (256 * ((td / 256) % 64))) + (16384 * (td / 16384))))) (upd t1 b1 (D + (nI ((td / 2) % 128)))) D a b1) := hD
                              refine lv_aload hx hb dL_drafts_885 (lv_at hl 13 rfl) ?_
                              refine lv_iconst (v := nI 2) hx hb dL_drafts_887 (by decide) ?_
                              refine lv_dup2_11 hx hb dL_drafts_888 rfl rfl ?_
                              refine x_iald (f := gf D a b1) hx hb hK hP (_ + 7) 0 (app_r rfl) rfl (t := 2) (by decide) (by decide) dL_drafts_889 ?_
                              refine to_i (y := nI b1) rfl ?_
                              refine lv_iconst (v := nI 1) hx hb dL_drafts_890 (by decide) ?_
                              refine lv_iadd hx hb dL_drafts_891 ?_
                              refine to_i (y := nI (b1 + 1)) (nI_add _ _) ?_
                              refine x_iast (f := gf D a b1) hx hb hK hP hD hS (_ + 7) 0 (app_r rfl) rfl (t := 2) (x := (nI (b1 + 1))) (by decide) (by decide) dL_drafts_892 (fun H locs hP hD hS => ?_)
                              rw [app_setr, gf_2] at hP hD
                              have hP : va_P (dC, dI) vwCl (cw cy e0 ad L S N ++ yw ab cy (va_up Y1 5 (va_up (Y1 5) b1 (((ci + (16 * (td % 2))) + (256 * ((td / 256) % 64))) + (16384 * (td / 16384))))) (upd t1 b1 (D + (nI ((td / 2) % 128)))) D a (b1 + 1)) H := hP
                              have hD : va_D A (cw cy e0 ad L S N ++ yw ab cy (va_up Y1 5 (va_up (Y1 5) b1 (((ci + (16 * (td % 2))) + (256 * ((td / 256) % 64))) + (16384 * (td / 16384))))) (upd t1 b1 (D + (nI ((td / 2) % 128)))) D a (b1 + 1)) := hD
                              refine lv_iinc (v := nI (ck + 1)) (lv' := [(18, .int (nI (ck + 1))), (20, .int (nI td)), (19, .int (nI (Y1 3 ((6 * ci) + ck)))), (0, .ref oc), (1, .int (nI act)), (2, .int y), (3, .int x), (4, .ref ((ab 0))), (5, .ref ((ab 1))), (6, .ref ((ab 2))), (7, .ref ((ab 3))), (8, .ref ((ab 4))), (9, .ref ((ab 5))), (10, .ref ((ab 6))), (11, .ref ((ab 7))), (12, .int (nI ci)), (13, .int (nI 1)), (14, .int (nI cl)), (15, .int (nI ((6 * ci) + cl))), (16, .int (nI it)), (17, .int (nI b))]) hx hb dL_drafts_893 hl (k := 20) rfl (by rw [show Int32.ofInt 1 = 1 from rfl]; exact nI_1 _) (by decide) rfl (fun ls hl => ?_)
                              refine lv_goto (tgt := 780) hx hb dL_drafts_896 (by decide) ?_
                              have eK : K_mkD SG N ci (ck + 1) = (S_dut (K_mkD SG N ci ck).1 ((K_mkD SG N ci ck).2 5 0 0) ((K_mkD SG N ci ck).1 0 0 0 + (K_mkD SG N ci ck).1 3 (9 * ck + (K_mkD SG N ci ck).2 2 ci ck - 1) 1), N_dut (K_mkD SG N ci ck).2 ci (9 * ck + (K_mkD SG N ci ck).2 2 ci ck - 1)) := if_neg (by rw [sm3]; exact hz)
                              have eM : K_made SG N ci (ck + 1) = K_made SG N ci ck + 1 := if_neg (by rw [sm3]; exact hz)
                              have hRn := rz_put (q := 6 - (ck + 1)) (i := ci) (c := ck) (told := td) (by rw [show 6 - (ck + 1) + 1 = 6 - ck by omega]; exact hR1) (by rw [sm1]; omega) (by omega) (by omega) (by rw [sm3]; exact hz) (by rw [sm2, sm3]; exact hle) (by rw [sm4]; exact hN.2.2.1) (by rw [sm3]; exact htd.symm) rfl rfl
                              exact ih_d (6 - (ck + 1)) (by omega) (ck + 1) (va_up Y1 5 (va_up (Y1 5) b1 (((ci + (16 * (td % 2))) + (256 * ((td / 256) % 64))) + (16384 * (td / 16384))))) (upd t1 b1 (D + (nI ((td / 2) % 128)))) (b1 + 1) rfl (by omega) (by rw [eK]; exact hRn) (by omega) H locs ls hP hD hS (by exact lv_sub hl [3, 4, 5, 6, 7, 8, 9, 10, 11, 12, 13, 14, 15, 16, 17, 18, 19, 20, 0] rfl)
                            · have hz : N 2 ci ck = 0 := Classical.byContradiction (fun q => by obtain ⟨-, -, -, e⟩ := zi1 q; omega)
                              refine lv_goto (tgt := 893) hx hb dL_drafts_805 (by decide) ?_
                              refine lv_iinc (v := nI (ck + 1)) (lv' := [(18, .int (nI (ck + 1))), (19, .int (nI (Y1 3 ((6 * ci) + ck)))), (0, .ref oc), (1, .int (nI act)), (2, .int y), (3, .int x), (4, .ref ((ab 0))), (5, .ref ((ab 1))), (6, .ref ((ab 2))), (7, .ref ((ab 3))), (8, .ref ((ab 4))), (9, .ref ((ab 5))), (10, .ref ((ab 6))), (11, .ref ((ab 7))), (12, .int (nI ci)), (13, .int (nI 1)), (14, .int (nI cl)), (15, .int (nI ((6 * ci) + cl))), (16, .int (nI it)), (17, .int (nI b))]) hx hb dL_drafts_893 hl (k := 19) rfl (by rw [show Int32.ofInt 1 = 1 from rfl]; exact nI_1 _) (by decide) rfl (fun ls hl => ?_)
                              refine lv_goto (tgt := 780) hx hb dL_drafts_896 (by decide) ?_
                              have eK : K_mkD SG N ci (ck + 1) = K_mkD SG N ci ck := if_pos (by rw [sm3]; exact hz)
                              have eM : K_made SG N ci (ck + 1) = K_made SG N ci ck := if_pos (by rw [sm3]; exact hz)
                              exact ih_d (6 - (ck + 1)) (by omega) (ck + 1) Y1 t1 b1 rfl (by omega) (by rw [eK]; exact rz_less hR1 (by omega)) (by rw [eM]; exact hbm) H locs ls hP hD hS (by exact lv_sub hl [2, 3, 4, 5, 6, 7, 8, 9, 10, 11, 12, 13, 14, 15, 16, 17, 18, 19, 0] rfl)
                      exact hl_d 6 0 (va_up (va_up Y 4 (va_up (Y 4) ci 3)) 4 (va_up ((va_up Y 4 (va_up (Y 4) ci 3)) 4) ci 4)) t b rfl (Nat.zero_le _) hRs rfl H locs ls hP hD hS (lv_sub hl [7, 8, 9, 10, 11, 12, 13, 14, 15, 16, 17, 18, 6, 5, 4, 3, 2, 1, 0] rfl)
                    · exact absurd g4 (hdr.mp hdr0)
            · refine lv_aload_n hx hb dL_drafts_528 rfl (lv_at hl 5 rfl) ?_
              refine lv_iload hx hb dL_drafts_529 (lv_at hl 4 rfl) ?_
              refine lv_iconst (v := nI 2) hx hb dL_drafts_531 (by decide) ?_
              refine lv_iload hx hb dL_drafts_532 (lv_at hl 2 rfl) ?_
              refine callY_i hP (vx_runSW (As := [.ref oc, .int (nI ci), .int (nI 2), .int (nI cl)]) (rest := []) ⟨hx, hb, hml, hown, hts⟩ (qL_renew l dC dI cy e0 mi oc ad L S N H.size (nI ci) (nI 2) (nI cl) hI hX hst hoc) (vx_cwSW 4 hts gL_drafts_L_renew rfl rfl rfl (by decide +kernel) ⟨Nat.le_of_ble_eq_true rfl, Nat.le_of_ble_eq_true rfl⟩) (preLS hK (w_leftP hP) (w_leftD hD) hS hA ham) rfl rfl hl.1 rfl (lv_room (Nat.le_of_ble_eq_true rfl)) dL_drafts_534 ⟨Nat.le_of_ble_eq_true rfl, Nat.le_of_ble_eq_true rfl⟩) hD hS hA (fun rr uc H locs hw hP hD hS => ?_)
              obtain ⟨rfl, ad, L, rfl, hI, hX, hoc⟩ := lres_n2 hw ((if_pos (ct_in (by omega) (by omega))).trans (if_neg (fun q => absurd q.1 (by decide))))
              have hP : va_P (dC, dI) vwCl (cw cy e0 ad L S N ++ yw ab cy Y t D a b) H := hP
              have hD : va_D A (cw cy e0 ad L S N ++ yw ab cy Y t D a b) := hD
              refine lv_bipush (v := -72) hx hb dL_drafts_537 (by decide) ?_
              refine lv_icmp_ne (tgt := 556) hx hb dL_drafts_539 (by decide) (fun h9 => absurd rfl h9) (fun _ => ?_)
              refine lv_aload_n hx hb dL_drafts_542 rfl (lv_at hl 5 rfl) ?_
              refine lv_iload hx hb dL_drafts_543 (lv_at hl 4 rfl) ?_
              refine lv_iload hx hb dL_drafts_545 (lv_at hl 3 rfl) ?_
              refine lv_iconst (v := -1) hx hb dL_drafts_547 (by decide) ?_
              refine callY_i hP (vx_runSW (As := [.ref oc, .int (nI ci), .int (nI sd), .int ((-1))]) (rest := []) ⟨hx, hb, hml, hown, hts⟩ (qL_renew l dC dI cy e0 mi oc ad L S N H.size (nI ci) (nI sd) ((-1)) hI hX hst hoc) (vx_cwSW 4 hts gL_drafts_L_renew rfl rfl rfl (by decide +kernel) ⟨Nat.le_of_ble_eq_true rfl, Nat.le_of_ble_eq_true rfl⟩) (preLS hK (w_leftP hP) (w_leftD hD) hS hA ham) rfl rfl hl.1 rfl (lv_room (Nat.le_of_ble_eq_true rfl)) dL_drafts_548 ⟨Nat.le_of_ble_eq_true rfl, Nat.le_of_ble_eq_true rfl⟩) hD hS hA (fun rr uc H locs hw hP hD hS => ?_)
              obtain ⟨rfl, ad, L, rfl, hI, hX, hoc⟩ := lres_n2 hw ((if_pos (ct_in (by omega) (by omega))).trans (if_neg (fun q => absurd q.2 (by decide))))
              have hP : va_P (dC, dI) vwCl (cw cy e0 ad L S N ++ yw ab cy Y t D a b) H := hP
              have hD : va_D A (cw cy e0 ad L S N ++ yw ab cy Y t D a b) := hD
              refine lv_bipush (v := -72) hx hb dL_drafts_551 (by decide) ?_
              refine lv_icmp_eq (tgt := 558) hx hb dL_drafts_553 (by decide) (fun _ => ?_) (fun h9 => absurd rfl h9)
              refine lv_aload hx hb dL_drafts_558 (lv_at hl 13 rfl) ?_
              refine lv_iload hx hb dL_drafts_560 (lv_at hl 4 rfl) ?_
              refine x_iald (f := fun j => nI (Y 4 j)) hx hb hK hP (_ + 4) 0 (app_r rfl) rfl (t := ci) (by omega) (by decide) dL_drafts_562 ?_
              refine to_i (y := nI (Y 4 ci)) rfl ?_
              refine lv_iconst (v := nI 4) hx hb dL_drafts_563 (by decide) ?_
              refine n_eq (tgt := 585) hx hb dL_drafts_564 (by decide) (by have := hYb 4 ci; omega) (by omega) (fun c_19 => ?_) (fun c_19 => ?_)
              · refine lv_aload_n hx hb dL_drafts_585 rfl (lv_at hl 5 rfl) ?_
                refine lv_iload hx hb dL_drafts_586 (lv_at hl 4 rfl) ?_
                refine lv_iload hx hb dL_drafts_588 (lv_at hl 3 rfl) ?_
                refine lv_iload hx hb dL_drafts_590 (lv_at hl 2 rfl) ?_
                refine callY_i hP (vx_runSW (As := [.ref oc, .int (nI ci), .int (nI sd), .int (nI cl)]) (rest := []) ⟨hx, hb, hml, hown, hts⟩ (qL_renew l dC dI cy e0 mi oc ad L S N H.size (nI ci) (nI sd) (nI cl) hI hX hst hoc) (vx_cwSW 4 hts gL_drafts_L_renew rfl rfl rfl (by decide +kernel) ⟨Nat.le_of_ble_eq_true rfl, Nat.le_of_ble_eq_true rfl⟩) (preLS hK (w_leftP hP) (w_leftD hD) hS hA ham) rfl rfl hl.1 rfl (lv_room (Nat.le_of_ble_eq_true rfl)) dL_drafts_592 ⟨Nat.le_of_ble_eq_true rfl, Nat.le_of_ble_eq_true rfl⟩) hD hS hA (fun rr uc H locs hw hP hD hS => ?_)
                obtain ⟨rfl, ad, L, rfl, hI, hX, hoc⟩ := lres_n3 hw ((if_pos (ct_in (by omega) (by omega))).trans ((if_pos ⟨sd_in hsd, cl_in (by omega)⟩).trans (if_neg (by rw [eci, ecl]; exact fun q => hdr.mp q.1 c_19))))
                have hP : va_P (dC, dI) vwCl (cw cy e0 ad L S N ++ yw ab cy Y t D a b) H := hP
                have hD : va_D A (cw cy e0 ad L S N ++ yw ab cy Y t D a b) := hD
                refine lv_bipush (v := -73) hx hb dL_drafts_595 (by decide) ?_
                refine lv_icmp_ne (tgt := 604) hx hb dL_drafts_597 (by decide) (fun h9 => absurd rfl h9) (fun _ => ?_)
                refine lv_iconst (v := nI 1) hx hb dL_drafts_600 (by decide) ?_
                refine lv_goto (tgt := 605) hx hb dL_drafts_601 (by decide) ?_
                rw [← hQQ]; exact end_z (u := ((ad, L, S, N), (Y, t, D, a, b))) hx hb hr hlocks dL_drafts_605 hK hP hD hS (by rfl) ⟨rfl, ⟨hI, hX⟩, hoc, hR⟩ (Nat.le_of_ble_eq_true rfl) (Nat.le_of_ble_eq_true rfl)
              · refine lv_iload hx hb dL_drafts_567 (lv_at hl 0 rfl) ?_
                refine n_if_eq (tgt := 585) hx hb dL_drafts_569 (by decide) (by omega) (fun c_20 => ?_) (fun c_20 => ?_)
                · refine lv_aload_n hx hb dL_drafts_585 rfl (lv_at hl 5 rfl) ?_
                  refine lv_iload hx hb dL_drafts_586 (lv_at hl 4 rfl) ?_
                  refine lv_iload hx hb dL_drafts_588 (lv_at hl 3 rfl) ?_
                  refine lv_iload hx hb dL_drafts_590 (lv_at hl 2 rfl) ?_
                  refine callY_i hP (vx_runSW (As := [.ref oc, .int (nI ci), .int (nI sd), .int (nI cl)]) (rest := []) ⟨hx, hb, hml, hown, hts⟩ (qL_renew l dC dI cy e0 mi oc ad L S N H.size (nI ci) (nI sd) (nI cl) hI hX hst hoc) (vx_cwSW 4 hts gL_drafts_L_renew rfl rfl rfl (by decide +kernel) ⟨Nat.le_of_ble_eq_true rfl, Nat.le_of_ble_eq_true rfl⟩) (preLS hK (w_leftP hP) (w_leftD hD) hS hA ham) rfl rfl hl.1 rfl (lv_room (Nat.le_of_ble_eq_true rfl)) dL_drafts_592 ⟨Nat.le_of_ble_eq_true rfl, Nat.le_of_ble_eq_true rfl⟩) hD hS hA (fun rr uc H locs hw hP hD hS => ?_)
                  obtain ⟨rfl, ad, L, rfl, hI, hX, hoc⟩ := lres_n3 hw ((if_pos (ct_in (by omega) (by omega))).trans ((if_pos ⟨sd_in hsd, cl_in (by omega)⟩).trans (if_neg (by rw [eci, ecl]; exact fun q => q.2.1 (ezi.mp (hit.trans c_20))))))
                  have hP : va_P (dC, dI) vwCl (cw cy e0 ad L S N ++ yw ab cy Y t D a b) H := hP
                  have hD : va_D A (cw cy e0 ad L S N ++ yw ab cy Y t D a b) := hD
                  refine lv_bipush (v := -73) hx hb dL_drafts_595 (by decide) ?_
                  refine lv_icmp_ne (tgt := 604) hx hb dL_drafts_597 (by decide) (fun h9 => absurd rfl h9) (fun _ => ?_)
                  refine lv_iconst (v := nI 1) hx hb dL_drafts_600 (by decide) ?_
                  refine lv_goto (tgt := 605) hx hb dL_drafts_601 (by decide) ?_
                  rw [← hQQ]; exact end_z (u := ((ad, L, S, N), (Y, t, D, a, b))) hx hb hr hlocks dL_drafts_605 hK hP hD hS (by rfl) ⟨rfl, ⟨hI, hX⟩, hoc, hR⟩ (Nat.le_of_ble_eq_true rfl) (Nat.le_of_ble_eq_true rfl)
                · have hz : ¬ N 2 ci cl = 0 := fun q => c_20 (hit.symm.trans (ezi.mpr q))
                  obtain ⟨m0, m1, l0, l1, l2, e4, e5, e6, l3, l4⟩ := zi_at hR hN (show ci < N 0 0 0 by omega) hcl6 hz
                  rw [hit] at e6
                  refine lv_iload hx hb dL_drafts_572 (lv_at hl 0 rfl) ?_
                  refine lv_bipush (v := nI 15) hx hb dL_drafts_574 (by decide) ?_
                  refine lv_iand hx hb dL_drafts_576 ?_
                  refine to_i (y := nI (it % 16)) (pk_andN (by omega) 4 (by decide)) ?_
                  refine to_i (y := nI (N 2 ci cl)) (congrArg nI (by omega)) ?_
                  refine lv_aload hx hb dL_drafts_577 (lv_at hl 9 rfl) ?_
                  refine lv_iload hx hb dL_drafts_579 (lv_at hl 2 rfl) ?_
                  refine x_iald (f := fun j => nI (Y 0 j)) hx hb hK hP (_ + 0) 0 (app_r rfl) rfl (t := cl) (by omega) (by decide) dL_drafts_581 ?_
                  refine to_i (y := nI (Y 0 cl)) rfl ?_
                  refine n_ne (tgt := 606) hx hb dL_drafts_582 (by decide) (by omega) (by have := hYb 0 cl; omega) (fun c_21 => ?_) (fun c_21 => ?_)
                  · rcases (show sd = 0 ∨ sd = 1 by omega) with rfl | rfl
                    · refine lv_aload hx hb dL_drafts_606 (lv_at hl 12 rfl) ?_
                      refine lv_iload hx hb dL_drafts_608 (lv_at hl 1 rfl) ?_
                      refine lv_aload hx hb dL_drafts_610 (lv_at hl 9 rfl) ?_
                      refine lv_iload hx hb dL_drafts_612 (lv_at hl 2 rfl) ?_
                      refine x_iald (f := fun j => nI (Y 0 j)) hx hb hK hP (_ + 0) 0 (app_r rfl) rfl (t := cl) (by omega) (by decide) dL_drafts_614 ?_
                      refine to_i (y := nI (Y 0 cl)) rfl ?_
                      refine lv_bipush (v := nI 16) hx hb dL_drafts_615 (by decide) ?_
                      refine lv_iconst (v := nI 2) hx hb dL_drafts_617 (by decide) ?_
                      refine lv_iload hx hb dL_drafts_618 (lv_at hl 3 rfl) ?_
                      refine lv_imul hx hb dL_drafts_620 ?_
                      refine to_i (y := nI (0)) (pk_mul _ _) ?_
                      refine lv_ishl hx hb dL_drafts_621 ?_
                      refine to_i (y := nI 16) (by decide) ?_
                      refine lv_iadd hx hb dL_drafts_622 ?_
                      refine to_i (y := nI ((Y 0 cl) + 16)) (nI_add _ _) ?_
                      refine x_iast (f := fun j => nI (Y 3 j)) hx hb hK hP hD hS (_ + 3) 0 (app_r rfl) rfl (t := (6 * ci) + cl) (x := nI ((Y 0 cl) + 16)) (by omega) (by decide) dL_drafts_623 (fun H locs hP hD hS => ?_)
                      rw [app_setr, upd_nI] at hP hD
                      have hP : va_P (dC, dI) vwCl (cw cy e0 ad L S N ++ yw ab cy (va_up Y 3 (va_up (Y 3) ((6 * ci) + cl) ((Y 0 cl) + 16))) t D a b) H := hP
                      have hD : va_D A (cw cy e0 ad L S N ++ yw ab cy (va_up Y 3 (va_up (Y 3) ((6 * ci) + cl) ((Y 0 cl) + 16))) t D a b) := hD
                      refine lv_aload hx hb dL_drafts_624 (lv_at hl 13 rfl) ?_
                      refine lv_iload hx hb dL_drafts_626 (lv_at hl 4 rfl) ?_
                      refine lv_iconst (v := nI 0) hx hb dL_drafts_628 (by decide) ?_
                      refine x_iast (f := fun j => nI ((va_up Y 3 (va_up (Y 3) ((6 * ci) + cl) ((Y 0 cl) + 16))) 4 j)) hx hb hK hP hD hS (_ + 4) 0 (app_r rfl) rfl (t := ci) (x := nI 0) (by omega) (by decide) dL_drafts_629 (fun H locs hP hD hS => ?_)
                      rw [app_setr, upd_nI] at hP hD
                      have hP : va_P (dC, dI) vwCl (cw cy e0 ad L S N ++ yw ab cy (va_up (va_up Y 3 (va_up (Y 3) ((6 * ci) + cl) ((Y 0 cl) + 16))) 4 (va_up ((va_up Y 3 (va_up (Y 3) ((6 * ci) + cl) ((Y 0 cl) + 16))) 4) ci 0)) t D a b) H := hP
                      have hD : va_D A (cw cy e0 ad L S N ++ yw ab cy (va_up (va_up Y 3 (va_up (Y 3) ((6 * ci) + cl) ((Y 0 cl) + 16))) 4 (va_up ((va_up Y 3 (va_up (Y 3) ((6 * ci) + cl) ((Y 0 cl) + 16))) 4) ci 0)) t D a b) := hD
                      refine lv_aload_n hx hb dL_drafts_630 rfl (lv_at hl 5 rfl) ?_
                      refine lv_iload hx hb dL_drafts_631 (lv_at hl 4 rfl) ?_
                      refine lv_iload hx hb dL_drafts_633 (lv_at hl 3 rfl) ?_
                      refine lv_iload hx hb dL_drafts_635 (lv_at hl 2 rfl) ?_
                      refine callY_i hP (vx_runSW (As := [.ref oc, .int (nI ci), .int (nI 0), .int (nI cl)]) (rest := []) ⟨hx, hb, hml, hown, hts⟩ (qL_renew l dC dI cy e0 mi oc ad L S N H.size (nI ci) (nI 0) (nI cl) hI hX hst hoc) (vx_cwSW 4 hts gL_drafts_L_renew rfl rfl rfl (by decide +kernel) ⟨Nat.le_of_ble_eq_true rfl, Nat.le_of_ble_eq_true rfl⟩) (preLS hK (w_leftP hP) (w_leftD hD) hS hA ham) rfl rfl hl.1 rfl (lv_room (Nat.le_of_ble_eq_true rfl)) dL_drafts_637 ⟨Nat.le_of_ble_eq_true rfl, Nat.le_of_ble_eq_true rfl⟩) hD hS hA (fun rr uc H locs hw hP hD hS => ?_)
                      rw [eci] at hw
                      rw [ecl] at hw
                      rw [ix_nI (show (0 : Nat) < 2 ^ 31 by decide)] at hw
                      obtain ⟨er, ad, L, rfl, hI, hX, hoc⟩ := lres_n0 hw ((if_pos (ct_in (by omega) (by omega))).trans ((if_pos ⟨by decide, cl_in (by omega)⟩).trans (if_pos (by rw [eci, ecl]; exact ⟨hdr.mpr c_19, hz, by omega⟩))))
                      have hP : va_P (dC, dI) vwCl (cwT cy e0 (ad, L, K_bring S ci 0 cl, nu N 2 ci (va_up (N 2 ci) cl (N 1 0 cl))) ++ yw ab cy (va_up (va_up Y 3 (va_up (Y 3) ((6 * ci) + cl) ((Y 0 cl) + 16))) 4 (va_up ((va_up Y 3 (va_up (Y 3) ((6 * ci) + cl) ((Y 0 cl) + 16))) 4) ci 0)) t D a b) H := hP
                      have hD : va_D A (cwT cy e0 (ad, L, K_bring S ci 0 cl, nu N 2 ci (va_up (N 2 ci) cl (N 1 0 cl))) ++ yw ab cy (va_up (va_up Y 3 (va_up (Y 3) ((6 * ci) + cl) ((Y 0 cl) + 16))) 4 (va_up ((va_up Y 3 (va_up (Y 3) ((6 * ci) + cl) ((Y 0 cl) + 16))) 4) ci 0)) t D a b) := hD
                      refine to_i (y := nI (N 2 ci cl)) (er.trans (rfl)) ?_
                      refine lv_iload hx hb dL_drafts_640 (lv_at hl 0 rfl) ?_
                      refine lv_bipush (v := nI 15) hx hb dL_drafts_642 (by decide) ?_
                      refine lv_iand hx hb dL_drafts_644 ?_
                      refine to_i (y := nI (it % 16)) (pk_andN (by omega) 4 (by decide)) ?_
                      refine to_i (y := nI (N 2 ci cl)) (congrArg nI (by omega)) ?_
                      refine lv_icmp_ne (tgt := 652) hx hb dL_drafts_645 (by decide) (fun h9 => absurd rfl h9) (fun _ => ?_)
                      refine lv_iconst (v := nI 1) hx hb dL_drafts_648 (by decide) ?_
                      refine lv_goto (tgt := 653) hx hb dL_drafts_649 (by decide) ?_
                      obtain ⟨p1, p2, p3, p4, p5⟩ := yz2 Y ci (6 * ci + cl) ((Y 0 cl) + 16)
                      rw [← hQQ]; exact end_z (u := ((ad, L, K_bring S ci 0 cl, nu N 2 ci (va_up (N 2 ci) cl (N 1 0 cl))), (va_up (va_up Y 3 (va_up (Y 3) ((6 * ci) + cl) ((Y 0 cl) + 16))) 4 (va_up ((va_up Y 3 (va_up (Y 3) ((6 * ci) + cl) ((Y 0 cl) + 16))) 4) ci 0), t, D, a, b))) hx hb hr hlocks dL_drafts_653 hK hP hD hS (by rfl) ⟨rfl, ⟨hI, hX⟩, hoc, (by show RZ (K_bring S ci 0 cl) (nu N 2 ci (va_up (N 2 ci) cl (N 1 0 cl))) _ _ _ _ _; exact rz_bring (sd := 0) hR (by omega) (by omega) hcl6 (hdr.mpr c_19) (by decide) (by omega) p1 p2 (p3.trans (by rw [if_pos rfl]; omega)) p4 p5 (zY_up (zY_up hYb _ _ (by omega)) _ _ (by decide)))⟩ (Nat.le_of_ble_eq_true rfl) (Nat.le_of_ble_eq_true rfl)
                    · refine lv_aload hx hb dL_drafts_606 (lv_at hl 12 rfl) ?_
                      refine lv_iload hx hb dL_drafts_608 (lv_at hl 1 rfl) ?_
                      refine lv_aload hx hb dL_drafts_610 (lv_at hl 9 rfl) ?_
                      refine lv_iload hx hb dL_drafts_612 (lv_at hl 2 rfl) ?_
                      refine x_iald (f := fun j => nI (Y 0 j)) hx hb hK hP (_ + 0) 0 (app_r rfl) rfl (t := cl) (by omega) (by decide) dL_drafts_614 ?_
                      refine to_i (y := nI (Y 0 cl)) rfl ?_
                      refine lv_bipush (v := nI 16) hx hb dL_drafts_615 (by decide) ?_
                      refine lv_iconst (v := nI 2) hx hb dL_drafts_617 (by decide) ?_
                      refine lv_iload hx hb dL_drafts_618 (lv_at hl 3 rfl) ?_
                      refine lv_imul hx hb dL_drafts_620 ?_
                      refine to_i (y := nI (2)) (pk_mul _ _) ?_
                      refine lv_ishl hx hb dL_drafts_621 ?_
                      refine to_i (y := nI 64) (by decide) ?_
                      refine lv_iadd hx hb dL_drafts_622 ?_
                      refine to_i (y := nI ((Y 0 cl) + 64)) (nI_add _ _) ?_
                      refine x_iast (f := fun j => nI (Y 3 j)) hx hb hK hP hD hS (_ + 3) 0 (app_r rfl) rfl (t := (6 * ci) + cl) (x := nI ((Y 0 cl) + 64)) (by omega) (by decide) dL_drafts_623 (fun H locs hP hD hS => ?_)
                      rw [app_setr, upd_nI] at hP hD
                      have hP : va_P (dC, dI) vwCl (cw cy e0 ad L S N ++ yw ab cy (va_up Y 3 (va_up (Y 3) ((6 * ci) + cl) ((Y 0 cl) + 64))) t D a b) H := hP
                      have hD : va_D A (cw cy e0 ad L S N ++ yw ab cy (va_up Y 3 (va_up (Y 3) ((6 * ci) + cl) ((Y 0 cl) + 64))) t D a b) := hD
                      refine lv_aload hx hb dL_drafts_624 (lv_at hl 13 rfl) ?_
                      refine lv_iload hx hb dL_drafts_626 (lv_at hl 4 rfl) ?_
                      refine lv_iconst (v := nI 0) hx hb dL_drafts_628 (by decide) ?_
                      refine x_iast (f := fun j => nI ((va_up Y 3 (va_up (Y 3) ((6 * ci) + cl) ((Y 0 cl) + 64))) 4 j)) hx hb hK hP hD hS (_ + 4) 0 (app_r rfl) rfl (t := ci) (x := nI 0) (by omega) (by decide) dL_drafts_629 (fun H locs hP hD hS => ?_)
                      rw [app_setr, upd_nI] at hP hD
                      have hP : va_P (dC, dI) vwCl (cw cy e0 ad L S N ++ yw ab cy (va_up (va_up Y 3 (va_up (Y 3) ((6 * ci) + cl) ((Y 0 cl) + 64))) 4 (va_up ((va_up Y 3 (va_up (Y 3) ((6 * ci) + cl) ((Y 0 cl) + 64))) 4) ci 0)) t D a b) H := hP
                      have hD : va_D A (cw cy e0 ad L S N ++ yw ab cy (va_up (va_up Y 3 (va_up (Y 3) ((6 * ci) + cl) ((Y 0 cl) + 64))) 4 (va_up ((va_up Y 3 (va_up (Y 3) ((6 * ci) + cl) ((Y 0 cl) + 64))) 4) ci 0)) t D a b) := hD
                      refine lv_aload_n hx hb dL_drafts_630 rfl (lv_at hl 5 rfl) ?_
                      refine lv_iload hx hb dL_drafts_631 (lv_at hl 4 rfl) ?_
                      refine lv_iload hx hb dL_drafts_633 (lv_at hl 3 rfl) ?_
                      refine lv_iload hx hb dL_drafts_635 (lv_at hl 2 rfl) ?_
                      refine callY_i hP (vx_runSW (As := [.ref oc, .int (nI ci), .int (nI 1), .int (nI cl)]) (rest := []) ⟨hx, hb, hml, hown, hts⟩ (qL_renew l dC dI cy e0 mi oc ad L S N H.size (nI ci) (nI 1) (nI cl) hI hX hst hoc) (vx_cwSW 4 hts gL_drafts_L_renew rfl rfl rfl (by decide +kernel) ⟨Nat.le_of_ble_eq_true rfl, Nat.le_of_ble_eq_true rfl⟩) (preLS hK (w_leftP hP) (w_leftD hD) hS hA ham) rfl rfl hl.1 rfl (lv_room (Nat.le_of_ble_eq_true rfl)) dL_drafts_637 ⟨Nat.le_of_ble_eq_true rfl, Nat.le_of_ble_eq_true rfl⟩) hD hS hA (fun rr uc H locs hw hP hD hS => ?_)
                      rw [eci] at hw
                      rw [ecl] at hw
                      rw [ix_nI (show (1 : Nat) < 2 ^ 31 by decide)] at hw
                      obtain ⟨er, ad, L, rfl, hI, hX, hoc⟩ := lres_n0 hw ((if_pos (ct_in (by omega) (by omega))).trans ((if_pos ⟨by decide, cl_in (by omega)⟩).trans (if_pos (by rw [eci, ecl]; exact ⟨hdr.mpr c_19, hz, by omega⟩))))
                      have hP : va_P (dC, dI) vwCl (cwT cy e0 (ad, L, K_bring S ci 1 cl, nu N 2 ci (va_up (N 2 ci) cl (N 1 0 cl))) ++ yw ab cy (va_up (va_up Y 3 (va_up (Y 3) ((6 * ci) + cl) ((Y 0 cl) + 64))) 4 (va_up ((va_up Y 3 (va_up (Y 3) ((6 * ci) + cl) ((Y 0 cl) + 64))) 4) ci 0)) t D a b) H := hP
                      have hD : va_D A (cwT cy e0 (ad, L, K_bring S ci 1 cl, nu N 2 ci (va_up (N 2 ci) cl (N 1 0 cl))) ++ yw ab cy (va_up (va_up Y 3 (va_up (Y 3) ((6 * ci) + cl) ((Y 0 cl) + 64))) 4 (va_up ((va_up Y 3 (va_up (Y 3) ((6 * ci) + cl) ((Y 0 cl) + 64))) 4) ci 0)) t D a b) := hD
                      refine to_i (y := nI (N 2 ci cl)) (er.trans (rfl)) ?_
                      refine lv_iload hx hb dL_drafts_640 (lv_at hl 0 rfl) ?_
                      refine lv_bipush (v := nI 15) hx hb dL_drafts_642 (by decide) ?_
                      refine lv_iand hx hb dL_drafts_644 ?_
                      refine to_i (y := nI (it % 16)) (pk_andN (by omega) 4 (by decide)) ?_
                      refine to_i (y := nI (N 2 ci cl)) (congrArg nI (by omega)) ?_
                      refine lv_icmp_ne (tgt := 652) hx hb dL_drafts_645 (by decide) (fun h9 => absurd rfl h9) (fun _ => ?_)
                      refine lv_iconst (v := nI 1) hx hb dL_drafts_648 (by decide) ?_
                      refine lv_goto (tgt := 653) hx hb dL_drafts_649 (by decide) ?_
                      obtain ⟨p1, p2, p3, p4, p5⟩ := yz2 Y ci (6 * ci + cl) ((Y 0 cl) + 64)
                      rw [← hQQ]; exact end_z (u := ((ad, L, K_bring S ci 1 cl, nu N 2 ci (va_up (N 2 ci) cl (N 1 0 cl))), (va_up (va_up Y 3 (va_up (Y 3) ((6 * ci) + cl) ((Y 0 cl) + 64))) 4 (va_up ((va_up Y 3 (va_up (Y 3) ((6 * ci) + cl) ((Y 0 cl) + 64))) 4) ci 0), t, D, a, b))) hx hb hr hlocks dL_drafts_653 hK hP hD hS (by rfl) ⟨rfl, ⟨hI, hX⟩, hoc, (by show RZ (K_bring S ci 1 cl) (nu N 2 ci (va_up (N 2 ci) cl (N 1 0 cl))) _ _ _ _ _; exact rz_bring (sd := 1) hR (by omega) (by omega) hcl6 (hdr.mpr c_19) (by decide) (by omega) p1 p2 (p3.trans (by rw [if_neg (by decide)]; omega)) p4 p5 (zY_up (zY_up hYb _ _ (by omega)) _ _ (by decide)))⟩ (Nat.le_of_ble_eq_true rfl) (Nat.le_of_ble_eq_true rfl)
                  · refine lv_aload_n hx hb dL_drafts_585 rfl (lv_at hl 5 rfl) ?_
                    refine lv_iload hx hb dL_drafts_586 (lv_at hl 4 rfl) ?_
                    refine lv_iload hx hb dL_drafts_588 (lv_at hl 3 rfl) ?_
                    refine lv_iload hx hb dL_drafts_590 (lv_at hl 2 rfl) ?_
                    refine callY_i hP (vx_runSW (As := [.ref oc, .int (nI ci), .int (nI sd), .int (nI cl)]) (rest := []) ⟨hx, hb, hml, hown, hts⟩ (qL_renew l dC dI cy e0 mi oc ad L S N H.size (nI ci) (nI sd) (nI cl) hI hX hst hoc) (vx_cwSW 4 hts gL_drafts_L_renew rfl rfl rfl (by decide +kernel) ⟨Nat.le_of_ble_eq_true rfl, Nat.le_of_ble_eq_true rfl⟩) (preLS hK (w_leftP hP) (w_leftD hD) hS hA ham) rfl rfl hl.1 rfl (lv_room (Nat.le_of_ble_eq_true rfl)) dL_drafts_592 ⟨Nat.le_of_ble_eq_true rfl, Nat.le_of_ble_eq_true rfl⟩) hD hS hA (fun rr uc H locs hw hP hD hS => ?_)
                    obtain ⟨rfl, ad, L, rfl, hI, hX, hoc⟩ := lres_n3 hw ((if_pos (ct_in (by omega) (by omega))).trans ((if_pos ⟨sd_in hsd, cl_in (by omega)⟩).trans (if_neg (by rw [eci, ecl]; exact fun q => by have q2 := q.2.2; omega))))
                    have hP : va_P (dC, dI) vwCl (cw cy e0 ad L S N ++ yw ab cy Y t D a b) H := hP
                    have hD : va_D A (cw cy e0 ad L S N ++ yw ab cy Y t D a b) := hD
                    refine lv_bipush (v := -73) hx hb dL_drafts_595 (by decide) ?_
                    refine lv_icmp_ne (tgt := 604) hx hb dL_drafts_597 (by decide) (fun h9 => absurd rfl h9) (fun _ => ?_)
                    refine lv_iconst (v := nI 1) hx hb dL_drafts_600 (by decide) ?_
                    refine lv_goto (tgt := 605) hx hb dL_drafts_601 (by decide) ?_
                    rw [← hQQ]; exact end_z (u := ((ad, L, S, N), (Y, t, D, a, b))) hx hb hr hlocks dL_drafts_605 hK hP hD hS (by rfl) ⟨rfl, ⟨hI, hX⟩, hoc, hR⟩ (Nat.le_of_ble_eq_true rfl) (Nat.le_of_ble_eq_true rfl)
          · refine lv_iload_n hx hb dL_drafts_250 rfl (lv_at hl 8 rfl) ?_
            refine lv_ldc (v := nI 196608) hx hb hown lk0 dL_drafts_251 ?_
            refine lv_iand hx hb dL_drafts_253 ?_
            have J262 : ∀ (mk : Nat), (mk = 2 ∨ mk = 1) → ∀ (H : Heap) (locs : List Loc), va_P (dC, dI) vwCl (cw cy e0 ad L S N ++ yw ab cy Y t D a b) H → va_D A (cw cy e0 ad L S N ++ yw ab cy Y t D a b) → va_S A s.heap H locs → W p l e ({ frames := 11, cells := 200, slots := 20000, locals := 282 }) s m (([.ref oc, .int (nI act), .int y, .int x, .ref ((ab 0)), .ref ((ab 1)), .ref ((ab 2)), .ref ((ab 3)), .ref ((ab 4)), .ref ((ab 5)), .ref ((ab 6)), .ref ((ab 7))] : List Value).toArray) below meth c H locs 0 0 QQ (F0 m 262 ls [.int (nI mk)]) := by
              intro mk hmk H locs hP hD hS
              refine lv_istore (lv' := [(17, .int (nI mk)), (16, .int (nI it)), (15, .int (nI ((6 * ci) + cl))), (14, .int (nI cl)), (13, .int (nI sd)), (12, .int (nI ci)), (0, .ref oc), (1, .int (nI act)), (2, .int y), (3, .int x), (4, .ref ((ab 0))), (5, .ref ((ab 1))), (6, .ref ((ab 2))), (7, .ref ((ab 3))), (8, .ref ((ab 4))), (9, .ref ((ab 5))), (10, .ref ((ab 6))), (11, .ref ((ab 7)))]) hx hb dL_drafts_262 hl (by decide) rfl (fun ls hl => ?_)
              refine lv_aload_n hx hb dL_drafts_264 rfl (lv_at hl 6 rfl) ?_
              refine lv_iload hx hb dL_drafts_265 (lv_at hl 5 rfl) ?_
              refine lv_iconst (v := nI 2) hx hb dL_drafts_267 (by decide) ?_
              refine lv_iload hx hb dL_drafts_268 (lv_at hl 3 rfl) ?_
              refine lv_iload hx hb dL_drafts_270 (lv_at hl 0 rfl) ?_
              refine callY_i hP (vx_runSW (As := [.ref oc, .int (nI ci), .int (nI 2), .int (nI cl), .int (nI mk)]) (rest := []) ⟨hx, hb, hml, hown, hts⟩ (qL_mark l dC dI cy e0 mi oc ad L S N H.size (nI ci) (nI 2) (nI cl) (nI mk) hI hX hst hoc) (vx_cwSW 5 hts gL_drafts_L_mark rfl rfl rfl (by decide +kernel) ⟨Nat.le_of_ble_eq_true rfl, Nat.le_of_ble_eq_true rfl⟩) (preLS hK (w_leftP hP) (w_leftD hD) hS hA ham) rfl rfl hl.1 rfl (lv_room (Nat.le_of_ble_eq_true rfl)) dL_drafts_272 ⟨Nat.le_of_ble_eq_true rfl, Nat.le_of_ble_eq_true rfl⟩) hD hS hA (fun rr uc H locs hw hP hD hS => ?_)
              obtain ⟨rfl, ad, L, rfl, hI, hX, hoc⟩ := lres_n2 hw ((if_pos (ct_in (by omega) (by omega))).trans (if_neg (fun q => absurd q.1 (by decide))))
              have hP : va_P (dC, dI) vwCl (cw cy e0 ad L S N ++ yw ab cy Y t D a b) H := hP
              have hD : va_D A (cw cy e0 ad L S N ++ yw ab cy Y t D a b) := hD
              refine lv_bipush (v := -72) hx hb dL_drafts_275 (by decide) ?_
              refine lv_icmp_ne (tgt := 345) hx hb dL_drafts_277 (by decide) (fun h9 => absurd rfl h9) (fun _ => ?_)
              refine lv_aload_n hx hb dL_drafts_280 rfl (lv_at hl 6 rfl) ?_
              refine lv_iload hx hb dL_drafts_281 (lv_at hl 5 rfl) ?_
              refine lv_iload hx hb dL_drafts_283 (lv_at hl 4 rfl) ?_
              refine lv_bipush (v := nI 10) hx hb dL_drafts_285 (by decide) ?_
              refine lv_iload hx hb dL_drafts_287 (lv_at hl 0 rfl) ?_
              refine callY_i hP (vx_runSW (As := [.ref oc, .int (nI ci), .int (nI sd), .int (nI 10), .int (nI mk)]) (rest := []) ⟨hx, hb, hml, hown, hts⟩ (qL_mark l dC dI cy e0 mi oc ad L S N H.size (nI ci) (nI sd) (nI 10) (nI mk) hI hX hst hoc) (vx_cwSW 5 hts gL_drafts_L_mark rfl rfl rfl (by decide +kernel) ⟨Nat.le_of_ble_eq_true rfl, Nat.le_of_ble_eq_true rfl⟩) (preLS hK (w_leftP hP) (w_leftD hD) hS hA ham) rfl rfl hl.1 rfl (lv_room (Nat.le_of_ble_eq_true rfl)) dL_drafts_289 ⟨Nat.le_of_ble_eq_true rfl, Nat.le_of_ble_eq_true rfl⟩) hD hS hA (fun rr uc H locs hw hP hD hS => ?_)
              obtain ⟨rfl, ad, L, rfl, hI, hX, hoc⟩ := lres_n2 hw ((if_pos (ct_in (by omega) (by omega))).trans (if_neg (fun q => absurd q.2.1 (by decide))))
              have hP : va_P (dC, dI) vwCl (cw cy e0 ad L S N ++ yw ab cy Y t D a b) H := hP
              have hD : va_D A (cw cy e0 ad L S N ++ yw ab cy Y t D a b) := hD
              refine lv_bipush (v := -72) hx hb dL_drafts_292 (by decide) ?_
              refine lv_icmp_ne (tgt := 345) hx hb dL_drafts_294 (by decide) (fun h9 => absurd rfl h9) (fun _ => ?_)
              refine lv_aload_n hx hb dL_drafts_297 rfl (lv_at hl 6 rfl) ?_
              refine lv_iload hx hb dL_drafts_298 (lv_at hl 5 rfl) ?_
              refine lv_iload hx hb dL_drafts_300 (lv_at hl 4 rfl) ?_
              refine lv_iload hx hb dL_drafts_302 (lv_at hl 3 rfl) ?_
              refine lv_iconst (v := nI 0) hx hb dL_drafts_304 (by decide) ?_
              refine callY_i hP (vx_runSW (As := [.ref oc, .int (nI ci), .int (nI sd), .int (nI cl), .int (nI 0)]) (rest := []) ⟨hx, hb, hml, hown, hts⟩ (qL_mark l dC dI cy e0 mi oc ad L S N H.size (nI ci) (nI sd) (nI cl) (nI 0) hI hX hst hoc) (vx_cwSW 5 hts gL_drafts_L_mark rfl rfl rfl (by decide +kernel) ⟨Nat.le_of_ble_eq_true rfl, Nat.le_of_ble_eq_true rfl⟩) (preLS hK (w_leftP hP) (w_leftD hD) hS hA ham) rfl rfl hl.1 rfl (lv_room (Nat.le_of_ble_eq_true rfl)) dL_drafts_305 ⟨Nat.le_of_ble_eq_true rfl, Nat.le_of_ble_eq_true rfl⟩) hD hS hA (fun rr uc H locs hw hP hD hS => ?_)
              obtain ⟨rfl, ad, L, rfl, hI, hX, hoc⟩ := lres_n2 hw ((if_pos (ct_in (by omega) (by omega))).trans (if_neg (fun q => absurd q.2.2.1 (by decide))))
              have hP : va_P (dC, dI) vwCl (cw cy e0 ad L S N ++ yw ab cy Y t D a b) H := hP
              have hD : va_D A (cw cy e0 ad L S N ++ yw ab cy Y t D a b) := hD
              refine lv_bipush (v := -72) hx hb dL_drafts_308 (by decide) ?_
              refine lv_icmp_ne (tgt := 345) hx hb dL_drafts_310 (by decide) (fun h9 => absurd rfl h9) (fun _ => ?_)
              refine lv_aload_n hx hb dL_drafts_313 rfl (lv_at hl 6 rfl) ?_
              refine lv_iload hx hb dL_drafts_314 (lv_at hl 5 rfl) ?_
              refine lv_iload hx hb dL_drafts_316 (lv_at hl 4 rfl) ?_
              refine lv_iload hx hb dL_drafts_318 (lv_at hl 3 rfl) ?_
              refine lv_iconst (v := nI 3) hx hb dL_drafts_320 (by decide) ?_
              refine callY_i hP (vx_runSW (As := [.ref oc, .int (nI ci), .int (nI sd), .int (nI cl), .int (nI 3)]) (rest := []) ⟨hx, hb, hml, hown, hts⟩ (qL_mark l dC dI cy e0 mi oc ad L S N H.size (nI ci) (nI sd) (nI cl) (nI 3) hI hX hst hoc) (vx_cwSW 5 hts gL_drafts_L_mark rfl rfl rfl (by decide +kernel) ⟨Nat.le_of_ble_eq_true rfl, Nat.le_of_ble_eq_true rfl⟩) (preLS hK (w_leftP hP) (w_leftD hD) hS hA ham) rfl rfl hl.1 rfl (lv_room (Nat.le_of_ble_eq_true rfl)) dL_drafts_321 ⟨Nat.le_of_ble_eq_true rfl, Nat.le_of_ble_eq_true rfl⟩) hD hS hA (fun rr uc H locs hw hP hD hS => ?_)
              obtain ⟨rfl, ad, L, rfl, hI, hX, hoc⟩ := lres_n2 hw ((if_pos (ct_in (by omega) (by omega))).trans (if_neg (fun q => absurd q.2.2.2 (by decide))))
              have hP : va_P (dC, dI) vwCl (cw cy e0 ad L S N ++ yw ab cy Y t D a b) H := hP
              have hD : va_D A (cw cy e0 ad L S N ++ yw ab cy Y t D a b) := hD
              refine lv_bipush (v := -72) hx hb dL_drafts_324 (by decide) ?_
              refine lv_icmp_ne (tgt := 345) hx hb dL_drafts_326 (by decide) (fun h9 => absurd rfl h9) (fun _ => ?_)
              refine lv_aload_n hx hb dL_drafts_329 rfl (lv_at hl 6 rfl) ?_
              refine lv_iload hx hb dL_drafts_330 (lv_at hl 5 rfl) ?_
              refine lv_iconst (v := -1) hx hb dL_drafts_332 (by decide) ?_
              refine lv_iload hx hb dL_drafts_333 (lv_at hl 3 rfl) ?_
              refine lv_iload hx hb dL_drafts_335 (lv_at hl 0 rfl) ?_
              refine callY_i hP (vx_runSW (As := [.ref oc, .int (nI ci), .int ((-1)), .int (nI cl), .int (nI mk)]) (rest := []) ⟨hx, hb, hml, hown, hts⟩ (qL_mark l dC dI cy e0 mi oc ad L S N H.size (nI ci) ((-1)) (nI cl) (nI mk) hI hX hst hoc) (vx_cwSW 5 hts gL_drafts_L_mark rfl rfl rfl (by decide +kernel) ⟨Nat.le_of_ble_eq_true rfl, Nat.le_of_ble_eq_true rfl⟩) (preLS hK (w_leftP hP) (w_leftD hD) hS hA ham) rfl rfl hl.1 rfl (lv_room (Nat.le_of_ble_eq_true rfl)) dL_drafts_337 ⟨Nat.le_of_ble_eq_true rfl, Nat.le_of_ble_eq_true rfl⟩) hD hS hA (fun rr uc H locs hw hP hD hS => ?_)
              obtain ⟨rfl, ad, L, rfl, hI, hX, hoc⟩ := lres_n2 hw ((if_pos (ct_in (by omega) (by omega))).trans (if_neg (fun q => absurd q.1 (by decide))))
              have hP : va_P (dC, dI) vwCl (cw cy e0 ad L S N ++ yw ab cy Y t D a b) H := hP
              have hD : va_D A (cw cy e0 ad L S N ++ yw ab cy Y t D a b) := hD
              refine lv_bipush (v := -72) hx hb dL_drafts_340 (by decide) ?_
              refine lv_icmp_eq (tgt := 347) hx hb dL_drafts_342 (by decide) (fun _ => ?_) (fun h9 => absurd rfl h9)
              refine lv_aload hx hb dL_drafts_347 (lv_at hl 14 rfl) ?_
              refine lv_iload hx hb dL_drafts_349 (lv_at hl 5 rfl) ?_
              refine x_iald (f := fun j => nI (Y 4 j)) hx hb hK hP (_ + 4) 0 (app_r rfl) rfl (t := ci) (by omega) (by decide) dL_drafts_351 ?_
              refine to_i (y := nI (Y 4 ci)) rfl ?_
              refine lv_iconst (v := nI 4) hx hb dL_drafts_352 (by decide) ?_
              refine n_eq (tgt := 375) hx hb dL_drafts_353 (by decide) (by have := hYb 4 ci; omega) (by omega) (fun c_22 => ?_) (fun c_22 => ?_)
              · refine lv_aload_n hx hb dL_drafts_375 rfl (lv_at hl 6 rfl) ?_
                refine lv_iload hx hb dL_drafts_376 (lv_at hl 5 rfl) ?_
                refine lv_iload hx hb dL_drafts_378 (lv_at hl 4 rfl) ?_
                refine lv_iload hx hb dL_drafts_380 (lv_at hl 3 rfl) ?_
                refine lv_iload hx hb dL_drafts_382 (lv_at hl 0 rfl) ?_
                refine callY_i hP (vx_runSW (As := [.ref oc, .int (nI ci), .int (nI sd), .int (nI cl), .int (nI mk)]) (rest := []) ⟨hx, hb, hml, hown, hts⟩ (qL_mark l dC dI cy e0 mi oc ad L S N H.size (nI ci) (nI sd) (nI cl) (nI mk) hI hX hst hoc) (vx_cwSW 5 hts gL_drafts_L_mark rfl rfl rfl (by decide +kernel) ⟨Nat.le_of_ble_eq_true rfl, Nat.le_of_ble_eq_true rfl⟩) (preLS hK (w_leftP hP) (w_leftD hD) hS hA ham) rfl rfl hl.1 rfl (lv_room (Nat.le_of_ble_eq_true rfl)) dL_drafts_384 ⟨Nat.le_of_ble_eq_true rfl, Nat.le_of_ble_eq_true rfl⟩) hD hS hA (fun rr uc H locs hw hP hD hS => ?_)
                obtain ⟨rfl, ad, L, rfl, hI, hX, hoc⟩ := lres_n3 hw ((if_pos (ct_in (by omega) (by omega))).trans ((if_pos ⟨sd_in hsd, cl_in (by omega), mk_in hmk⟩).trans (if_neg (by rw [eci, ecl]; exact fun q => hdr.mp q.1 c_22))))
                have hP : va_P (dC, dI) vwCl (cw cy e0 ad L S N ++ yw ab cy Y t D a b) H := hP
                have hD : va_D A (cw cy e0 ad L S N ++ yw ab cy Y t D a b) := hD
                refine lv_bipush (v := -73) hx hb dL_drafts_387 (by decide) ?_
                refine lv_icmp_ne (tgt := 396) hx hb dL_drafts_389 (by decide) (fun h9 => absurd rfl h9) (fun _ => ?_)
                refine lv_iconst (v := nI 1) hx hb dL_drafts_392 (by decide) ?_
                refine lv_goto (tgt := 397) hx hb dL_drafts_393 (by decide) ?_
                rw [← hQQ]; exact end_z (u := ((ad, L, S, N), (Y, t, D, a, b))) hx hb hr hlocks dL_drafts_397 hK hP hD hS (by rfl) ⟨rfl, ⟨hI, hX⟩, hoc, hR⟩ (Nat.le_of_ble_eq_true rfl) (Nat.le_of_ble_eq_true rfl)
              · refine lv_iload hx hb dL_drafts_356 (lv_at hl 1 rfl) ?_
                refine n_if_ne (tgt := 398) hx hb dL_drafts_358 (by decide) (by omega) (fun c_23 => ?_) (fun c_23 => ?_)
                · have hz : ¬ N 2 ci cl = 0 := fun q => c_23 (hit.symm.trans (ezi.mpr q))
                  obtain ⟨m0, m1, l0, l1, l2, e4, e5, e6, l3, l4⟩ := zi_at hR hN (show ci < N 0 0 0 by omega) hcl6 hz
                  rw [hit] at e6
                  rcases hmk with rfl | rfl
                  · rcases (show sd = 0 ∨ sd = 1 by omega) with rfl | rfl
                    · refine lv_iconst (v := nI 4) hx hb dL_drafts_398 (by decide) ?_
                      refine lv_iconst (v := nI 2) hx hb dL_drafts_399 (by decide) ?_
                      refine lv_iload hx hb dL_drafts_400 (lv_at hl 4 rfl) ?_
                      refine lv_imul hx hb dL_drafts_402 ?_
                      refine to_i (y := nI (0)) (pk_mul _ _) ?_
                      refine lv_iadd hx hb dL_drafts_403 ?_
                      refine to_i (y := nI (4)) (nI_add _ _) ?_
                      refine lv_istore (lv' := [(18, .int (nI 4)), (17, .int (nI 2)), (16, .int (nI it)), (15, .int (nI ((6 * ci) + cl))), (14, .int (nI cl)), (13, .int (nI 0)), (12, .int (nI ci)), (0, .ref oc), (1, .int (nI act)), (2, .int y), (3, .int x), (4, .ref ((ab 0))), (5, .ref ((ab 1))), (6, .ref ((ab 2))), (7, .ref ((ab 3))), (8, .ref ((ab 4))), (9, .ref ((ab 5))), (10, .ref ((ab 6))), (11, .ref ((ab 7)))]) hx hb dL_drafts_404 hl (by decide) rfl (fun ls hl => ?_)
                      refine lv_iload hx hb dL_drafts_406 (lv_at hl 2 rfl) ?_
                      refine lv_iload hx hb dL_drafts_408 (lv_at hl 0 rfl) ?_
                      refine lv_ishr hx hb dL_drafts_410 ?_
                      refine to_i (y := nI (it / 16)) (pk_shrN (by omega) _ 4 (by decide)) ?_
                      refine lv_iconst (v := nI 3) hx hb dL_drafts_411 (by decide) ?_
                      refine lv_iand hx hb dL_drafts_412 ?_
                      refine to_i (y := nI ((it / 16) % 4)) (pk_andN (by omega) 2 (by decide)) ?_
                      refine to_i (y := nI m0) (congrArg nI (by omega)) ?_
                      refine lv_istore (lv' := [(19, .int (nI m0)), (18, .int (nI 4)), (17, .int (nI 2)), (16, .int (nI it)), (15, .int (nI ((6 * ci) + cl))), (14, .int (nI cl)), (13, .int (nI 0)), (12, .int (nI ci)), (0, .ref oc), (1, .int (nI act)), (2, .int y), (3, .int x), (4, .ref ((ab 0))), (5, .ref ((ab 1))), (6, .ref ((ab 2))), (7, .ref ((ab 3))), (8, .ref ((ab 4))), (9, .ref ((ab 5))), (10, .ref ((ab 6))), (11, .ref ((ab 7)))]) hx hb dL_drafts_413 hl (by decide) rfl (fun ls hl => ?_)
                      refine lv_iload hx hb dL_drafts_415 (lv_at hl 3 rfl) ?_
                      refine n_if_ne (tgt := 428) hx hb dL_drafts_417 (by decide) (by omega) (fun _ => ?_) (fun h9 => absurd h9 c_23)
                      refine lv_iload hx hb dL_drafts_428 (lv_at hl 3 rfl) ?_
                      refine lv_istore (lv' := [(16, .int (nI it)), (19, .int (nI m0)), (18, .int (nI 4)), (17, .int (nI 2)), (15, .int (nI ((6 * ci) + cl))), (14, .int (nI cl)), (13, .int (nI 0)), (12, .int (nI ci)), (0, .ref oc), (1, .int (nI act)), (2, .int y), (3, .int x), (4, .ref ((ab 0))), (5, .ref ((ab 1))), (6, .ref ((ab 2))), (7, .ref ((ab 3))), (8, .ref ((ab 4))), (9, .ref ((ab 5))), (10, .ref ((ab 6))), (11, .ref ((ab 7)))]) hx hb dL_drafts_430 hl (by decide) rfl (fun ls hl => ?_)
                      refine lv_iload hx hb dL_drafts_432 (lv_at hl 0 rfl) ?_
                      refine lv_iconst (v := nI 3) hx hb dL_drafts_434 (by decide) ?_
                      refine lv_iload hx hb dL_drafts_435 (lv_at hl 2 rfl) ?_
                      refine lv_ishl hx hb dL_drafts_437 ?_
                      refine lv_iconst (v := -1) hx hb dL_drafts_438 (by decide) ?_
                      refine lv_ixor hx hb dL_drafts_439 ?_
                      refine lv_iand hx hb dL_drafts_440 ?_
                      refine lv_iload hx hb dL_drafts_441 (lv_at hl 3 rfl) ?_
                      refine lv_iload hx hb dL_drafts_443 (lv_at hl 2 rfl) ?_
                      refine lv_ishl hx hb dL_drafts_445 ?_
                      refine lv_ior hx hb dL_drafts_446 ?_
                      refine to_i (y := nI (N 2 ci cl + 16 * 2 + 64 * m1)) (bt_0 (v := N 2 ci cl) (m0 := m0) (m1 := m1) (mk := 2) (by omega) (by omega) (by omega) (by omega) (by omega)) ?_
                      refine lv_istore (lv' := [(16, .int (nI (N 2 ci cl + 16 * 2 + 64 * m1))), (19, .int (nI m0)), (18, .int (nI 4)), (17, .int (nI 2)), (15, .int (nI ((6 * ci) + cl))), (14, .int (nI cl)), (13, .int (nI 0)), (12, .int (nI ci)), (0, .ref oc), (1, .int (nI act)), (2, .int y), (3, .int x), (4, .ref ((ab 0))), (5, .ref ((ab 1))), (6, .ref ((ab 2))), (7, .ref ((ab 3))), (8, .ref ((ab 4))), (9, .ref ((ab 5))), (10, .ref ((ab 6))), (11, .ref ((ab 7)))]) hx hb dL_drafts_447 hl (by decide) rfl (fun ls hl => ?_)
                      refine lv_iload hx hb dL_drafts_449 (lv_at hl 0 rfl) ?_
                      refine lv_iconst (v := nI 4) hx hb dL_drafts_451 (by decide) ?_
                      refine lv_ishr hx hb dL_drafts_452 ?_
                      refine to_i (y := nI ((N 2 ci cl + 16 * 2 + 64 * m1) / 16)) (pk_shrN (by omega) _ 4 (by decide)) ?_
                      refine to_i (y := nI (2 + 4 * m1)) (congrArg nI (by omega)) ?_
                      refine lv_istore (lv' := [(20, .int (nI (2 + 4 * m1))), (16, .int (nI (N 2 ci cl + 16 * 2 + 64 * m1))), (19, .int (nI m0)), (18, .int (nI 4)), (17, .int (nI 2)), (15, .int (nI ((6 * ci) + cl))), (14, .int (nI cl)), (13, .int (nI 0)), (12, .int (nI ci)), (0, .ref oc), (1, .int (nI act)), (2, .int y), (3, .int x), (4, .ref ((ab 0))), (5, .ref ((ab 1))), (6, .ref ((ab 2))), (7, .ref ((ab 3))), (8, .ref ((ab 4))), (9, .ref ((ab 5))), (10, .ref ((ab 6))), (11, .ref ((ab 7)))]) hx hb dL_drafts_453 hl (by decide) rfl (fun ls hl => ?_)
                      refine lv_iload hx hb dL_drafts_455 (lv_at hl 2 rfl) ?_
                      refine lv_iload hx hb dL_drafts_457 (lv_at hl 4 rfl) ?_
                      refine n_eq (tgt := 468) hx hb dL_drafts_459 (by decide) (by omega) (by omega) (fun c_25 => ?_) (fun c_25 => ?_)
                      · refine lv_aload hx hb dL_drafts_468 (lv_at hl 16 rfl) ?_
                        refine lv_iload hx hb dL_drafts_470 (lv_at hl 5 rfl) ?_
                        refine lv_iload hx hb dL_drafts_472 (lv_at hl 0 rfl) ?_
                        refine lv_bipush (v := nI 10) hx hb dL_drafts_474 (by decide) ?_
                        refine n_eq (tgt := 492) hx hb dL_drafts_476 (by decide) (by omega) (by omega) (fun c_26 => ?_) (fun c_26 => ?_)
                        · refine lv_iconst (v := nI 0) hx hb dL_drafts_492 (by decide) ?_
                          refine lv_goto (tgt := 498) hx hb dL_drafts_493 (by decide) ?_
                          refine x_iast (f := fun j => nI (Y 3 j)) hx hb hK hP hD hS (_ + 3) 0 (app_r rfl) rfl (t := (6 * ci) + cl) (x := nI 0) (by omega) (by decide) dL_drafts_498 (fun H locs hP hD hS => ?_)
                          rw [app_setr, upd_nI] at hP hD
                          have hP : va_P (dC, dI) vwCl (cw cy e0 ad L S N ++ yw ab cy (va_up Y 3 (va_up (Y 3) ((6 * ci) + cl) 0)) t D a b) H := hP
                          have hD : va_D A (cw cy e0 ad L S N ++ yw ab cy (va_up Y 3 (va_up (Y 3) ((6 * ci) + cl) 0)) t D a b) := hD
                          refine lv_aload_n hx hb dL_drafts_499 rfl (lv_at hl 9 rfl) ?_
                          refine lv_iload hx hb dL_drafts_500 (lv_at hl 8 rfl) ?_
                          refine lv_iload hx hb dL_drafts_502 (lv_at hl 7 rfl) ?_
                          refine lv_iload hx hb dL_drafts_504 (lv_at hl 6 rfl) ?_
                          refine lv_iload hx hb dL_drafts_506 (lv_at hl 4 rfl) ?_
                          refine callY_i hP (vx_runSW (As := [.ref oc, .int (nI ci), .int (nI 0), .int (nI cl), .int (nI 2)]) (rest := []) ⟨hx, hb, hml, hown, hts⟩ (qL_mark l dC dI cy e0 mi oc ad L S N H.size (nI ci) (nI 0) (nI cl) (nI 2) hI hX hst hoc) (vx_cwSW 5 hts gL_drafts_L_mark rfl rfl rfl (by decide +kernel) ⟨Nat.le_of_ble_eq_true rfl, Nat.le_of_ble_eq_true rfl⟩) (preLS hK (w_leftP hP) (w_leftD hD) hS hA ham) rfl rfl hl.1 rfl (lv_room (Nat.le_of_ble_eq_true rfl)) dL_drafts_508 ⟨Nat.le_of_ble_eq_true rfl, Nat.le_of_ble_eq_true rfl⟩) hD hS hA (fun rr uc H locs hw hP hD hS => ?_)
                          rw [eci] at hw
                          rw [ecl] at hw
                          rw [ix_nI (show (0 : Nat) < 2 ^ 31 by decide)] at hw
                          rw [if_neg hz] at hw
                          rw [if_neg hz] at hw
                          obtain ⟨er, ad, L, rfl, hI, hX, hoc⟩ := lres_n0 hw ((if_pos (ct_in (by omega) (by omega))).trans ((if_pos ⟨by decide, cl_in (by omega), by decide⟩).trans (if_pos (by rw [eci, ecl]; exact ⟨hdr.mpr c_22, fun q => hz q.1⟩))))
                          have hP : va_P (dC, dI) vwCl (cwT cy e0 (ad, L, K_change S N ci 0 cl (nI 2)) ++ yw ab cy (va_up Y 3 (va_up (Y 3) ((6 * ci) + cl) 0)) t D a b) H := hP
                          have hD : va_D A (cwT cy e0 (ad, L, K_change S N ci 0 cl (nI 2)) ++ yw ab cy (va_up Y 3 (va_up (Y 3) ((6 * ci) + cl) 0)) t D a b) := hD
                          refine to_i (y := nI m0) (er.trans (e4)) ?_
                          refine lv_iload hx hb dL_drafts_511 (lv_at hl 2 rfl) ?_
                          refine lv_icmp_ne (tgt := 520) hx hb dL_drafts_513 (by decide) (fun h9 => absurd rfl h9) (fun _ => ?_)
                          refine lv_iconst (v := nI 1) hx hb dL_drafts_516 (by decide) ?_
                          refine lv_goto (tgt := 521) hx hb dL_drafts_517 (by decide) ?_
                          rw [← hQQ]; exact end_z (u := ((ad, L, K_change S N ci 0 cl (nI 2)), (va_up Y 3 (va_up (Y 3) ((6 * ci) + cl) 0), t, D, a, b))) hx hb hr hlocks dL_drafts_521 hK hP hD hS (by rfl) (by exfalso; omega) (Nat.le_of_ble_eq_true rfl) (Nat.le_of_ble_eq_true rfl)
                        · refine lv_iload hx hb dL_drafts_479 (lv_at hl 0 rfl) ?_
                          refine lv_iconst (v := nI 2) hx hb dL_drafts_481 (by decide) ?_
                          refine n_eq (tgt := 492) hx hb dL_drafts_482 (by decide) (by omega) (by omega) (fun c_27 => ?_) (fun c_27 => ?_)
                          · refine lv_iconst (v := nI 0) hx hb dL_drafts_492 (by decide) ?_
                            refine lv_goto (tgt := 498) hx hb dL_drafts_493 (by decide) ?_
                            refine x_iast (f := fun j => nI (Y 3 j)) hx hb hK hP hD hS (_ + 3) 0 (app_r rfl) rfl (t := (6 * ci) + cl) (x := nI 0) (by omega) (by decide) dL_drafts_498 (fun H locs hP hD hS => ?_)
                            rw [app_setr, upd_nI] at hP hD
                            have hP : va_P (dC, dI) vwCl (cw cy e0 ad L S N ++ yw ab cy (va_up Y 3 (va_up (Y 3) ((6 * ci) + cl) 0)) t D a b) H := hP
                            have hD : va_D A (cw cy e0 ad L S N ++ yw ab cy (va_up Y 3 (va_up (Y 3) ((6 * ci) + cl) 0)) t D a b) := hD
                            refine lv_aload_n hx hb dL_drafts_499 rfl (lv_at hl 9 rfl) ?_
                            refine lv_iload hx hb dL_drafts_500 (lv_at hl 8 rfl) ?_
                            refine lv_iload hx hb dL_drafts_502 (lv_at hl 7 rfl) ?_
                            refine lv_iload hx hb dL_drafts_504 (lv_at hl 6 rfl) ?_
                            refine lv_iload hx hb dL_drafts_506 (lv_at hl 4 rfl) ?_
                            refine callY_i hP (vx_runSW (As := [.ref oc, .int (nI ci), .int (nI 0), .int (nI cl), .int (nI 2)]) (rest := []) ⟨hx, hb, hml, hown, hts⟩ (qL_mark l dC dI cy e0 mi oc ad L S N H.size (nI ci) (nI 0) (nI cl) (nI 2) hI hX hst hoc) (vx_cwSW 5 hts gL_drafts_L_mark rfl rfl rfl (by decide +kernel) ⟨Nat.le_of_ble_eq_true rfl, Nat.le_of_ble_eq_true rfl⟩) (preLS hK (w_leftP hP) (w_leftD hD) hS hA ham) rfl rfl hl.1 rfl (lv_room (Nat.le_of_ble_eq_true rfl)) dL_drafts_508 ⟨Nat.le_of_ble_eq_true rfl, Nat.le_of_ble_eq_true rfl⟩) hD hS hA (fun rr uc H locs hw hP hD hS => ?_)
                            rw [eci] at hw
                            rw [ecl] at hw
                            rw [ix_nI (show (0 : Nat) < 2 ^ 31 by decide)] at hw
                            rw [if_neg hz] at hw
                            rw [if_neg hz] at hw
                            obtain ⟨er, ad, L, rfl, hI, hX, hoc⟩ := lres_n0 hw ((if_pos (ct_in (by omega) (by omega))).trans ((if_pos ⟨by decide, cl_in (by omega), by decide⟩).trans (if_pos (by rw [eci, ecl]; exact ⟨hdr.mpr c_22, fun q => hz q.1⟩))))
                            have hP : va_P (dC, dI) vwCl (cwT cy e0 (ad, L, K_change S N ci 0 cl (nI 2)) ++ yw ab cy (va_up Y 3 (va_up (Y 3) ((6 * ci) + cl) 0)) t D a b) H := hP
                            have hD : va_D A (cwT cy e0 (ad, L, K_change S N ci 0 cl (nI 2)) ++ yw ab cy (va_up Y 3 (va_up (Y 3) ((6 * ci) + cl) 0)) t D a b) := hD
                            refine to_i (y := nI m0) (er.trans (e4)) ?_
                            refine lv_iload hx hb dL_drafts_511 (lv_at hl 2 rfl) ?_
                            refine lv_icmp_ne (tgt := 520) hx hb dL_drafts_513 (by decide) (fun h9 => absurd rfl h9) (fun _ => ?_)
                            refine lv_iconst (v := nI 1) hx hb dL_drafts_516 (by decide) ?_
                            refine lv_goto (tgt := 521) hx hb dL_drafts_517 (by decide) ?_
                            rw [← hQQ]; exact end_z (u := ((ad, L, K_change S N ci 0 cl (nI 2)), (va_up Y 3 (va_up (Y 3) ((6 * ci) + cl) 0), t, D, a, b))) hx hb hr hlocks dL_drafts_521 hK hP hD hS (by rfl) (by exfalso; omega) (Nat.le_of_ble_eq_true rfl) (Nat.le_of_ble_eq_true rfl)
                          · refine lv_iload hx hb dL_drafts_485 (lv_at hl 0 rfl) ?_
                            refine lv_bipush (v := nI 8) hx hb dL_drafts_487 (by decide) ?_
                            refine n_ne (tgt := 496) hx hb dL_drafts_489 (by decide) (by omega) (by omega) (fun c_28 => ?_) (fun c_28 => ?_)
                            · refine lv_iload hx hb dL_drafts_496 (lv_at hl 1 rfl) ?_
                              refine x_iast (f := fun j => nI (Y 3 j)) hx hb hK hP hD hS (_ + 3) 0 (app_r rfl) rfl (t := (6 * ci) + cl) (x := nI (N 2 ci cl + 16 * 2 + 64 * m1)) (by omega) (by decide) dL_drafts_498 (fun H locs hP hD hS => ?_)
                              rw [app_setr, upd_nI] at hP hD
                              have hP : va_P (dC, dI) vwCl (cw cy e0 ad L S N ++ yw ab cy (va_up Y 3 (va_up (Y 3) ((6 * ci) + cl) (N 2 ci cl + 16 * 2 + 64 * m1))) t D a b) H := hP
                              have hD : va_D A (cw cy e0 ad L S N ++ yw ab cy (va_up Y 3 (va_up (Y 3) ((6 * ci) + cl) (N 2 ci cl + 16 * 2 + 64 * m1))) t D a b) := hD
                              refine lv_aload_n hx hb dL_drafts_499 rfl (lv_at hl 9 rfl) ?_
                              refine lv_iload hx hb dL_drafts_500 (lv_at hl 8 rfl) ?_
                              refine lv_iload hx hb dL_drafts_502 (lv_at hl 7 rfl) ?_
                              refine lv_iload hx hb dL_drafts_504 (lv_at hl 6 rfl) ?_
                              refine lv_iload hx hb dL_drafts_506 (lv_at hl 4 rfl) ?_
                              refine callY_i hP (vx_runSW (As := [.ref oc, .int (nI ci), .int (nI 0), .int (nI cl), .int (nI 2)]) (rest := []) ⟨hx, hb, hml, hown, hts⟩ (qL_mark l dC dI cy e0 mi oc ad L S N H.size (nI ci) (nI 0) (nI cl) (nI 2) hI hX hst hoc) (vx_cwSW 5 hts gL_drafts_L_mark rfl rfl rfl (by decide +kernel) ⟨Nat.le_of_ble_eq_true rfl, Nat.le_of_ble_eq_true rfl⟩) (preLS hK (w_leftP hP) (w_leftD hD) hS hA ham) rfl rfl hl.1 rfl (lv_room (Nat.le_of_ble_eq_true rfl)) dL_drafts_508 ⟨Nat.le_of_ble_eq_true rfl, Nat.le_of_ble_eq_true rfl⟩) hD hS hA (fun rr uc H locs hw hP hD hS => ?_)
                              rw [eci] at hw
                              rw [ecl] at hw
                              rw [ix_nI (show (0 : Nat) < 2 ^ 31 by decide)] at hw
                              rw [if_neg hz] at hw
                              rw [if_neg hz] at hw
                              obtain ⟨er, ad, L, rfl, hI, hX, hoc⟩ := lres_n0 hw ((if_pos (ct_in (by omega) (by omega))).trans ((if_pos ⟨by decide, cl_in (by omega), by decide⟩).trans (if_pos (by rw [eci, ecl]; exact ⟨hdr.mpr c_22, fun q => hz q.1⟩))))
                              have hP : va_P (dC, dI) vwCl (cwT cy e0 (ad, L, K_change S N ci 0 cl (nI 2)) ++ yw ab cy (va_up Y 3 (va_up (Y 3) ((6 * ci) + cl) (N 2 ci cl + 16 * 2 + 64 * m1))) t D a b) H := hP
                              have hD : va_D A (cwT cy e0 (ad, L, K_change S N ci 0 cl (nI 2)) ++ yw ab cy (va_up Y 3 (va_up (Y 3) ((6 * ci) + cl) (N 2 ci cl + 16 * 2 + 64 * m1))) t D a b) := hD
                              refine to_i (y := nI m0) (er.trans (e4)) ?_
                              refine lv_iload hx hb dL_drafts_511 (lv_at hl 2 rfl) ?_
                              refine lv_icmp_ne (tgt := 520) hx hb dL_drafts_513 (by decide) (fun h9 => absurd rfl h9) (fun _ => ?_)
                              refine lv_iconst (v := nI 1) hx hb dL_drafts_516 (by decide) ?_
                              refine lv_goto (tgt := 521) hx hb dL_drafts_517 (by decide) ?_
                              have eKC : K_change S N ci 0 cl (nI 2) = (S, N) := if_pos (e4.trans (congrArg nI (by omega)))
                              have eYY := Y_id (show N 2 ci cl + 16 * 2 + 64 * m1 = Y 3 (6 * ci + cl) by omega)
                              rw [← hQQ]; exact end_z (u := ((ad, L, K_change S N ci 0 cl (nI 2)), (va_up Y 3 (va_up (Y 3) ((6 * ci) + cl) (N 2 ci cl + 16 * 2 + 64 * m1)), t, D, a, b))) hx hb hr hlocks dL_drafts_521 hK hP hD hS (by rfl) ⟨rfl, ⟨hI, hX⟩, hoc, (by show RZ (K_change S N ci 0 cl (nI 2)).1 (K_change S N ci 0 cl (nI 2)).2 _ _ _ _ _; rw [eKC, eYY]; exact hR)⟩ (Nat.le_of_ble_eq_true rfl) (Nat.le_of_ble_eq_true rfl)
                            · refine lv_iconst (v := nI 0) hx hb dL_drafts_492 (by decide) ?_
                              refine lv_goto (tgt := 498) hx hb dL_drafts_493 (by decide) ?_
                              refine x_iast (f := fun j => nI (Y 3 j)) hx hb hK hP hD hS (_ + 3) 0 (app_r rfl) rfl (t := (6 * ci) + cl) (x := nI 0) (by omega) (by decide) dL_drafts_498 (fun H locs hP hD hS => ?_)
                              rw [app_setr, upd_nI] at hP hD
                              have hP : va_P (dC, dI) vwCl (cw cy e0 ad L S N ++ yw ab cy (va_up Y 3 (va_up (Y 3) ((6 * ci) + cl) 0)) t D a b) H := hP
                              have hD : va_D A (cw cy e0 ad L S N ++ yw ab cy (va_up Y 3 (va_up (Y 3) ((6 * ci) + cl) 0)) t D a b) := hD
                              refine lv_aload_n hx hb dL_drafts_499 rfl (lv_at hl 9 rfl) ?_
                              refine lv_iload hx hb dL_drafts_500 (lv_at hl 8 rfl) ?_
                              refine lv_iload hx hb dL_drafts_502 (lv_at hl 7 rfl) ?_
                              refine lv_iload hx hb dL_drafts_504 (lv_at hl 6 rfl) ?_
                              refine lv_iload hx hb dL_drafts_506 (lv_at hl 4 rfl) ?_
                              refine callY_i hP (vx_runSW (As := [.ref oc, .int (nI ci), .int (nI 0), .int (nI cl), .int (nI 2)]) (rest := []) ⟨hx, hb, hml, hown, hts⟩ (qL_mark l dC dI cy e0 mi oc ad L S N H.size (nI ci) (nI 0) (nI cl) (nI 2) hI hX hst hoc) (vx_cwSW 5 hts gL_drafts_L_mark rfl rfl rfl (by decide +kernel) ⟨Nat.le_of_ble_eq_true rfl, Nat.le_of_ble_eq_true rfl⟩) (preLS hK (w_leftP hP) (w_leftD hD) hS hA ham) rfl rfl hl.1 rfl (lv_room (Nat.le_of_ble_eq_true rfl)) dL_drafts_508 ⟨Nat.le_of_ble_eq_true rfl, Nat.le_of_ble_eq_true rfl⟩) hD hS hA (fun rr uc H locs hw hP hD hS => ?_)
                              rw [eci] at hw
                              rw [ecl] at hw
                              rw [ix_nI (show (0 : Nat) < 2 ^ 31 by decide)] at hw
                              rw [if_neg hz] at hw
                              rw [if_neg hz] at hw
                              obtain ⟨er, ad, L, rfl, hI, hX, hoc⟩ := lres_n0 hw ((if_pos (ct_in (by omega) (by omega))).trans ((if_pos ⟨by decide, cl_in (by omega), by decide⟩).trans (if_pos (by rw [eci, ecl]; exact ⟨hdr.mpr c_22, fun q => hz q.1⟩))))
                              have hP : va_P (dC, dI) vwCl (cwT cy e0 (ad, L, K_change S N ci 0 cl (nI 2)) ++ yw ab cy (va_up Y 3 (va_up (Y 3) ((6 * ci) + cl) 0)) t D a b) H := hP
                              have hD : va_D A (cwT cy e0 (ad, L, K_change S N ci 0 cl (nI 2)) ++ yw ab cy (va_up Y 3 (va_up (Y 3) ((6 * ci) + cl) 0)) t D a b) := hD
                              refine to_i (y := nI m0) (er.trans (e4)) ?_
                              refine lv_iload hx hb dL_drafts_511 (lv_at hl 2 rfl) ?_
                              refine lv_icmp_ne (tgt := 520) hx hb dL_drafts_513 (by decide) (fun h9 => absurd rfl h9) (fun _ => ?_)
                              refine lv_iconst (v := nI 1) hx hb dL_drafts_516 (by decide) ?_
                              refine lv_goto (tgt := 521) hx hb dL_drafts_517 (by decide) ?_
                              rw [← hQQ]; exact end_z (u := ((ad, L, K_change S N ci 0 cl (nI 2)), (va_up Y 3 (va_up (Y 3) ((6 * ci) + cl) 0), t, D, a, b))) hx hb hr hlocks dL_drafts_521 hK hP hD hS (by rfl) (by exfalso; omega) (Nat.le_of_ble_eq_true rfl) (Nat.le_of_ble_eq_true rfl)
                      · refine lv_aload hx hb dL_drafts_462 (lv_at hl 17 rfl) ?_
                        refine lv_iload hx hb dL_drafts_464 (lv_at hl 8 rfl) ?_
                        refine lv_iconst (v := nI 0) hx hb dL_drafts_466 (by decide) ?_
                        refine x_iast (f := fun j => nI (Y 4 j)) hx hb hK hP hD hS (_ + 4) 0 (app_r rfl) rfl (t := ci) (x := nI 0) (by omega) (by decide) dL_drafts_467 (fun H locs hP hD hS => ?_)
                        rw [app_setr, upd_nI] at hP hD
                        have hP : va_P (dC, dI) vwCl (cw cy e0 ad L S N ++ yw ab cy (va_up Y 4 (va_up (Y 4) ci 0)) t D a b) H := hP
                        have hD : va_D A (cw cy e0 ad L S N ++ yw ab cy (va_up Y 4 (va_up (Y 4) ci 0)) t D a b) := hD
                        refine lv_aload hx hb dL_drafts_468 (lv_at hl 16 rfl) ?_
                        refine lv_iload hx hb dL_drafts_470 (lv_at hl 5 rfl) ?_
                        refine lv_iload hx hb dL_drafts_472 (lv_at hl 0 rfl) ?_
                        refine lv_bipush (v := nI 10) hx hb dL_drafts_474 (by decide) ?_
                        refine n_eq (tgt := 492) hx hb dL_drafts_476 (by decide) (by omega) (by omega) (fun c_29 => ?_) (fun c_29 => ?_)
                        · refine lv_iconst (v := nI 0) hx hb dL_drafts_492 (by decide) ?_
                          refine lv_goto (tgt := 498) hx hb dL_drafts_493 (by decide) ?_
                          refine x_iast (f := fun j => nI ((va_up Y 4 (va_up (Y 4) ci 0)) 3 j)) hx hb hK hP hD hS (_ + 3) 0 (app_r rfl) rfl (t := (6 * ci) + cl) (x := nI 0) (by omega) (by decide) dL_drafts_498 (fun H locs hP hD hS => ?_)
                          rw [app_setr, upd_nI] at hP hD
                          have hP : va_P (dC, dI) vwCl (cw cy e0 ad L S N ++ yw ab cy (va_up (va_up Y 4 (va_up (Y 4) ci 0)) 3 (va_up ((va_up Y 4 (va_up (Y 4) ci 0)) 3) ((6 * ci) + cl) 0)) t D a b) H := hP
                          have hD : va_D A (cw cy e0 ad L S N ++ yw ab cy (va_up (va_up Y 4 (va_up (Y 4) ci 0)) 3 (va_up ((va_up Y 4 (va_up (Y 4) ci 0)) 3) ((6 * ci) + cl) 0)) t D a b) := hD
                          refine lv_aload_n hx hb dL_drafts_499 rfl (lv_at hl 9 rfl) ?_
                          refine lv_iload hx hb dL_drafts_500 (lv_at hl 8 rfl) ?_
                          refine lv_iload hx hb dL_drafts_502 (lv_at hl 7 rfl) ?_
                          refine lv_iload hx hb dL_drafts_504 (lv_at hl 6 rfl) ?_
                          refine lv_iload hx hb dL_drafts_506 (lv_at hl 4 rfl) ?_
                          refine callY_i hP (vx_runSW (As := [.ref oc, .int (nI ci), .int (nI 0), .int (nI cl), .int (nI 2)]) (rest := []) ⟨hx, hb, hml, hown, hts⟩ (qL_mark l dC dI cy e0 mi oc ad L S N H.size (nI ci) (nI 0) (nI cl) (nI 2) hI hX hst hoc) (vx_cwSW 5 hts gL_drafts_L_mark rfl rfl rfl (by decide +kernel) ⟨Nat.le_of_ble_eq_true rfl, Nat.le_of_ble_eq_true rfl⟩) (preLS hK (w_leftP hP) (w_leftD hD) hS hA ham) rfl rfl hl.1 rfl (lv_room (Nat.le_of_ble_eq_true rfl)) dL_drafts_508 ⟨Nat.le_of_ble_eq_true rfl, Nat.le_of_ble_eq_true rfl⟩) hD hS hA (fun rr uc H locs hw hP hD hS => ?_)
                          rw [eci] at hw
                          rw [ecl] at hw
                          rw [ix_nI (show (0 : Nat) < 2 ^ 31 by decide)] at hw
                          rw [if_neg hz] at hw
                          rw [if_neg hz] at hw
                          obtain ⟨er, ad, L, rfl, hI, hX, hoc⟩ := lres_n0 hw ((if_pos (ct_in (by omega) (by omega))).trans ((if_pos ⟨by decide, cl_in (by omega), by decide⟩).trans (if_pos (by rw [eci, ecl]; exact ⟨hdr.mpr c_22, fun q => hz q.1⟩))))
                          have hP : va_P (dC, dI) vwCl (cwT cy e0 (ad, L, K_change S N ci 0 cl (nI 2)) ++ yw ab cy (va_up (va_up Y 4 (va_up (Y 4) ci 0)) 3 (va_up ((va_up Y 4 (va_up (Y 4) ci 0)) 3) ((6 * ci) + cl) 0)) t D a b) H := hP
                          have hD : va_D A (cwT cy e0 (ad, L, K_change S N ci 0 cl (nI 2)) ++ yw ab cy (va_up (va_up Y 4 (va_up (Y 4) ci 0)) 3 (va_up ((va_up Y 4 (va_up (Y 4) ci 0)) 3) ((6 * ci) + cl) 0)) t D a b) := hD
                          refine to_i (y := nI m0) (er.trans (e4)) ?_
                          refine lv_iload hx hb dL_drafts_511 (lv_at hl 2 rfl) ?_
                          refine lv_icmp_ne (tgt := 520) hx hb dL_drafts_513 (by decide) (fun h9 => absurd rfl h9) (fun _ => ?_)
                          refine lv_iconst (v := nI 1) hx hb dL_drafts_516 (by decide) ?_
                          refine lv_goto (tgt := 521) hx hb dL_drafts_517 (by decide) ?_
                          obtain ⟨p1, p2, p3, p4, p5⟩ := yz1 Y ci (6 * ci + cl) 0
                          rw [← hQQ]; exact end_z (u := ((ad, L, K_change S N ci 0 cl (nI 2)), (va_up (va_up Y 4 (va_up (Y 4) ci 0)) 3 (va_up ((va_up Y 4 (va_up (Y 4) ci 0)) 3) ((6 * ci) + cl) 0), t, D, a, b))) hx hb hr hlocks dL_drafts_521 hK hP hD hS (by rfl) ⟨rfl, ⟨hI, hX⟩, hoc, (by show RZ (K_change S N ci 0 cl (nI 2)).1 (K_change S N ci 0 cl (nI 2)).2 _ _ _ _ _; exact rz_change (sd := 0) (mk := 2) (m0 := 2) (m1 := m1) hR (by omega) (by omega) hcl6 (hdr.mpr c_22) (by decide) hz (by decide) (fun q => c_25 ((nI_inj (by omega) (by decide)).mp (e4.symm.trans q))) (by rw [if_pos rfl]) (by rw [if_pos rfl, e5, ix_nI (by omega)]) p1 p2 (p3.trans (by rw [if_neg (by omega)])) p4 p5 (zY_up (zY_up hYb _ _ (by decide)) _ _ (by omega)))⟩ (Nat.le_of_ble_eq_true rfl) (Nat.le_of_ble_eq_true rfl)
                        · refine lv_iload hx hb dL_drafts_479 (lv_at hl 0 rfl) ?_
                          refine lv_iconst (v := nI 2) hx hb dL_drafts_481 (by decide) ?_
                          refine n_eq (tgt := 492) hx hb dL_drafts_482 (by decide) (by omega) (by omega) (fun c_30 => ?_) (fun c_30 => ?_)
                          · refine lv_iconst (v := nI 0) hx hb dL_drafts_492 (by decide) ?_
                            refine lv_goto (tgt := 498) hx hb dL_drafts_493 (by decide) ?_
                            refine x_iast (f := fun j => nI ((va_up Y 4 (va_up (Y 4) ci 0)) 3 j)) hx hb hK hP hD hS (_ + 3) 0 (app_r rfl) rfl (t := (6 * ci) + cl) (x := nI 0) (by omega) (by decide) dL_drafts_498 (fun H locs hP hD hS => ?_)
                            rw [app_setr, upd_nI] at hP hD
                            have hP : va_P (dC, dI) vwCl (cw cy e0 ad L S N ++ yw ab cy (va_up (va_up Y 4 (va_up (Y 4) ci 0)) 3 (va_up ((va_up Y 4 (va_up (Y 4) ci 0)) 3) ((6 * ci) + cl) 0)) t D a b) H := hP
                            have hD : va_D A (cw cy e0 ad L S N ++ yw ab cy (va_up (va_up Y 4 (va_up (Y 4) ci 0)) 3 (va_up ((va_up Y 4 (va_up (Y 4) ci 0)) 3) ((6 * ci) + cl) 0)) t D a b) := hD
                            refine lv_aload_n hx hb dL_drafts_499 rfl (lv_at hl 9 rfl) ?_
                            refine lv_iload hx hb dL_drafts_500 (lv_at hl 8 rfl) ?_
                            refine lv_iload hx hb dL_drafts_502 (lv_at hl 7 rfl) ?_
                            refine lv_iload hx hb dL_drafts_504 (lv_at hl 6 rfl) ?_
                            refine lv_iload hx hb dL_drafts_506 (lv_at hl 4 rfl) ?_
                            refine callY_i hP (vx_runSW (As := [.ref oc, .int (nI ci), .int (nI 0), .int (nI cl), .int (nI 2)]) (rest := []) ⟨hx, hb, hml, hown, hts⟩ (qL_mark l dC dI cy e0 mi oc ad L S N H.size (nI ci) (nI 0) (nI cl) (nI 2) hI hX hst hoc) (vx_cwSW 5 hts gL_drafts_L_mark rfl rfl rfl (by decide +kernel) ⟨Nat.le_of_ble_eq_true rfl, Nat.le_of_ble_eq_true rfl⟩) (preLS hK (w_leftP hP) (w_leftD hD) hS hA ham) rfl rfl hl.1 rfl (lv_room (Nat.le_of_ble_eq_true rfl)) dL_drafts_508 ⟨Nat.le_of_ble_eq_true rfl, Nat.le_of_ble_eq_true rfl⟩) hD hS hA (fun rr uc H locs hw hP hD hS => ?_)
                            rw [eci] at hw
                            rw [ecl] at hw
                            rw [ix_nI (show (0 : Nat) < 2 ^ 31 by decide)] at hw
                            rw [if_neg hz] at hw
                            rw [if_neg hz] at hw
                            obtain ⟨er, ad, L, rfl, hI, hX, hoc⟩ := lres_n0 hw ((if_pos (ct_in (by omega) (by omega))).trans ((if_pos ⟨by decide, cl_in (by omega), by decide⟩).trans (if_pos (by rw [eci, ecl]; exact ⟨hdr.mpr c_22, fun q => hz q.1⟩))))
                            have hP : va_P (dC, dI) vwCl (cwT cy e0 (ad, L, K_change S N ci 0 cl (nI 2)) ++ yw ab cy (va_up (va_up Y 4 (va_up (Y 4) ci 0)) 3 (va_up ((va_up Y 4 (va_up (Y 4) ci 0)) 3) ((6 * ci) + cl) 0)) t D a b) H := hP
                            have hD : va_D A (cwT cy e0 (ad, L, K_change S N ci 0 cl (nI 2)) ++ yw ab cy (va_up (va_up Y 4 (va_up (Y 4) ci 0)) 3 (va_up ((va_up Y 4 (va_up (Y 4) ci 0)) 3) ((6 * ci) + cl) 0)) t D a b) := hD
                            refine to_i (y := nI m0) (er.trans (e4)) ?_
                            refine lv_iload hx hb dL_drafts_511 (lv_at hl 2 rfl) ?_
                            refine lv_icmp_ne (tgt := 520) hx hb dL_drafts_513 (by decide) (fun h9 => absurd rfl h9) (fun _ => ?_)
                            refine lv_iconst (v := nI 1) hx hb dL_drafts_516 (by decide) ?_
                            refine lv_goto (tgt := 521) hx hb dL_drafts_517 (by decide) ?_
                            obtain ⟨p1, p2, p3, p4, p5⟩ := yz1 Y ci (6 * ci + cl) 0
                            rw [← hQQ]; exact end_z (u := ((ad, L, K_change S N ci 0 cl (nI 2)), (va_up (va_up Y 4 (va_up (Y 4) ci 0)) 3 (va_up ((va_up Y 4 (va_up (Y 4) ci 0)) 3) ((6 * ci) + cl) 0), t, D, a, b))) hx hb hr hlocks dL_drafts_521 hK hP hD hS (by rfl) ⟨rfl, ⟨hI, hX⟩, hoc, (by show RZ (K_change S N ci 0 cl (nI 2)).1 (K_change S N ci 0 cl (nI 2)).2 _ _ _ _ _; exact rz_change (sd := 0) (mk := 2) (m0 := 2) (m1 := m1) hR (by omega) (by omega) hcl6 (hdr.mpr c_22) (by decide) hz (by decide) (fun q => c_25 ((nI_inj (by omega) (by decide)).mp (e4.symm.trans q))) (by rw [if_pos rfl]) (by rw [if_pos rfl, e5, ix_nI (by omega)]) p1 p2 (p3.trans (by rw [if_neg (by omega)])) p4 p5 (zY_up (zY_up hYb _ _ (by decide)) _ _ (by omega)))⟩ (Nat.le_of_ble_eq_true rfl) (Nat.le_of_ble_eq_true rfl)
                          · refine lv_iload hx hb dL_drafts_485 (lv_at hl 0 rfl) ?_
                            refine lv_bipush (v := nI 8) hx hb dL_drafts_487 (by decide) ?_
                            refine n_ne (tgt := 496) hx hb dL_drafts_489 (by decide) (by omega) (by omega) (fun c_31 => ?_) (fun c_31 => ?_)
                            · refine lv_iload hx hb dL_drafts_496 (lv_at hl 1 rfl) ?_
                              refine x_iast (f := fun j => nI ((va_up Y 4 (va_up (Y 4) ci 0)) 3 j)) hx hb hK hP hD hS (_ + 3) 0 (app_r rfl) rfl (t := (6 * ci) + cl) (x := nI (N 2 ci cl + 16 * 2 + 64 * m1)) (by omega) (by decide) dL_drafts_498 (fun H locs hP hD hS => ?_)
                              rw [app_setr, upd_nI] at hP hD
                              have hP : va_P (dC, dI) vwCl (cw cy e0 ad L S N ++ yw ab cy (va_up (va_up Y 4 (va_up (Y 4) ci 0)) 3 (va_up ((va_up Y 4 (va_up (Y 4) ci 0)) 3) ((6 * ci) + cl) (N 2 ci cl + 16 * 2 + 64 * m1))) t D a b) H := hP
                              have hD : va_D A (cw cy e0 ad L S N ++ yw ab cy (va_up (va_up Y 4 (va_up (Y 4) ci 0)) 3 (va_up ((va_up Y 4 (va_up (Y 4) ci 0)) 3) ((6 * ci) + cl) (N 2 ci cl + 16 * 2 + 64 * m1))) t D a b) := hD
                              refine lv_aload_n hx hb dL_drafts_499 rfl (lv_at hl 9 rfl) ?_
                              refine lv_iload hx hb dL_drafts_500 (lv_at hl 8 rfl) ?_
                              refine lv_iload hx hb dL_drafts_502 (lv_at hl 7 rfl) ?_
                              refine lv_iload hx hb dL_drafts_504 (lv_at hl 6 rfl) ?_
                              refine lv_iload hx hb dL_drafts_506 (lv_at hl 4 rfl) ?_
                              refine callY_i hP (vx_runSW (As := [.ref oc, .int (nI ci), .int (nI 0), .int (nI cl), .int (nI 2)]) (rest := []) ⟨hx, hb, hml, hown, hts⟩ (qL_mark l dC dI cy e0 mi oc ad L S N H.size (nI ci) (nI 0) (nI cl) (nI 2) hI hX hst hoc) (vx_cwSW 5 hts gL_drafts_L_mark rfl rfl rfl (by decide +kernel) ⟨Nat.le_of_ble_eq_true rfl, Nat.le_of_ble_eq_true rfl⟩) (preLS hK (w_leftP hP) (w_leftD hD) hS hA ham) rfl rfl hl.1 rfl (lv_room (Nat.le_of_ble_eq_true rfl)) dL_drafts_508 ⟨Nat.le_of_ble_eq_true rfl, Nat.le_of_ble_eq_true rfl⟩) hD hS hA (fun rr uc H locs hw hP hD hS => ?_)
                              rw [eci] at hw
                              rw [ecl] at hw
                              rw [ix_nI (show (0 : Nat) < 2 ^ 31 by decide)] at hw
                              rw [if_neg hz] at hw
                              rw [if_neg hz] at hw
                              obtain ⟨er, ad, L, rfl, hI, hX, hoc⟩ := lres_n0 hw ((if_pos (ct_in (by omega) (by omega))).trans ((if_pos ⟨by decide, cl_in (by omega), by decide⟩).trans (if_pos (by rw [eci, ecl]; exact ⟨hdr.mpr c_22, fun q => hz q.1⟩))))
                              have hP : va_P (dC, dI) vwCl (cwT cy e0 (ad, L, K_change S N ci 0 cl (nI 2)) ++ yw ab cy (va_up (va_up Y 4 (va_up (Y 4) ci 0)) 3 (va_up ((va_up Y 4 (va_up (Y 4) ci 0)) 3) ((6 * ci) + cl) (N 2 ci cl + 16 * 2 + 64 * m1))) t D a b) H := hP
                              have hD : va_D A (cwT cy e0 (ad, L, K_change S N ci 0 cl (nI 2)) ++ yw ab cy (va_up (va_up Y 4 (va_up (Y 4) ci 0)) 3 (va_up ((va_up Y 4 (va_up (Y 4) ci 0)) 3) ((6 * ci) + cl) (N 2 ci cl + 16 * 2 + 64 * m1))) t D a b) := hD
                              refine to_i (y := nI m0) (er.trans (e4)) ?_
                              refine lv_iload hx hb dL_drafts_511 (lv_at hl 2 rfl) ?_
                              refine lv_icmp_ne (tgt := 520) hx hb dL_drafts_513 (by decide) (fun h9 => absurd rfl h9) (fun _ => ?_)
                              refine lv_iconst (v := nI 1) hx hb dL_drafts_516 (by decide) ?_
                              refine lv_goto (tgt := 521) hx hb dL_drafts_517 (by decide) ?_
                              obtain ⟨p1, p2, p3, p4, p5⟩ := yz1 Y ci (6 * ci + cl) (N 2 ci cl + 16 * 2 + 64 * m1)
                              rw [← hQQ]; exact end_z (u := ((ad, L, K_change S N ci 0 cl (nI 2)), (va_up (va_up Y 4 (va_up (Y 4) ci 0)) 3 (va_up ((va_up Y 4 (va_up (Y 4) ci 0)) 3) ((6 * ci) + cl) (N 2 ci cl + 16 * 2 + 64 * m1)), t, D, a, b))) hx hb hr hlocks dL_drafts_521 hK hP hD hS (by rfl) ⟨rfl, ⟨hI, hX⟩, hoc, (by show RZ (K_change S N ci 0 cl (nI 2)).1 (K_change S N ci 0 cl (nI 2)).2 _ _ _ _ _; exact rz_change (sd := 0) (mk := 2) (m0 := 2) (m1 := m1) hR (by omega) (by omega) hcl6 (hdr.mpr c_22) (by decide) hz (by decide) (fun q => c_25 ((nI_inj (by omega) (by decide)).mp (e4.symm.trans q))) (by rw [if_pos rfl]) (by rw [if_pos rfl, e5, ix_nI (by omega)]) p1 p2 (p3.trans (by rw [if_pos (by omega)])) p4 p5 (zY_up (zY_up hYb _ _ (by decide)) _ _ (by omega)))⟩ (Nat.le_of_ble_eq_true rfl) (Nat.le_of_ble_eq_true rfl)
                            · refine lv_iconst (v := nI 0) hx hb dL_drafts_492 (by decide) ?_
                              refine lv_goto (tgt := 498) hx hb dL_drafts_493 (by decide) ?_
                              refine x_iast (f := fun j => nI ((va_up Y 4 (va_up (Y 4) ci 0)) 3 j)) hx hb hK hP hD hS (_ + 3) 0 (app_r rfl) rfl (t := (6 * ci) + cl) (x := nI 0) (by omega) (by decide) dL_drafts_498 (fun H locs hP hD hS => ?_)
                              rw [app_setr, upd_nI] at hP hD
                              have hP : va_P (dC, dI) vwCl (cw cy e0 ad L S N ++ yw ab cy (va_up (va_up Y 4 (va_up (Y 4) ci 0)) 3 (va_up ((va_up Y 4 (va_up (Y 4) ci 0)) 3) ((6 * ci) + cl) 0)) t D a b) H := hP
                              have hD : va_D A (cw cy e0 ad L S N ++ yw ab cy (va_up (va_up Y 4 (va_up (Y 4) ci 0)) 3 (va_up ((va_up Y 4 (va_up (Y 4) ci 0)) 3) ((6 * ci) + cl) 0)) t D a b) := hD
                              refine lv_aload_n hx hb dL_drafts_499 rfl (lv_at hl 9 rfl) ?_
                              refine lv_iload hx hb dL_drafts_500 (lv_at hl 8 rfl) ?_
                              refine lv_iload hx hb dL_drafts_502 (lv_at hl 7 rfl) ?_
                              refine lv_iload hx hb dL_drafts_504 (lv_at hl 6 rfl) ?_
                              refine lv_iload hx hb dL_drafts_506 (lv_at hl 4 rfl) ?_
                              refine callY_i hP (vx_runSW (As := [.ref oc, .int (nI ci), .int (nI 0), .int (nI cl), .int (nI 2)]) (rest := []) ⟨hx, hb, hml, hown, hts⟩ (qL_mark l dC dI cy e0 mi oc ad L S N H.size (nI ci) (nI 0) (nI cl) (nI 2) hI hX hst hoc) (vx_cwSW 5 hts gL_drafts_L_mark rfl rfl rfl (by decide +kernel) ⟨Nat.le_of_ble_eq_true rfl, Nat.le_of_ble_eq_true rfl⟩) (preLS hK (w_leftP hP) (w_leftD hD) hS hA ham) rfl rfl hl.1 rfl (lv_room (Nat.le_of_ble_eq_true rfl)) dL_drafts_508 ⟨Nat.le_of_ble_eq_true rfl, Nat.le_of_ble_eq_true rfl⟩) hD hS hA (fun rr uc H locs hw hP hD hS => ?_)
                              rw [eci] at hw
                              rw [ecl] at hw
                              rw [ix_nI (show (0 : Nat) < 2 ^ 31 by decide)] at hw
                              rw [if_neg hz] at hw
                              rw [if_neg hz] at hw
                              obtain ⟨er, ad, L, rfl, hI, hX, hoc⟩ := lres_n0 hw ((if_pos (ct_in (by omega) (by omega))).trans ((if_pos ⟨by decide, cl_in (by omega), by decide⟩).trans (if_pos (by rw [eci, ecl]; exact ⟨hdr.mpr c_22, fun q => hz q.1⟩))))
                              have hP : va_P (dC, dI) vwCl (cwT cy e0 (ad, L, K_change S N ci 0 cl (nI 2)) ++ yw ab cy (va_up (va_up Y 4 (va_up (Y 4) ci 0)) 3 (va_up ((va_up Y 4 (va_up (Y 4) ci 0)) 3) ((6 * ci) + cl) 0)) t D a b) H := hP
                              have hD : va_D A (cwT cy e0 (ad, L, K_change S N ci 0 cl (nI 2)) ++ yw ab cy (va_up (va_up Y 4 (va_up (Y 4) ci 0)) 3 (va_up ((va_up Y 4 (va_up (Y 4) ci 0)) 3) ((6 * ci) + cl) 0)) t D a b) := hD
                              refine to_i (y := nI m0) (er.trans (e4)) ?_
                              refine lv_iload hx hb dL_drafts_511 (lv_at hl 2 rfl) ?_
                              refine lv_icmp_ne (tgt := 520) hx hb dL_drafts_513 (by decide) (fun h9 => absurd rfl h9) (fun _ => ?_)
                              refine lv_iconst (v := nI 1) hx hb dL_drafts_516 (by decide) ?_
                              refine lv_goto (tgt := 521) hx hb dL_drafts_517 (by decide) ?_
                              obtain ⟨p1, p2, p3, p4, p5⟩ := yz1 Y ci (6 * ci + cl) 0
                              rw [← hQQ]; exact end_z (u := ((ad, L, K_change S N ci 0 cl (nI 2)), (va_up (va_up Y 4 (va_up (Y 4) ci 0)) 3 (va_up ((va_up Y 4 (va_up (Y 4) ci 0)) 3) ((6 * ci) + cl) 0), t, D, a, b))) hx hb hr hlocks dL_drafts_521 hK hP hD hS (by rfl) ⟨rfl, ⟨hI, hX⟩, hoc, (by show RZ (K_change S N ci 0 cl (nI 2)).1 (K_change S N ci 0 cl (nI 2)).2 _ _ _ _ _; exact rz_change (sd := 0) (mk := 2) (m0 := 2) (m1 := m1) hR (by omega) (by omega) hcl6 (hdr.mpr c_22) (by decide) hz (by decide) (fun q => c_25 ((nI_inj (by omega) (by decide)).mp (e4.symm.trans q))) (by rw [if_pos rfl]) (by rw [if_pos rfl, e5, ix_nI (by omega)]) p1 p2 (p3.trans (by rw [if_neg (by omega)])) p4 p5 (zY_up (zY_up hYb _ _ (by decide)) _ _ (by omega)))⟩ (Nat.le_of_ble_eq_true rfl) (Nat.le_of_ble_eq_true rfl)
                    · refine lv_iconst (v := nI 4) hx hb dL_drafts_398 (by decide) ?_
                      refine lv_iconst (v := nI 2) hx hb dL_drafts_399 (by decide) ?_
                      refine lv_iload hx hb dL_drafts_400 (lv_at hl 4 rfl) ?_
                      refine lv_imul hx hb dL_drafts_402 ?_
                      refine to_i (y := nI (2)) (pk_mul _ _) ?_
                      refine lv_iadd hx hb dL_drafts_403 ?_
                      refine to_i (y := nI (6)) (nI_add _ _) ?_
                      refine lv_istore (lv' := [(18, .int (nI 6)), (17, .int (nI 2)), (16, .int (nI it)), (15, .int (nI ((6 * ci) + cl))), (14, .int (nI cl)), (13, .int (nI 1)), (12, .int (nI ci)), (0, .ref oc), (1, .int (nI act)), (2, .int y), (3, .int x), (4, .ref ((ab 0))), (5, .ref ((ab 1))), (6, .ref ((ab 2))), (7, .ref ((ab 3))), (8, .ref ((ab 4))), (9, .ref ((ab 5))), (10, .ref ((ab 6))), (11, .ref ((ab 7)))]) hx hb dL_drafts_404 hl (by decide) rfl (fun ls hl => ?_)
                      refine lv_iload hx hb dL_drafts_406 (lv_at hl 2 rfl) ?_
                      refine lv_iload hx hb dL_drafts_408 (lv_at hl 0 rfl) ?_
                      refine lv_ishr hx hb dL_drafts_410 ?_
                      refine to_i (y := nI (it / 64)) (pk_shrN (by omega) _ 6 (by decide)) ?_
                      refine lv_iconst (v := nI 3) hx hb dL_drafts_411 (by decide) ?_
                      refine lv_iand hx hb dL_drafts_412 ?_
                      refine to_i (y := nI ((it / 64) % 4)) (pk_andN (by omega) 2 (by decide)) ?_
                      refine to_i (y := nI m1) (congrArg nI (by omega)) ?_
                      refine lv_istore (lv' := [(19, .int (nI m1)), (18, .int (nI 6)), (17, .int (nI 2)), (16, .int (nI it)), (15, .int (nI ((6 * ci) + cl))), (14, .int (nI cl)), (13, .int (nI 1)), (12, .int (nI ci)), (0, .ref oc), (1, .int (nI act)), (2, .int y), (3, .int x), (4, .ref ((ab 0))), (5, .ref ((ab 1))), (6, .ref ((ab 2))), (7, .ref ((ab 3))), (8, .ref ((ab 4))), (9, .ref ((ab 5))), (10, .ref ((ab 6))), (11, .ref ((ab 7)))]) hx hb dL_drafts_413 hl (by decide) rfl (fun ls hl => ?_)
                      refine lv_iload hx hb dL_drafts_415 (lv_at hl 3 rfl) ?_
                      refine n_if_ne (tgt := 428) hx hb dL_drafts_417 (by decide) (by omega) (fun _ => ?_) (fun h9 => absurd h9 c_23)
                      refine lv_iload hx hb dL_drafts_428 (lv_at hl 3 rfl) ?_
                      refine lv_istore (lv' := [(16, .int (nI it)), (19, .int (nI m1)), (18, .int (nI 6)), (17, .int (nI 2)), (15, .int (nI ((6 * ci) + cl))), (14, .int (nI cl)), (13, .int (nI 1)), (12, .int (nI ci)), (0, .ref oc), (1, .int (nI act)), (2, .int y), (3, .int x), (4, .ref ((ab 0))), (5, .ref ((ab 1))), (6, .ref ((ab 2))), (7, .ref ((ab 3))), (8, .ref ((ab 4))), (9, .ref ((ab 5))), (10, .ref ((ab 6))), (11, .ref ((ab 7)))]) hx hb dL_drafts_430 hl (by decide) rfl (fun ls hl => ?_)
                      refine lv_iload hx hb dL_drafts_432 (lv_at hl 0 rfl) ?_
                      refine lv_iconst (v := nI 3) hx hb dL_drafts_434 (by decide) ?_
                      refine lv_iload hx hb dL_drafts_435 (lv_at hl 2 rfl) ?_
                      refine lv_ishl hx hb dL_drafts_437 ?_
                      refine lv_iconst (v := -1) hx hb dL_drafts_438 (by decide) ?_
                      refine lv_ixor hx hb dL_drafts_439 ?_
                      refine lv_iand hx hb dL_drafts_440 ?_
                      refine lv_iload hx hb dL_drafts_441 (lv_at hl 3 rfl) ?_
                      refine lv_iload hx hb dL_drafts_443 (lv_at hl 2 rfl) ?_
                      refine lv_ishl hx hb dL_drafts_445 ?_
                      refine lv_ior hx hb dL_drafts_446 ?_
                      refine to_i (y := nI (N 2 ci cl + 16 * m0 + 64 * 2)) (bt_1 (v := N 2 ci cl) (m0 := m0) (m1 := m1) (mk := 2) (by omega) (by omega) (by omega) (by omega) (by omega)) ?_
                      refine lv_istore (lv' := [(16, .int (nI (N 2 ci cl + 16 * m0 + 64 * 2))), (19, .int (nI m1)), (18, .int (nI 6)), (17, .int (nI 2)), (15, .int (nI ((6 * ci) + cl))), (14, .int (nI cl)), (13, .int (nI 1)), (12, .int (nI ci)), (0, .ref oc), (1, .int (nI act)), (2, .int y), (3, .int x), (4, .ref ((ab 0))), (5, .ref ((ab 1))), (6, .ref ((ab 2))), (7, .ref ((ab 3))), (8, .ref ((ab 4))), (9, .ref ((ab 5))), (10, .ref ((ab 6))), (11, .ref ((ab 7)))]) hx hb dL_drafts_447 hl (by decide) rfl (fun ls hl => ?_)
                      refine lv_iload hx hb dL_drafts_449 (lv_at hl 0 rfl) ?_
                      refine lv_iconst (v := nI 4) hx hb dL_drafts_451 (by decide) ?_
                      refine lv_ishr hx hb dL_drafts_452 ?_
                      refine to_i (y := nI ((N 2 ci cl + 16 * m0 + 64 * 2) / 16)) (pk_shrN (by omega) _ 4 (by decide)) ?_
                      refine to_i (y := nI (m0 + 4 * 2)) (congrArg nI (by omega)) ?_
                      refine lv_istore (lv' := [(20, .int (nI (m0 + 4 * 2))), (16, .int (nI (N 2 ci cl + 16 * m0 + 64 * 2))), (19, .int (nI m1)), (18, .int (nI 6)), (17, .int (nI 2)), (15, .int (nI ((6 * ci) + cl))), (14, .int (nI cl)), (13, .int (nI 1)), (12, .int (nI ci)), (0, .ref oc), (1, .int (nI act)), (2, .int y), (3, .int x), (4, .ref ((ab 0))), (5, .ref ((ab 1))), (6, .ref ((ab 2))), (7, .ref ((ab 3))), (8, .ref ((ab 4))), (9, .ref ((ab 5))), (10, .ref ((ab 6))), (11, .ref ((ab 7)))]) hx hb dL_drafts_453 hl (by decide) rfl (fun ls hl => ?_)
                      refine lv_iload hx hb dL_drafts_455 (lv_at hl 2 rfl) ?_
                      refine lv_iload hx hb dL_drafts_457 (lv_at hl 4 rfl) ?_
                      refine n_eq (tgt := 468) hx hb dL_drafts_459 (by decide) (by omega) (by omega) (fun c_33 => ?_) (fun c_33 => ?_)
                      · refine lv_aload hx hb dL_drafts_468 (lv_at hl 16 rfl) ?_
                        refine lv_iload hx hb dL_drafts_470 (lv_at hl 5 rfl) ?_
                        refine lv_iload hx hb dL_drafts_472 (lv_at hl 0 rfl) ?_
                        refine lv_bipush (v := nI 10) hx hb dL_drafts_474 (by decide) ?_
                        refine n_eq (tgt := 492) hx hb dL_drafts_476 (by decide) (by omega) (by omega) (fun c_34 => ?_) (fun c_34 => ?_)
                        · refine lv_iconst (v := nI 0) hx hb dL_drafts_492 (by decide) ?_
                          refine lv_goto (tgt := 498) hx hb dL_drafts_493 (by decide) ?_
                          refine x_iast (f := fun j => nI (Y 3 j)) hx hb hK hP hD hS (_ + 3) 0 (app_r rfl) rfl (t := (6 * ci) + cl) (x := nI 0) (by omega) (by decide) dL_drafts_498 (fun H locs hP hD hS => ?_)
                          rw [app_setr, upd_nI] at hP hD
                          have hP : va_P (dC, dI) vwCl (cw cy e0 ad L S N ++ yw ab cy (va_up Y 3 (va_up (Y 3) ((6 * ci) + cl) 0)) t D a b) H := hP
                          have hD : va_D A (cw cy e0 ad L S N ++ yw ab cy (va_up Y 3 (va_up (Y 3) ((6 * ci) + cl) 0)) t D a b) := hD
                          refine lv_aload_n hx hb dL_drafts_499 rfl (lv_at hl 9 rfl) ?_
                          refine lv_iload hx hb dL_drafts_500 (lv_at hl 8 rfl) ?_
                          refine lv_iload hx hb dL_drafts_502 (lv_at hl 7 rfl) ?_
                          refine lv_iload hx hb dL_drafts_504 (lv_at hl 6 rfl) ?_
                          refine lv_iload hx hb dL_drafts_506 (lv_at hl 4 rfl) ?_
                          refine callY_i hP (vx_runSW (As := [.ref oc, .int (nI ci), .int (nI 1), .int (nI cl), .int (nI 2)]) (rest := []) ⟨hx, hb, hml, hown, hts⟩ (qL_mark l dC dI cy e0 mi oc ad L S N H.size (nI ci) (nI 1) (nI cl) (nI 2) hI hX hst hoc) (vx_cwSW 5 hts gL_drafts_L_mark rfl rfl rfl (by decide +kernel) ⟨Nat.le_of_ble_eq_true rfl, Nat.le_of_ble_eq_true rfl⟩) (preLS hK (w_leftP hP) (w_leftD hD) hS hA ham) rfl rfl hl.1 rfl (lv_room (Nat.le_of_ble_eq_true rfl)) dL_drafts_508 ⟨Nat.le_of_ble_eq_true rfl, Nat.le_of_ble_eq_true rfl⟩) hD hS hA (fun rr uc H locs hw hP hD hS => ?_)
                          rw [eci] at hw
                          rw [ecl] at hw
                          rw [ix_nI (show (1 : Nat) < 2 ^ 31 by decide)] at hw
                          rw [if_neg hz] at hw
                          rw [if_neg hz] at hw
                          obtain ⟨er, ad, L, rfl, hI, hX, hoc⟩ := lres_n0 hw ((if_pos (ct_in (by omega) (by omega))).trans ((if_pos ⟨by decide, cl_in (by omega), by decide⟩).trans (if_pos (by rw [eci, ecl]; exact ⟨hdr.mpr c_22, fun q => hz q.1⟩))))
                          have hP : va_P (dC, dI) vwCl (cwT cy e0 (ad, L, K_change S N ci 1 cl (nI 2)) ++ yw ab cy (va_up Y 3 (va_up (Y 3) ((6 * ci) + cl) 0)) t D a b) H := hP
                          have hD : va_D A (cwT cy e0 (ad, L, K_change S N ci 1 cl (nI 2)) ++ yw ab cy (va_up Y 3 (va_up (Y 3) ((6 * ci) + cl) 0)) t D a b) := hD
                          refine to_i (y := nI m1) (er.trans (e5)) ?_
                          refine lv_iload hx hb dL_drafts_511 (lv_at hl 2 rfl) ?_
                          refine lv_icmp_ne (tgt := 520) hx hb dL_drafts_513 (by decide) (fun h9 => absurd rfl h9) (fun _ => ?_)
                          refine lv_iconst (v := nI 1) hx hb dL_drafts_516 (by decide) ?_
                          refine lv_goto (tgt := 521) hx hb dL_drafts_517 (by decide) ?_
                          rw [← hQQ]; exact end_z (u := ((ad, L, K_change S N ci 1 cl (nI 2)), (va_up Y 3 (va_up (Y 3) ((6 * ci) + cl) 0), t, D, a, b))) hx hb hr hlocks dL_drafts_521 hK hP hD hS (by rfl) (by exfalso; omega) (Nat.le_of_ble_eq_true rfl) (Nat.le_of_ble_eq_true rfl)
                        · refine lv_iload hx hb dL_drafts_479 (lv_at hl 0 rfl) ?_
                          refine lv_iconst (v := nI 2) hx hb dL_drafts_481 (by decide) ?_
                          refine n_eq (tgt := 492) hx hb dL_drafts_482 (by decide) (by omega) (by omega) (fun c_35 => ?_) (fun c_35 => ?_)
                          · refine lv_iconst (v := nI 0) hx hb dL_drafts_492 (by decide) ?_
                            refine lv_goto (tgt := 498) hx hb dL_drafts_493 (by decide) ?_
                            refine x_iast (f := fun j => nI (Y 3 j)) hx hb hK hP hD hS (_ + 3) 0 (app_r rfl) rfl (t := (6 * ci) + cl) (x := nI 0) (by omega) (by decide) dL_drafts_498 (fun H locs hP hD hS => ?_)
                            rw [app_setr, upd_nI] at hP hD
                            have hP : va_P (dC, dI) vwCl (cw cy e0 ad L S N ++ yw ab cy (va_up Y 3 (va_up (Y 3) ((6 * ci) + cl) 0)) t D a b) H := hP
                            have hD : va_D A (cw cy e0 ad L S N ++ yw ab cy (va_up Y 3 (va_up (Y 3) ((6 * ci) + cl) 0)) t D a b) := hD
                            refine lv_aload_n hx hb dL_drafts_499 rfl (lv_at hl 9 rfl) ?_
                            refine lv_iload hx hb dL_drafts_500 (lv_at hl 8 rfl) ?_
                            refine lv_iload hx hb dL_drafts_502 (lv_at hl 7 rfl) ?_
                            refine lv_iload hx hb dL_drafts_504 (lv_at hl 6 rfl) ?_
                            refine lv_iload hx hb dL_drafts_506 (lv_at hl 4 rfl) ?_
                            refine callY_i hP (vx_runSW (As := [.ref oc, .int (nI ci), .int (nI 1), .int (nI cl), .int (nI 2)]) (rest := []) ⟨hx, hb, hml, hown, hts⟩ (qL_mark l dC dI cy e0 mi oc ad L S N H.size (nI ci) (nI 1) (nI cl) (nI 2) hI hX hst hoc) (vx_cwSW 5 hts gL_drafts_L_mark rfl rfl rfl (by decide +kernel) ⟨Nat.le_of_ble_eq_true rfl, Nat.le_of_ble_eq_true rfl⟩) (preLS hK (w_leftP hP) (w_leftD hD) hS hA ham) rfl rfl hl.1 rfl (lv_room (Nat.le_of_ble_eq_true rfl)) dL_drafts_508 ⟨Nat.le_of_ble_eq_true rfl, Nat.le_of_ble_eq_true rfl⟩) hD hS hA (fun rr uc H locs hw hP hD hS => ?_)
                            rw [eci] at hw
                            rw [ecl] at hw
                            rw [ix_nI (show (1 : Nat) < 2 ^ 31 by decide)] at hw
                            rw [if_neg hz] at hw
                            rw [if_neg hz] at hw
                            obtain ⟨er, ad, L, rfl, hI, hX, hoc⟩ := lres_n0 hw ((if_pos (ct_in (by omega) (by omega))).trans ((if_pos ⟨by decide, cl_in (by omega), by decide⟩).trans (if_pos (by rw [eci, ecl]; exact ⟨hdr.mpr c_22, fun q => hz q.1⟩))))
                            have hP : va_P (dC, dI) vwCl (cwT cy e0 (ad, L, K_change S N ci 1 cl (nI 2)) ++ yw ab cy (va_up Y 3 (va_up (Y 3) ((6 * ci) + cl) 0)) t D a b) H := hP
                            have hD : va_D A (cwT cy e0 (ad, L, K_change S N ci 1 cl (nI 2)) ++ yw ab cy (va_up Y 3 (va_up (Y 3) ((6 * ci) + cl) 0)) t D a b) := hD
                            refine to_i (y := nI m1) (er.trans (e5)) ?_
                            refine lv_iload hx hb dL_drafts_511 (lv_at hl 2 rfl) ?_
                            refine lv_icmp_ne (tgt := 520) hx hb dL_drafts_513 (by decide) (fun h9 => absurd rfl h9) (fun _ => ?_)
                            refine lv_iconst (v := nI 1) hx hb dL_drafts_516 (by decide) ?_
                            refine lv_goto (tgt := 521) hx hb dL_drafts_517 (by decide) ?_
                            rw [← hQQ]; exact end_z (u := ((ad, L, K_change S N ci 1 cl (nI 2)), (va_up Y 3 (va_up (Y 3) ((6 * ci) + cl) 0), t, D, a, b))) hx hb hr hlocks dL_drafts_521 hK hP hD hS (by rfl) (by exfalso; omega) (Nat.le_of_ble_eq_true rfl) (Nat.le_of_ble_eq_true rfl)
                          · refine lv_iload hx hb dL_drafts_485 (lv_at hl 0 rfl) ?_
                            refine lv_bipush (v := nI 8) hx hb dL_drafts_487 (by decide) ?_
                            refine n_ne (tgt := 496) hx hb dL_drafts_489 (by decide) (by omega) (by omega) (fun c_36 => ?_) (fun c_36 => ?_)
                            · refine lv_iload hx hb dL_drafts_496 (lv_at hl 1 rfl) ?_
                              refine x_iast (f := fun j => nI (Y 3 j)) hx hb hK hP hD hS (_ + 3) 0 (app_r rfl) rfl (t := (6 * ci) + cl) (x := nI (N 2 ci cl + 16 * m0 + 64 * 2)) (by omega) (by decide) dL_drafts_498 (fun H locs hP hD hS => ?_)
                              rw [app_setr, upd_nI] at hP hD
                              have hP : va_P (dC, dI) vwCl (cw cy e0 ad L S N ++ yw ab cy (va_up Y 3 (va_up (Y 3) ((6 * ci) + cl) (N 2 ci cl + 16 * m0 + 64 * 2))) t D a b) H := hP
                              have hD : va_D A (cw cy e0 ad L S N ++ yw ab cy (va_up Y 3 (va_up (Y 3) ((6 * ci) + cl) (N 2 ci cl + 16 * m0 + 64 * 2))) t D a b) := hD
                              refine lv_aload_n hx hb dL_drafts_499 rfl (lv_at hl 9 rfl) ?_
                              refine lv_iload hx hb dL_drafts_500 (lv_at hl 8 rfl) ?_
                              refine lv_iload hx hb dL_drafts_502 (lv_at hl 7 rfl) ?_
                              refine lv_iload hx hb dL_drafts_504 (lv_at hl 6 rfl) ?_
                              refine lv_iload hx hb dL_drafts_506 (lv_at hl 4 rfl) ?_
                              refine callY_i hP (vx_runSW (As := [.ref oc, .int (nI ci), .int (nI 1), .int (nI cl), .int (nI 2)]) (rest := []) ⟨hx, hb, hml, hown, hts⟩ (qL_mark l dC dI cy e0 mi oc ad L S N H.size (nI ci) (nI 1) (nI cl) (nI 2) hI hX hst hoc) (vx_cwSW 5 hts gL_drafts_L_mark rfl rfl rfl (by decide +kernel) ⟨Nat.le_of_ble_eq_true rfl, Nat.le_of_ble_eq_true rfl⟩) (preLS hK (w_leftP hP) (w_leftD hD) hS hA ham) rfl rfl hl.1 rfl (lv_room (Nat.le_of_ble_eq_true rfl)) dL_drafts_508 ⟨Nat.le_of_ble_eq_true rfl, Nat.le_of_ble_eq_true rfl⟩) hD hS hA (fun rr uc H locs hw hP hD hS => ?_)
                              rw [eci] at hw
                              rw [ecl] at hw
                              rw [ix_nI (show (1 : Nat) < 2 ^ 31 by decide)] at hw
                              rw [if_neg hz] at hw
                              rw [if_neg hz] at hw
                              obtain ⟨er, ad, L, rfl, hI, hX, hoc⟩ := lres_n0 hw ((if_pos (ct_in (by omega) (by omega))).trans ((if_pos ⟨by decide, cl_in (by omega), by decide⟩).trans (if_pos (by rw [eci, ecl]; exact ⟨hdr.mpr c_22, fun q => hz q.1⟩))))
                              have hP : va_P (dC, dI) vwCl (cwT cy e0 (ad, L, K_change S N ci 1 cl (nI 2)) ++ yw ab cy (va_up Y 3 (va_up (Y 3) ((6 * ci) + cl) (N 2 ci cl + 16 * m0 + 64 * 2))) t D a b) H := hP
                              have hD : va_D A (cwT cy e0 (ad, L, K_change S N ci 1 cl (nI 2)) ++ yw ab cy (va_up Y 3 (va_up (Y 3) ((6 * ci) + cl) (N 2 ci cl + 16 * m0 + 64 * 2))) t D a b) := hD
                              refine to_i (y := nI m1) (er.trans (e5)) ?_
                              refine lv_iload hx hb dL_drafts_511 (lv_at hl 2 rfl) ?_
                              refine lv_icmp_ne (tgt := 520) hx hb dL_drafts_513 (by decide) (fun h9 => absurd rfl h9) (fun _ => ?_)
                              refine lv_iconst (v := nI 1) hx hb dL_drafts_516 (by decide) ?_
                              refine lv_goto (tgt := 521) hx hb dL_drafts_517 (by decide) ?_
                              have eKC : K_change S N ci 1 cl (nI 2) = (S, N) := if_pos (e5.trans (congrArg nI (by omega)))
                              have eYY := Y_id (show N 2 ci cl + 16 * m0 + 64 * 2 = Y 3 (6 * ci + cl) by omega)
                              rw [← hQQ]; exact end_z (u := ((ad, L, K_change S N ci 1 cl (nI 2)), (va_up Y 3 (va_up (Y 3) ((6 * ci) + cl) (N 2 ci cl + 16 * m0 + 64 * 2)), t, D, a, b))) hx hb hr hlocks dL_drafts_521 hK hP hD hS (by rfl) ⟨rfl, ⟨hI, hX⟩, hoc, (by show RZ (K_change S N ci 1 cl (nI 2)).1 (K_change S N ci 1 cl (nI 2)).2 _ _ _ _ _; rw [eKC, eYY]; exact hR)⟩ (Nat.le_of_ble_eq_true rfl) (Nat.le_of_ble_eq_true rfl)
                            · refine lv_iconst (v := nI 0) hx hb dL_drafts_492 (by decide) ?_
                              refine lv_goto (tgt := 498) hx hb dL_drafts_493 (by decide) ?_
                              refine x_iast (f := fun j => nI (Y 3 j)) hx hb hK hP hD hS (_ + 3) 0 (app_r rfl) rfl (t := (6 * ci) + cl) (x := nI 0) (by omega) (by decide) dL_drafts_498 (fun H locs hP hD hS => ?_)
                              rw [app_setr, upd_nI] at hP hD
                              have hP : va_P (dC, dI) vwCl (cw cy e0 ad L S N ++ yw ab cy (va_up Y 3 (va_up (Y 3) ((6 * ci) + cl) 0)) t D a b) H := hP
                              have hD : va_D A (cw cy e0 ad L S N ++ yw ab cy (va_up Y 3 (va_up (Y 3) ((6 * ci) + cl) 0)) t D a b) := hD
                              refine lv_aload_n hx hb dL_drafts_499 rfl (lv_at hl 9 rfl) ?_
                              refine lv_iload hx hb dL_drafts_500 (lv_at hl 8 rfl) ?_
                              refine lv_iload hx hb dL_drafts_502 (lv_at hl 7 rfl) ?_
                              refine lv_iload hx hb dL_drafts_504 (lv_at hl 6 rfl) ?_
                              refine lv_iload hx hb dL_drafts_506 (lv_at hl 4 rfl) ?_
                              refine callY_i hP (vx_runSW (As := [.ref oc, .int (nI ci), .int (nI 1), .int (nI cl), .int (nI 2)]) (rest := []) ⟨hx, hb, hml, hown, hts⟩ (qL_mark l dC dI cy e0 mi oc ad L S N H.size (nI ci) (nI 1) (nI cl) (nI 2) hI hX hst hoc) (vx_cwSW 5 hts gL_drafts_L_mark rfl rfl rfl (by decide +kernel) ⟨Nat.le_of_ble_eq_true rfl, Nat.le_of_ble_eq_true rfl⟩) (preLS hK (w_leftP hP) (w_leftD hD) hS hA ham) rfl rfl hl.1 rfl (lv_room (Nat.le_of_ble_eq_true rfl)) dL_drafts_508 ⟨Nat.le_of_ble_eq_true rfl, Nat.le_of_ble_eq_true rfl⟩) hD hS hA (fun rr uc H locs hw hP hD hS => ?_)
                              rw [eci] at hw
                              rw [ecl] at hw
                              rw [ix_nI (show (1 : Nat) < 2 ^ 31 by decide)] at hw
                              rw [if_neg hz] at hw
                              rw [if_neg hz] at hw
                              obtain ⟨er, ad, L, rfl, hI, hX, hoc⟩ := lres_n0 hw ((if_pos (ct_in (by omega) (by omega))).trans ((if_pos ⟨by decide, cl_in (by omega), by decide⟩).trans (if_pos (by rw [eci, ecl]; exact ⟨hdr.mpr c_22, fun q => hz q.1⟩))))
                              have hP : va_P (dC, dI) vwCl (cwT cy e0 (ad, L, K_change S N ci 1 cl (nI 2)) ++ yw ab cy (va_up Y 3 (va_up (Y 3) ((6 * ci) + cl) 0)) t D a b) H := hP
                              have hD : va_D A (cwT cy e0 (ad, L, K_change S N ci 1 cl (nI 2)) ++ yw ab cy (va_up Y 3 (va_up (Y 3) ((6 * ci) + cl) 0)) t D a b) := hD
                              refine to_i (y := nI m1) (er.trans (e5)) ?_
                              refine lv_iload hx hb dL_drafts_511 (lv_at hl 2 rfl) ?_
                              refine lv_icmp_ne (tgt := 520) hx hb dL_drafts_513 (by decide) (fun h9 => absurd rfl h9) (fun _ => ?_)
                              refine lv_iconst (v := nI 1) hx hb dL_drafts_516 (by decide) ?_
                              refine lv_goto (tgt := 521) hx hb dL_drafts_517 (by decide) ?_
                              rw [← hQQ]; exact end_z (u := ((ad, L, K_change S N ci 1 cl (nI 2)), (va_up Y 3 (va_up (Y 3) ((6 * ci) + cl) 0), t, D, a, b))) hx hb hr hlocks dL_drafts_521 hK hP hD hS (by rfl) (by exfalso; omega) (Nat.le_of_ble_eq_true rfl) (Nat.le_of_ble_eq_true rfl)
                      · refine lv_aload hx hb dL_drafts_462 (lv_at hl 17 rfl) ?_
                        refine lv_iload hx hb dL_drafts_464 (lv_at hl 8 rfl) ?_
                        refine lv_iconst (v := nI 0) hx hb dL_drafts_466 (by decide) ?_
                        refine x_iast (f := fun j => nI (Y 4 j)) hx hb hK hP hD hS (_ + 4) 0 (app_r rfl) rfl (t := ci) (x := nI 0) (by omega) (by decide) dL_drafts_467 (fun H locs hP hD hS => ?_)
                        rw [app_setr, upd_nI] at hP hD
                        have hP : va_P (dC, dI) vwCl (cw cy e0 ad L S N ++ yw ab cy (va_up Y 4 (va_up (Y 4) ci 0)) t D a b) H := hP
                        have hD : va_D A (cw cy e0 ad L S N ++ yw ab cy (va_up Y 4 (va_up (Y 4) ci 0)) t D a b) := hD
                        refine lv_aload hx hb dL_drafts_468 (lv_at hl 16 rfl) ?_
                        refine lv_iload hx hb dL_drafts_470 (lv_at hl 5 rfl) ?_
                        refine lv_iload hx hb dL_drafts_472 (lv_at hl 0 rfl) ?_
                        refine lv_bipush (v := nI 10) hx hb dL_drafts_474 (by decide) ?_
                        refine n_eq (tgt := 492) hx hb dL_drafts_476 (by decide) (by omega) (by omega) (fun c_37 => ?_) (fun c_37 => ?_)
                        · refine lv_iconst (v := nI 0) hx hb dL_drafts_492 (by decide) ?_
                          refine lv_goto (tgt := 498) hx hb dL_drafts_493 (by decide) ?_
                          refine x_iast (f := fun j => nI ((va_up Y 4 (va_up (Y 4) ci 0)) 3 j)) hx hb hK hP hD hS (_ + 3) 0 (app_r rfl) rfl (t := (6 * ci) + cl) (x := nI 0) (by omega) (by decide) dL_drafts_498 (fun H locs hP hD hS => ?_)
                          rw [app_setr, upd_nI] at hP hD
                          have hP : va_P (dC, dI) vwCl (cw cy e0 ad L S N ++ yw ab cy (va_up (va_up Y 4 (va_up (Y 4) ci 0)) 3 (va_up ((va_up Y 4 (va_up (Y 4) ci 0)) 3) ((6 * ci) + cl) 0)) t D a b) H := hP
                          have hD : va_D A (cw cy e0 ad L S N ++ yw ab cy (va_up (va_up Y 4 (va_up (Y 4) ci 0)) 3 (va_up ((va_up Y 4 (va_up (Y 4) ci 0)) 3) ((6 * ci) + cl) 0)) t D a b) := hD
                          refine lv_aload_n hx hb dL_drafts_499 rfl (lv_at hl 9 rfl) ?_
                          refine lv_iload hx hb dL_drafts_500 (lv_at hl 8 rfl) ?_
                          refine lv_iload hx hb dL_drafts_502 (lv_at hl 7 rfl) ?_
                          refine lv_iload hx hb dL_drafts_504 (lv_at hl 6 rfl) ?_
                          refine lv_iload hx hb dL_drafts_506 (lv_at hl 4 rfl) ?_
                          refine callY_i hP (vx_runSW (As := [.ref oc, .int (nI ci), .int (nI 1), .int (nI cl), .int (nI 2)]) (rest := []) ⟨hx, hb, hml, hown, hts⟩ (qL_mark l dC dI cy e0 mi oc ad L S N H.size (nI ci) (nI 1) (nI cl) (nI 2) hI hX hst hoc) (vx_cwSW 5 hts gL_drafts_L_mark rfl rfl rfl (by decide +kernel) ⟨Nat.le_of_ble_eq_true rfl, Nat.le_of_ble_eq_true rfl⟩) (preLS hK (w_leftP hP) (w_leftD hD) hS hA ham) rfl rfl hl.1 rfl (lv_room (Nat.le_of_ble_eq_true rfl)) dL_drafts_508 ⟨Nat.le_of_ble_eq_true rfl, Nat.le_of_ble_eq_true rfl⟩) hD hS hA (fun rr uc H locs hw hP hD hS => ?_)
                          rw [eci] at hw
                          rw [ecl] at hw
                          rw [ix_nI (show (1 : Nat) < 2 ^ 31 by decide)] at hw
                          rw [if_neg hz] at hw
                          rw [if_neg hz] at hw
                          obtain ⟨er, ad, L, rfl, hI, hX, hoc⟩ := lres_n0 hw ((if_pos (ct_in (by omega) (by omega))).trans ((if_pos ⟨by decide, cl_in (by omega), by decide⟩).trans (if_pos (by rw [eci, ecl]; exact ⟨hdr.mpr c_22, fun q => hz q.1⟩))))
                          have hP : va_P (dC, dI) vwCl (cwT cy e0 (ad, L, K_change S N ci 1 cl (nI 2)) ++ yw ab cy (va_up (va_up Y 4 (va_up (Y 4) ci 0)) 3 (va_up ((va_up Y 4 (va_up (Y 4) ci 0)) 3) ((6 * ci) + cl) 0)) t D a b) H := hP
                          have hD : va_D A (cwT cy e0 (ad, L, K_change S N ci 1 cl (nI 2)) ++ yw ab cy (va_up (va_up Y 4 (va_up (Y 4) ci 0)) 3 (va_up ((va_up Y 4 (va_up (Y 4) ci 0)) 3) ((6 * ci) + cl) 0)) t D a b) := hD
                          refine to_i (y := nI m1) (er.trans (e5)) ?_
                          refine lv_iload hx hb dL_drafts_511 (lv_at hl 2 rfl) ?_
                          refine lv_icmp_ne (tgt := 520) hx hb dL_drafts_513 (by decide) (fun h9 => absurd rfl h9) (fun _ => ?_)
                          refine lv_iconst (v := nI 1) hx hb dL_drafts_516 (by decide) ?_
                          refine lv_goto (tgt := 521) hx hb dL_drafts_517 (by decide) ?_
                          obtain ⟨p1, p2, p3, p4, p5⟩ := yz1 Y ci (6 * ci + cl) 0
                          rw [← hQQ]; exact end_z (u := ((ad, L, K_change S N ci 1 cl (nI 2)), (va_up (va_up Y 4 (va_up (Y 4) ci 0)) 3 (va_up ((va_up Y 4 (va_up (Y 4) ci 0)) 3) ((6 * ci) + cl) 0), t, D, a, b))) hx hb hr hlocks dL_drafts_521 hK hP hD hS (by rfl) ⟨rfl, ⟨hI, hX⟩, hoc, (by show RZ (K_change S N ci 1 cl (nI 2)).1 (K_change S N ci 1 cl (nI 2)).2 _ _ _ _ _; exact rz_change (sd := 1) (mk := 2) (m0 := m0) (m1 := 2) hR (by omega) (by omega) hcl6 (hdr.mpr c_22) (by decide) hz (by decide) (fun q => c_33 ((nI_inj (by omega) (by decide)).mp (e5.symm.trans q))) (by rw [if_neg (by decide), e4, ix_nI (by omega)]) (by rw [if_neg (by decide)]) p1 p2 (p3.trans (by rw [if_neg (by omega)])) p4 p5 (zY_up (zY_up hYb _ _ (by decide)) _ _ (by omega)))⟩ (Nat.le_of_ble_eq_true rfl) (Nat.le_of_ble_eq_true rfl)
                        · refine lv_iload hx hb dL_drafts_479 (lv_at hl 0 rfl) ?_
                          refine lv_iconst (v := nI 2) hx hb dL_drafts_481 (by decide) ?_
                          refine n_eq (tgt := 492) hx hb dL_drafts_482 (by decide) (by omega) (by omega) (fun c_38 => ?_) (fun c_38 => ?_)
                          · refine lv_iconst (v := nI 0) hx hb dL_drafts_492 (by decide) ?_
                            refine lv_goto (tgt := 498) hx hb dL_drafts_493 (by decide) ?_
                            refine x_iast (f := fun j => nI ((va_up Y 4 (va_up (Y 4) ci 0)) 3 j)) hx hb hK hP hD hS (_ + 3) 0 (app_r rfl) rfl (t := (6 * ci) + cl) (x := nI 0) (by omega) (by decide) dL_drafts_498 (fun H locs hP hD hS => ?_)
                            rw [app_setr, upd_nI] at hP hD
                            have hP : va_P (dC, dI) vwCl (cw cy e0 ad L S N ++ yw ab cy (va_up (va_up Y 4 (va_up (Y 4) ci 0)) 3 (va_up ((va_up Y 4 (va_up (Y 4) ci 0)) 3) ((6 * ci) + cl) 0)) t D a b) H := hP
                            have hD : va_D A (cw cy e0 ad L S N ++ yw ab cy (va_up (va_up Y 4 (va_up (Y 4) ci 0)) 3 (va_up ((va_up Y 4 (va_up (Y 4) ci 0)) 3) ((6 * ci) + cl) 0)) t D a b) := hD
                            refine lv_aload_n hx hb dL_drafts_499 rfl (lv_at hl 9 rfl) ?_
                            refine lv_iload hx hb dL_drafts_500 (lv_at hl 8 rfl) ?_
                            refine lv_iload hx hb dL_drafts_502 (lv_at hl 7 rfl) ?_
                            refine lv_iload hx hb dL_drafts_504 (lv_at hl 6 rfl) ?_
                            refine lv_iload hx hb dL_drafts_506 (lv_at hl 4 rfl) ?_
                            refine callY_i hP (vx_runSW (As := [.ref oc, .int (nI ci), .int (nI 1), .int (nI cl), .int (nI 2)]) (rest := []) ⟨hx, hb, hml, hown, hts⟩ (qL_mark l dC dI cy e0 mi oc ad L S N H.size (nI ci) (nI 1) (nI cl) (nI 2) hI hX hst hoc) (vx_cwSW 5 hts gL_drafts_L_mark rfl rfl rfl (by decide +kernel) ⟨Nat.le_of_ble_eq_true rfl, Nat.le_of_ble_eq_true rfl⟩) (preLS hK (w_leftP hP) (w_leftD hD) hS hA ham) rfl rfl hl.1 rfl (lv_room (Nat.le_of_ble_eq_true rfl)) dL_drafts_508 ⟨Nat.le_of_ble_eq_true rfl, Nat.le_of_ble_eq_true rfl⟩) hD hS hA (fun rr uc H locs hw hP hD hS => ?_)
                            rw [eci] at hw
                            rw [ecl] at hw
                            rw [ix_nI (show (1 : Nat) < 2 ^ 31 by decide)] at hw
                            rw [if_neg hz] at hw
                            rw [if_neg hz] at hw
                            obtain ⟨er, ad, L, rfl, hI, hX, hoc⟩ := lres_n0 hw ((if_pos (ct_in (by omega) (by omega))).trans ((if_pos ⟨by decide, cl_in (by omega), by decide⟩).trans (if_pos (by rw [eci, ecl]; exact ⟨hdr.mpr c_22, fun q => hz q.1⟩))))
                            have hP : va_P (dC, dI) vwCl (cwT cy e0 (ad, L, K_change S N ci 1 cl (nI 2)) ++ yw ab cy (va_up (va_up Y 4 (va_up (Y 4) ci 0)) 3 (va_up ((va_up Y 4 (va_up (Y 4) ci 0)) 3) ((6 * ci) + cl) 0)) t D a b) H := hP
                            have hD : va_D A (cwT cy e0 (ad, L, K_change S N ci 1 cl (nI 2)) ++ yw ab cy (va_up (va_up Y 4 (va_up (Y 4) ci 0)) 3 (va_up ((va_up Y 4 (va_up (Y 4) ci 0)) 3) ((6 * ci) + cl) 0)) t D a b) := hD
                            refine to_i (y := nI m1) (er.trans (e5)) ?_
                            refine lv_iload hx hb dL_drafts_511 (lv_at hl 2 rfl) ?_
                            refine lv_icmp_ne (tgt := 520) hx hb dL_drafts_513 (by decide) (fun h9 => absurd rfl h9) (fun _ => ?_)
                            refine lv_iconst (v := nI 1) hx hb dL_drafts_516 (by decide) ?_
                            refine lv_goto (tgt := 521) hx hb dL_drafts_517 (by decide) ?_
                            obtain ⟨p1, p2, p3, p4, p5⟩ := yz1 Y ci (6 * ci + cl) 0
                            rw [← hQQ]; exact end_z (u := ((ad, L, K_change S N ci 1 cl (nI 2)), (va_up (va_up Y 4 (va_up (Y 4) ci 0)) 3 (va_up ((va_up Y 4 (va_up (Y 4) ci 0)) 3) ((6 * ci) + cl) 0), t, D, a, b))) hx hb hr hlocks dL_drafts_521 hK hP hD hS (by rfl) ⟨rfl, ⟨hI, hX⟩, hoc, (by show RZ (K_change S N ci 1 cl (nI 2)).1 (K_change S N ci 1 cl (nI 2)).2 _ _ _ _ _; exact rz_change (sd := 1) (mk := 2) (m0 := m0) (m1 := 2) hR (by omega) (by omega) hcl6 (hdr.mpr c_22) (by decide) hz (by decide) (fun q => c_33 ((nI_inj (by omega) (by decide)).mp (e5.symm.trans q))) (by rw [if_neg (by decide), e4, ix_nI (by omega)]) (by rw [if_neg (by decide)]) p1 p2 (p3.trans (by rw [if_neg (by omega)])) p4 p5 (zY_up (zY_up hYb _ _ (by decide)) _ _ (by omega)))⟩ (Nat.le_of_ble_eq_true rfl) (Nat.le_of_ble_eq_true rfl)
                          · refine lv_iload hx hb dL_drafts_485 (lv_at hl 0 rfl) ?_
                            refine lv_bipush (v := nI 8) hx hb dL_drafts_487 (by decide) ?_
                            refine n_ne (tgt := 496) hx hb dL_drafts_489 (by decide) (by omega) (by omega) (fun c_39 => ?_) (fun c_39 => ?_)
                            · refine lv_iload hx hb dL_drafts_496 (lv_at hl 1 rfl) ?_
                              refine x_iast (f := fun j => nI ((va_up Y 4 (va_up (Y 4) ci 0)) 3 j)) hx hb hK hP hD hS (_ + 3) 0 (app_r rfl) rfl (t := (6 * ci) + cl) (x := nI (N 2 ci cl + 16 * m0 + 64 * 2)) (by omega) (by decide) dL_drafts_498 (fun H locs hP hD hS => ?_)
                              rw [app_setr, upd_nI] at hP hD
                              have hP : va_P (dC, dI) vwCl (cw cy e0 ad L S N ++ yw ab cy (va_up (va_up Y 4 (va_up (Y 4) ci 0)) 3 (va_up ((va_up Y 4 (va_up (Y 4) ci 0)) 3) ((6 * ci) + cl) (N 2 ci cl + 16 * m0 + 64 * 2))) t D a b) H := hP
                              have hD : va_D A (cw cy e0 ad L S N ++ yw ab cy (va_up (va_up Y 4 (va_up (Y 4) ci 0)) 3 (va_up ((va_up Y 4 (va_up (Y 4) ci 0)) 3) ((6 * ci) + cl) (N 2 ci cl + 16 * m0 + 64 * 2))) t D a b) := hD
                              refine lv_aload_n hx hb dL_drafts_499 rfl (lv_at hl 9 rfl) ?_
                              refine lv_iload hx hb dL_drafts_500 (lv_at hl 8 rfl) ?_
                              refine lv_iload hx hb dL_drafts_502 (lv_at hl 7 rfl) ?_
                              refine lv_iload hx hb dL_drafts_504 (lv_at hl 6 rfl) ?_
                              refine lv_iload hx hb dL_drafts_506 (lv_at hl 4 rfl) ?_
                              refine callY_i hP (vx_runSW (As := [.ref oc, .int (nI ci), .int (nI 1), .int (nI cl), .int (nI 2)]) (rest := []) ⟨hx, hb, hml, hown, hts⟩ (qL_mark l dC dI cy e0 mi oc ad L S N H.size (nI ci) (nI 1) (nI cl) (nI 2) hI hX hst hoc) (vx_cwSW 5 hts gL_drafts_L_mark rfl rfl rfl (by decide +kernel) ⟨Nat.le_of_ble_eq_true rfl, Nat.le_of_ble_eq_true rfl⟩) (preLS hK (w_leftP hP) (w_leftD hD) hS hA ham) rfl rfl hl.1 rfl (lv_room (Nat.le_of_ble_eq_true rfl)) dL_drafts_508 ⟨Nat.le_of_ble_eq_true rfl, Nat.le_of_ble_eq_true rfl⟩) hD hS hA (fun rr uc H locs hw hP hD hS => ?_)
                              rw [eci] at hw
                              rw [ecl] at hw
                              rw [ix_nI (show (1 : Nat) < 2 ^ 31 by decide)] at hw
                              rw [if_neg hz] at hw
                              rw [if_neg hz] at hw
                              obtain ⟨er, ad, L, rfl, hI, hX, hoc⟩ := lres_n0 hw ((if_pos (ct_in (by omega) (by omega))).trans ((if_pos ⟨by decide, cl_in (by omega), by decide⟩).trans (if_pos (by rw [eci, ecl]; exact ⟨hdr.mpr c_22, fun q => hz q.1⟩))))
                              have hP : va_P (dC, dI) vwCl (cwT cy e0 (ad, L, K_change S N ci 1 cl (nI 2)) ++ yw ab cy (va_up (va_up Y 4 (va_up (Y 4) ci 0)) 3 (va_up ((va_up Y 4 (va_up (Y 4) ci 0)) 3) ((6 * ci) + cl) (N 2 ci cl + 16 * m0 + 64 * 2))) t D a b) H := hP
                              have hD : va_D A (cwT cy e0 (ad, L, K_change S N ci 1 cl (nI 2)) ++ yw ab cy (va_up (va_up Y 4 (va_up (Y 4) ci 0)) 3 (va_up ((va_up Y 4 (va_up (Y 4) ci 0)) 3) ((6 * ci) + cl) (N 2 ci cl + 16 * m0 + 64 * 2))) t D a b) := hD
                              refine to_i (y := nI m1) (er.trans (e5)) ?_
                              refine lv_iload hx hb dL_drafts_511 (lv_at hl 2 rfl) ?_
                              refine lv_icmp_ne (tgt := 520) hx hb dL_drafts_513 (by decide) (fun h9 => absurd rfl h9) (fun _ => ?_)
                              refine lv_iconst (v := nI 1) hx hb dL_drafts_516 (by decide) ?_
                              refine lv_goto (tgt := 521) hx hb dL_drafts_517 (by decide) ?_
                              obtain ⟨p1, p2, p3, p4, p5⟩ := yz1 Y ci (6 * ci + cl) (N 2 ci cl + 16 * m0 + 64 * 2)
                              rw [← hQQ]; exact end_z (u := ((ad, L, K_change S N ci 1 cl (nI 2)), (va_up (va_up Y 4 (va_up (Y 4) ci 0)) 3 (va_up ((va_up Y 4 (va_up (Y 4) ci 0)) 3) ((6 * ci) + cl) (N 2 ci cl + 16 * m0 + 64 * 2)), t, D, a, b))) hx hb hr hlocks dL_drafts_521 hK hP hD hS (by rfl) ⟨rfl, ⟨hI, hX⟩, hoc, (by show RZ (K_change S N ci 1 cl (nI 2)).1 (K_change S N ci 1 cl (nI 2)).2 _ _ _ _ _; exact rz_change (sd := 1) (mk := 2) (m0 := m0) (m1 := 2) hR (by omega) (by omega) hcl6 (hdr.mpr c_22) (by decide) hz (by decide) (fun q => c_33 ((nI_inj (by omega) (by decide)).mp (e5.symm.trans q))) (by rw [if_neg (by decide), e4, ix_nI (by omega)]) (by rw [if_neg (by decide)]) p1 p2 (p3.trans (by rw [if_pos (by omega)])) p4 p5 (zY_up (zY_up hYb _ _ (by decide)) _ _ (by omega)))⟩ (Nat.le_of_ble_eq_true rfl) (Nat.le_of_ble_eq_true rfl)
                            · refine lv_iconst (v := nI 0) hx hb dL_drafts_492 (by decide) ?_
                              refine lv_goto (tgt := 498) hx hb dL_drafts_493 (by decide) ?_
                              refine x_iast (f := fun j => nI ((va_up Y 4 (va_up (Y 4) ci 0)) 3 j)) hx hb hK hP hD hS (_ + 3) 0 (app_r rfl) rfl (t := (6 * ci) + cl) (x := nI 0) (by omega) (by decide) dL_drafts_498 (fun H locs hP hD hS => ?_)
                              rw [app_setr, upd_nI] at hP hD
                              have hP : va_P (dC, dI) vwCl (cw cy e0 ad L S N ++ yw ab cy (va_up (va_up Y 4 (va_up (Y 4) ci 0)) 3 (va_up ((va_up Y 4 (va_up (Y 4) ci 0)) 3) ((6 * ci) + cl) 0)) t D a b) H := hP
                              have hD : va_D A (cw cy e0 ad L S N ++ yw ab cy (va_up (va_up Y 4 (va_up (Y 4) ci 0)) 3 (va_up ((va_up Y 4 (va_up (Y 4) ci 0)) 3) ((6 * ci) + cl) 0)) t D a b) := hD
                              refine lv_aload_n hx hb dL_drafts_499 rfl (lv_at hl 9 rfl) ?_
                              refine lv_iload hx hb dL_drafts_500 (lv_at hl 8 rfl) ?_
                              refine lv_iload hx hb dL_drafts_502 (lv_at hl 7 rfl) ?_
                              refine lv_iload hx hb dL_drafts_504 (lv_at hl 6 rfl) ?_
                              refine lv_iload hx hb dL_drafts_506 (lv_at hl 4 rfl) ?_
                              refine callY_i hP (vx_runSW (As := [.ref oc, .int (nI ci), .int (nI 1), .int (nI cl), .int (nI 2)]) (rest := []) ⟨hx, hb, hml, hown, hts⟩ (qL_mark l dC dI cy e0 mi oc ad L S N H.size (nI ci) (nI 1) (nI cl) (nI 2) hI hX hst hoc) (vx_cwSW 5 hts gL_drafts_L_mark rfl rfl rfl (by decide +kernel) ⟨Nat.le_of_ble_eq_true rfl, Nat.le_of_ble_eq_true rfl⟩) (preLS hK (w_leftP hP) (w_leftD hD) hS hA ham) rfl rfl hl.1 rfl (lv_room (Nat.le_of_ble_eq_true rfl)) dL_drafts_508 ⟨Nat.le_of_ble_eq_true rfl, Nat.le_of_ble_eq_true rfl⟩) hD hS hA (fun rr uc H locs hw hP hD hS => ?_)
                              rw [eci] at hw
                              rw [ecl] at hw
                              rw [ix_nI (show (1 : Nat) < 2 ^ 31 by decide)] at hw
                              rw [if_neg hz] at hw
                              rw [if_neg hz] at hw
                              obtain ⟨er, ad, L, rfl, hI, hX, hoc⟩ := lres_n0 hw ((if_pos (ct_in (by omega) (by omega))).trans ((if_pos ⟨by decide, cl_in (by omega), by decide⟩).trans (if_pos (by rw [eci, ecl]; exact ⟨hdr.mpr c_22, fun q => hz q.1⟩))))
                              have hP : va_P (dC, dI) vwCl (cwT cy e0 (ad, L, K_change S N ci 1 cl (nI 2)) ++ yw ab cy (va_up (va_up Y 4 (va_up (Y 4) ci 0)) 3 (va_up ((va_up Y 4 (va_up (Y 4) ci 0)) 3) ((6 * ci) + cl) 0)) t D a b) H := hP
                              have hD : va_D A (cwT cy e0 (ad, L, K_change S N ci 1 cl (nI 2)) ++ yw ab cy (va_up (va_up Y 4 (va_up (Y 4) ci 0)) 3 (va_up ((va_up Y 4 (va_up (Y 4) ci 0)) 3) ((6 * ci) + cl) 0)) t D a b) := hD
                              refine to_i (y := nI m1) (er.trans (e5)) ?_
                              refine lv_iload hx hb dL_drafts_511 (lv_at hl 2 rfl) ?_
                              refine lv_icmp_ne (tgt := 520) hx hb dL_drafts_513 (by decide) (fun h9 => absurd rfl h9) (fun _ => ?_)
                              refine lv_iconst (v := nI 1) hx hb dL_drafts_516 (by decide) ?_
                              refine lv_goto (tgt := 521) hx hb dL_drafts_517 (by decide) ?_
                              obtain ⟨p1, p2, p3, p4, p5⟩ := yz1 Y ci (6 * ci + cl) 0
                              rw [← hQQ]; exact end_z (u := ((ad, L, K_change S N ci 1 cl (nI 2)), (va_up (va_up Y 4 (va_up (Y 4) ci 0)) 3 (va_up ((va_up Y 4 (va_up (Y 4) ci 0)) 3) ((6 * ci) + cl) 0), t, D, a, b))) hx hb hr hlocks dL_drafts_521 hK hP hD hS (by rfl) ⟨rfl, ⟨hI, hX⟩, hoc, (by show RZ (K_change S N ci 1 cl (nI 2)).1 (K_change S N ci 1 cl (nI 2)).2 _ _ _ _ _; exact rz_change (sd := 1) (mk := 2) (m0 := m0) (m1 := 2) hR (by omega) (by omega) hcl6 (hdr.mpr c_22) (by decide) hz (by decide) (fun q => c_33 ((nI_inj (by omega) (by decide)).mp (e5.symm.trans q))) (by rw [if_neg (by decide), e4, ix_nI (by omega)]) (by rw [if_neg (by decide)]) p1 p2 (p3.trans (by rw [if_neg (by omega)])) p4 p5 (zY_up (zY_up hYb _ _ (by decide)) _ _ (by omega)))⟩ (Nat.le_of_ble_eq_true rfl) (Nat.le_of_ble_eq_true rfl)
                  · rcases (show sd = 0 ∨ sd = 1 by omega) with rfl | rfl
                    · refine lv_iconst (v := nI 4) hx hb dL_drafts_398 (by decide) ?_
                      refine lv_iconst (v := nI 2) hx hb dL_drafts_399 (by decide) ?_
                      refine lv_iload hx hb dL_drafts_400 (lv_at hl 4 rfl) ?_
                      refine lv_imul hx hb dL_drafts_402 ?_
                      refine to_i (y := nI (0)) (pk_mul _ _) ?_
                      refine lv_iadd hx hb dL_drafts_403 ?_
                      refine to_i (y := nI (4)) (nI_add _ _) ?_
                      refine lv_istore (lv' := [(18, .int (nI 4)), (17, .int (nI 1)), (16, .int (nI it)), (15, .int (nI ((6 * ci) + cl))), (14, .int (nI cl)), (13, .int (nI 0)), (12, .int (nI ci)), (0, .ref oc), (1, .int (nI act)), (2, .int y), (3, .int x), (4, .ref ((ab 0))), (5, .ref ((ab 1))), (6, .ref ((ab 2))), (7, .ref ((ab 3))), (8, .ref ((ab 4))), (9, .ref ((ab 5))), (10, .ref ((ab 6))), (11, .ref ((ab 7)))]) hx hb dL_drafts_404 hl (by decide) rfl (fun ls hl => ?_)
                      refine lv_iload hx hb dL_drafts_406 (lv_at hl 2 rfl) ?_
                      refine lv_iload hx hb dL_drafts_408 (lv_at hl 0 rfl) ?_
                      refine lv_ishr hx hb dL_drafts_410 ?_
                      refine to_i (y := nI (it / 16)) (pk_shrN (by omega) _ 4 (by decide)) ?_
                      refine lv_iconst (v := nI 3) hx hb dL_drafts_411 (by decide) ?_
                      refine lv_iand hx hb dL_drafts_412 ?_
                      refine to_i (y := nI ((it / 16) % 4)) (pk_andN (by omega) 2 (by decide)) ?_
                      refine to_i (y := nI m0) (congrArg nI (by omega)) ?_
                      refine lv_istore (lv' := [(19, .int (nI m0)), (18, .int (nI 4)), (17, .int (nI 1)), (16, .int (nI it)), (15, .int (nI ((6 * ci) + cl))), (14, .int (nI cl)), (13, .int (nI 0)), (12, .int (nI ci)), (0, .ref oc), (1, .int (nI act)), (2, .int y), (3, .int x), (4, .ref ((ab 0))), (5, .ref ((ab 1))), (6, .ref ((ab 2))), (7, .ref ((ab 3))), (8, .ref ((ab 4))), (9, .ref ((ab 5))), (10, .ref ((ab 6))), (11, .ref ((ab 7)))]) hx hb dL_drafts_413 hl (by decide) rfl (fun ls hl => ?_)
                      refine lv_iload hx hb dL_drafts_415 (lv_at hl 3 rfl) ?_
                      refine n_if_ne (tgt := 428) hx hb dL_drafts_417 (by decide) (by omega) (fun _ => ?_) (fun h9 => absurd h9 c_23)
                      refine lv_iload hx hb dL_drafts_428 (lv_at hl 3 rfl) ?_
                      refine lv_istore (lv' := [(16, .int (nI it)), (19, .int (nI m0)), (18, .int (nI 4)), (17, .int (nI 1)), (15, .int (nI ((6 * ci) + cl))), (14, .int (nI cl)), (13, .int (nI 0)), (12, .int (nI ci)), (0, .ref oc), (1, .int (nI act)), (2, .int y), (3, .int x), (4, .ref ((ab 0))), (5, .ref ((ab 1))), (6, .ref ((ab 2))), (7, .ref ((ab 3))), (8, .ref ((ab 4))), (9, .ref ((ab 5))), (10, .ref ((ab 6))), (11, .ref ((ab 7)))]) hx hb dL_drafts_430 hl (by decide) rfl (fun ls hl => ?_)
                      refine lv_iload hx hb dL_drafts_432 (lv_at hl 0 rfl) ?_
                      refine lv_iconst (v := nI 3) hx hb dL_drafts_434 (by decide) ?_
                      refine lv_iload hx hb dL_drafts_435 (lv_at hl 2 rfl) ?_
                      refine lv_ishl hx hb dL_drafts_437 ?_
                      refine lv_iconst (v := -1) hx hb dL_drafts_438 (by decide) ?_
                      refine lv_ixor hx hb dL_drafts_439 ?_
                      refine lv_iand hx hb dL_drafts_440 ?_
                      refine lv_iload hx hb dL_drafts_441 (lv_at hl 3 rfl) ?_
                      refine lv_iload hx hb dL_drafts_443 (lv_at hl 2 rfl) ?_
                      refine lv_ishl hx hb dL_drafts_445 ?_
                      refine lv_ior hx hb dL_drafts_446 ?_
                      refine to_i (y := nI (N 2 ci cl + 16 * 1 + 64 * m1)) (bt_0 (v := N 2 ci cl) (m0 := m0) (m1 := m1) (mk := 1) (by omega) (by omega) (by omega) (by omega) (by omega)) ?_
                      refine lv_istore (lv' := [(16, .int (nI (N 2 ci cl + 16 * 1 + 64 * m1))), (19, .int (nI m0)), (18, .int (nI 4)), (17, .int (nI 1)), (15, .int (nI ((6 * ci) + cl))), (14, .int (nI cl)), (13, .int (nI 0)), (12, .int (nI ci)), (0, .ref oc), (1, .int (nI act)), (2, .int y), (3, .int x), (4, .ref ((ab 0))), (5, .ref ((ab 1))), (6, .ref ((ab 2))), (7, .ref ((ab 3))), (8, .ref ((ab 4))), (9, .ref ((ab 5))), (10, .ref ((ab 6))), (11, .ref ((ab 7)))]) hx hb dL_drafts_447 hl (by decide) rfl (fun ls hl => ?_)
                      refine lv_iload hx hb dL_drafts_449 (lv_at hl 0 rfl) ?_
                      refine lv_iconst (v := nI 4) hx hb dL_drafts_451 (by decide) ?_
                      refine lv_ishr hx hb dL_drafts_452 ?_
                      refine to_i (y := nI ((N 2 ci cl + 16 * 1 + 64 * m1) / 16)) (pk_shrN (by omega) _ 4 (by decide)) ?_
                      refine to_i (y := nI (1 + 4 * m1)) (congrArg nI (by omega)) ?_
                      refine lv_istore (lv' := [(20, .int (nI (1 + 4 * m1))), (16, .int (nI (N 2 ci cl + 16 * 1 + 64 * m1))), (19, .int (nI m0)), (18, .int (nI 4)), (17, .int (nI 1)), (15, .int (nI ((6 * ci) + cl))), (14, .int (nI cl)), (13, .int (nI 0)), (12, .int (nI ci)), (0, .ref oc), (1, .int (nI act)), (2, .int y), (3, .int x), (4, .ref ((ab 0))), (5, .ref ((ab 1))), (6, .ref ((ab 2))), (7, .ref ((ab 3))), (8, .ref ((ab 4))), (9, .ref ((ab 5))), (10, .ref ((ab 6))), (11, .ref ((ab 7)))]) hx hb dL_drafts_453 hl (by decide) rfl (fun ls hl => ?_)
                      refine lv_iload hx hb dL_drafts_455 (lv_at hl 2 rfl) ?_
                      refine lv_iload hx hb dL_drafts_457 (lv_at hl 4 rfl) ?_
                      refine n_eq (tgt := 468) hx hb dL_drafts_459 (by decide) (by omega) (by omega) (fun c_41 => ?_) (fun c_41 => ?_)
                      · refine lv_aload hx hb dL_drafts_468 (lv_at hl 16 rfl) ?_
                        refine lv_iload hx hb dL_drafts_470 (lv_at hl 5 rfl) ?_
                        refine lv_iload hx hb dL_drafts_472 (lv_at hl 0 rfl) ?_
                        refine lv_bipush (v := nI 10) hx hb dL_drafts_474 (by decide) ?_
                        refine n_eq (tgt := 492) hx hb dL_drafts_476 (by decide) (by omega) (by omega) (fun c_42 => ?_) (fun c_42 => ?_)
                        · refine lv_iconst (v := nI 0) hx hb dL_drafts_492 (by decide) ?_
                          refine lv_goto (tgt := 498) hx hb dL_drafts_493 (by decide) ?_
                          refine x_iast (f := fun j => nI (Y 3 j)) hx hb hK hP hD hS (_ + 3) 0 (app_r rfl) rfl (t := (6 * ci) + cl) (x := nI 0) (by omega) (by decide) dL_drafts_498 (fun H locs hP hD hS => ?_)
                          rw [app_setr, upd_nI] at hP hD
                          have hP : va_P (dC, dI) vwCl (cw cy e0 ad L S N ++ yw ab cy (va_up Y 3 (va_up (Y 3) ((6 * ci) + cl) 0)) t D a b) H := hP
                          have hD : va_D A (cw cy e0 ad L S N ++ yw ab cy (va_up Y 3 (va_up (Y 3) ((6 * ci) + cl) 0)) t D a b) := hD
                          refine lv_aload_n hx hb dL_drafts_499 rfl (lv_at hl 9 rfl) ?_
                          refine lv_iload hx hb dL_drafts_500 (lv_at hl 8 rfl) ?_
                          refine lv_iload hx hb dL_drafts_502 (lv_at hl 7 rfl) ?_
                          refine lv_iload hx hb dL_drafts_504 (lv_at hl 6 rfl) ?_
                          refine lv_iload hx hb dL_drafts_506 (lv_at hl 4 rfl) ?_
                          refine callY_i hP (vx_runSW (As := [.ref oc, .int (nI ci), .int (nI 0), .int (nI cl), .int (nI 1)]) (rest := []) ⟨hx, hb, hml, hown, hts⟩ (qL_mark l dC dI cy e0 mi oc ad L S N H.size (nI ci) (nI 0) (nI cl) (nI 1) hI hX hst hoc) (vx_cwSW 5 hts gL_drafts_L_mark rfl rfl rfl (by decide +kernel) ⟨Nat.le_of_ble_eq_true rfl, Nat.le_of_ble_eq_true rfl⟩) (preLS hK (w_leftP hP) (w_leftD hD) hS hA ham) rfl rfl hl.1 rfl (lv_room (Nat.le_of_ble_eq_true rfl)) dL_drafts_508 ⟨Nat.le_of_ble_eq_true rfl, Nat.le_of_ble_eq_true rfl⟩) hD hS hA (fun rr uc H locs hw hP hD hS => ?_)
                          rw [eci] at hw
                          rw [ecl] at hw
                          rw [ix_nI (show (0 : Nat) < 2 ^ 31 by decide)] at hw
                          rw [if_neg hz] at hw
                          rw [if_neg hz] at hw
                          obtain ⟨er, ad, L, rfl, hI, hX, hoc⟩ := lres_n0 hw ((if_pos (ct_in (by omega) (by omega))).trans ((if_pos ⟨by decide, cl_in (by omega), by decide⟩).trans (if_pos (by rw [eci, ecl]; exact ⟨hdr.mpr c_22, fun q => hz q.1⟩))))
                          have hP : va_P (dC, dI) vwCl (cwT cy e0 (ad, L, K_change S N ci 0 cl (nI 1)) ++ yw ab cy (va_up Y 3 (va_up (Y 3) ((6 * ci) + cl) 0)) t D a b) H := hP
                          have hD : va_D A (cwT cy e0 (ad, L, K_change S N ci 0 cl (nI 1)) ++ yw ab cy (va_up Y 3 (va_up (Y 3) ((6 * ci) + cl) 0)) t D a b) := hD
                          refine to_i (y := nI m0) (er.trans (e4)) ?_
                          refine lv_iload hx hb dL_drafts_511 (lv_at hl 2 rfl) ?_
                          refine lv_icmp_ne (tgt := 520) hx hb dL_drafts_513 (by decide) (fun h9 => absurd rfl h9) (fun _ => ?_)
                          refine lv_iconst (v := nI 1) hx hb dL_drafts_516 (by decide) ?_
                          refine lv_goto (tgt := 521) hx hb dL_drafts_517 (by decide) ?_
                          rw [← hQQ]; exact end_z (u := ((ad, L, K_change S N ci 0 cl (nI 1)), (va_up Y 3 (va_up (Y 3) ((6 * ci) + cl) 0), t, D, a, b))) hx hb hr hlocks dL_drafts_521 hK hP hD hS (by rfl) (by exfalso; omega) (Nat.le_of_ble_eq_true rfl) (Nat.le_of_ble_eq_true rfl)
                        · refine lv_iload hx hb dL_drafts_479 (lv_at hl 0 rfl) ?_
                          refine lv_iconst (v := nI 2) hx hb dL_drafts_481 (by decide) ?_
                          refine n_eq (tgt := 492) hx hb dL_drafts_482 (by decide) (by omega) (by omega) (fun c_43 => ?_) (fun c_43 => ?_)
                          · refine lv_iconst (v := nI 0) hx hb dL_drafts_492 (by decide) ?_
                            refine lv_goto (tgt := 498) hx hb dL_drafts_493 (by decide) ?_
                            refine x_iast (f := fun j => nI (Y 3 j)) hx hb hK hP hD hS (_ + 3) 0 (app_r rfl) rfl (t := (6 * ci) + cl) (x := nI 0) (by omega) (by decide) dL_drafts_498 (fun H locs hP hD hS => ?_)
                            rw [app_setr, upd_nI] at hP hD
                            have hP : va_P (dC, dI) vwCl (cw cy e0 ad L S N ++ yw ab cy (va_up Y 3 (va_up (Y 3) ((6 * ci) + cl) 0)) t D a b) H := hP
                            have hD : va_D A (cw cy e0 ad L S N ++ yw ab cy (va_up Y 3 (va_up (Y 3) ((6 * ci) + cl) 0)) t D a b) := hD
                            refine lv_aload_n hx hb dL_drafts_499 rfl (lv_at hl 9 rfl) ?_
                            refine lv_iload hx hb dL_drafts_500 (lv_at hl 8 rfl) ?_
                            refine lv_iload hx hb dL_drafts_502 (lv_at hl 7 rfl) ?_
                            refine lv_iload hx hb dL_drafts_504 (lv_at hl 6 rfl) ?_
                            refine lv_iload hx hb dL_drafts_506 (lv_at hl 4 rfl) ?_
                            refine callY_i hP (vx_runSW (As := [.ref oc, .int (nI ci), .int (nI 0), .int (nI cl), .int (nI 1)]) (rest := []) ⟨hx, hb, hml, hown, hts⟩ (qL_mark l dC dI cy e0 mi oc ad L S N H.size (nI ci) (nI 0) (nI cl) (nI 1) hI hX hst hoc) (vx_cwSW 5 hts gL_drafts_L_mark rfl rfl rfl (by decide +kernel) ⟨Nat.le_of_ble_eq_true rfl, Nat.le_of_ble_eq_true rfl⟩) (preLS hK (w_leftP hP) (w_leftD hD) hS hA ham) rfl rfl hl.1 rfl (lv_room (Nat.le_of_ble_eq_true rfl)) dL_drafts_508 ⟨Nat.le_of_ble_eq_true rfl, Nat.le_of_ble_eq_true rfl⟩) hD hS hA (fun rr uc H locs hw hP hD hS => ?_)
                            rw [eci] at hw
                            rw [ecl] at hw
                            rw [ix_nI (show (0 : Nat) < 2 ^ 31 by decide)] at hw
                            rw [if_neg hz] at hw
                            rw [if_neg hz] at hw
                            obtain ⟨er, ad, L, rfl, hI, hX, hoc⟩ := lres_n0 hw ((if_pos (ct_in (by omega) (by omega))).trans ((if_pos ⟨by decide, cl_in (by omega), by decide⟩).trans (if_pos (by rw [eci, ecl]; exact ⟨hdr.mpr c_22, fun q => hz q.1⟩))))
                            have hP : va_P (dC, dI) vwCl (cwT cy e0 (ad, L, K_change S N ci 0 cl (nI 1)) ++ yw ab cy (va_up Y 3 (va_up (Y 3) ((6 * ci) + cl) 0)) t D a b) H := hP
                            have hD : va_D A (cwT cy e0 (ad, L, K_change S N ci 0 cl (nI 1)) ++ yw ab cy (va_up Y 3 (va_up (Y 3) ((6 * ci) + cl) 0)) t D a b) := hD
                            refine to_i (y := nI m0) (er.trans (e4)) ?_
                            refine lv_iload hx hb dL_drafts_511 (lv_at hl 2 rfl) ?_
                            refine lv_icmp_ne (tgt := 520) hx hb dL_drafts_513 (by decide) (fun h9 => absurd rfl h9) (fun _ => ?_)
                            refine lv_iconst (v := nI 1) hx hb dL_drafts_516 (by decide) ?_
                            refine lv_goto (tgt := 521) hx hb dL_drafts_517 (by decide) ?_
                            rw [← hQQ]; exact end_z (u := ((ad, L, K_change S N ci 0 cl (nI 1)), (va_up Y 3 (va_up (Y 3) ((6 * ci) + cl) 0), t, D, a, b))) hx hb hr hlocks dL_drafts_521 hK hP hD hS (by rfl) (by exfalso; omega) (Nat.le_of_ble_eq_true rfl) (Nat.le_of_ble_eq_true rfl)
                          · refine lv_iload hx hb dL_drafts_485 (lv_at hl 0 rfl) ?_
                            refine lv_bipush (v := nI 8) hx hb dL_drafts_487 (by decide) ?_
                            refine n_ne (tgt := 496) hx hb dL_drafts_489 (by decide) (by omega) (by omega) (fun c_44 => ?_) (fun c_44 => ?_)
                            · refine lv_iload hx hb dL_drafts_496 (lv_at hl 1 rfl) ?_
                              refine x_iast (f := fun j => nI (Y 3 j)) hx hb hK hP hD hS (_ + 3) 0 (app_r rfl) rfl (t := (6 * ci) + cl) (x := nI (N 2 ci cl + 16 * 1 + 64 * m1)) (by omega) (by decide) dL_drafts_498 (fun H locs hP hD hS => ?_)
                              rw [app_setr, upd_nI] at hP hD
                              have hP : va_P (dC, dI) vwCl (cw cy e0 ad L S N ++ yw ab cy (va_up Y 3 (va_up (Y 3) ((6 * ci) + cl) (N 2 ci cl + 16 * 1 + 64 * m1))) t D a b) H := hP
                              have hD : va_D A (cw cy e0 ad L S N ++ yw ab cy (va_up Y 3 (va_up (Y 3) ((6 * ci) + cl) (N 2 ci cl + 16 * 1 + 64 * m1))) t D a b) := hD
                              refine lv_aload_n hx hb dL_drafts_499 rfl (lv_at hl 9 rfl) ?_
                              refine lv_iload hx hb dL_drafts_500 (lv_at hl 8 rfl) ?_
                              refine lv_iload hx hb dL_drafts_502 (lv_at hl 7 rfl) ?_
                              refine lv_iload hx hb dL_drafts_504 (lv_at hl 6 rfl) ?_
                              refine lv_iload hx hb dL_drafts_506 (lv_at hl 4 rfl) ?_
                              refine callY_i hP (vx_runSW (As := [.ref oc, .int (nI ci), .int (nI 0), .int (nI cl), .int (nI 1)]) (rest := []) ⟨hx, hb, hml, hown, hts⟩ (qL_mark l dC dI cy e0 mi oc ad L S N H.size (nI ci) (nI 0) (nI cl) (nI 1) hI hX hst hoc) (vx_cwSW 5 hts gL_drafts_L_mark rfl rfl rfl (by decide +kernel) ⟨Nat.le_of_ble_eq_true rfl, Nat.le_of_ble_eq_true rfl⟩) (preLS hK (w_leftP hP) (w_leftD hD) hS hA ham) rfl rfl hl.1 rfl (lv_room (Nat.le_of_ble_eq_true rfl)) dL_drafts_508 ⟨Nat.le_of_ble_eq_true rfl, Nat.le_of_ble_eq_true rfl⟩) hD hS hA (fun rr uc H locs hw hP hD hS => ?_)
                              rw [eci] at hw
                              rw [ecl] at hw
                              rw [ix_nI (show (0 : Nat) < 2 ^ 31 by decide)] at hw
                              rw [if_neg hz] at hw
                              rw [if_neg hz] at hw
                              obtain ⟨er, ad, L, rfl, hI, hX, hoc⟩ := lres_n0 hw ((if_pos (ct_in (by omega) (by omega))).trans ((if_pos ⟨by decide, cl_in (by omega), by decide⟩).trans (if_pos (by rw [eci, ecl]; exact ⟨hdr.mpr c_22, fun q => hz q.1⟩))))
                              have hP : va_P (dC, dI) vwCl (cwT cy e0 (ad, L, K_change S N ci 0 cl (nI 1)) ++ yw ab cy (va_up Y 3 (va_up (Y 3) ((6 * ci) + cl) (N 2 ci cl + 16 * 1 + 64 * m1))) t D a b) H := hP
                              have hD : va_D A (cwT cy e0 (ad, L, K_change S N ci 0 cl (nI 1)) ++ yw ab cy (va_up Y 3 (va_up (Y 3) ((6 * ci) + cl) (N 2 ci cl + 16 * 1 + 64 * m1))) t D a b) := hD
                              refine to_i (y := nI m0) (er.trans (e4)) ?_
                              refine lv_iload hx hb dL_drafts_511 (lv_at hl 2 rfl) ?_
                              refine lv_icmp_ne (tgt := 520) hx hb dL_drafts_513 (by decide) (fun h9 => absurd rfl h9) (fun _ => ?_)
                              refine lv_iconst (v := nI 1) hx hb dL_drafts_516 (by decide) ?_
                              refine lv_goto (tgt := 521) hx hb dL_drafts_517 (by decide) ?_
                              have eKC : K_change S N ci 0 cl (nI 1) = (S, N) := if_pos (e4.trans (congrArg nI (by omega)))
                              have eYY := Y_id (show N 2 ci cl + 16 * 1 + 64 * m1 = Y 3 (6 * ci + cl) by omega)
                              rw [← hQQ]; exact end_z (u := ((ad, L, K_change S N ci 0 cl (nI 1)), (va_up Y 3 (va_up (Y 3) ((6 * ci) + cl) (N 2 ci cl + 16 * 1 + 64 * m1)), t, D, a, b))) hx hb hr hlocks dL_drafts_521 hK hP hD hS (by rfl) ⟨rfl, ⟨hI, hX⟩, hoc, (by show RZ (K_change S N ci 0 cl (nI 1)).1 (K_change S N ci 0 cl (nI 1)).2 _ _ _ _ _; rw [eKC, eYY]; exact hR)⟩ (Nat.le_of_ble_eq_true rfl) (Nat.le_of_ble_eq_true rfl)
                            · refine lv_iconst (v := nI 0) hx hb dL_drafts_492 (by decide) ?_
                              refine lv_goto (tgt := 498) hx hb dL_drafts_493 (by decide) ?_
                              refine x_iast (f := fun j => nI (Y 3 j)) hx hb hK hP hD hS (_ + 3) 0 (app_r rfl) rfl (t := (6 * ci) + cl) (x := nI 0) (by omega) (by decide) dL_drafts_498 (fun H locs hP hD hS => ?_)
                              rw [app_setr, upd_nI] at hP hD
                              have hP : va_P (dC, dI) vwCl (cw cy e0 ad L S N ++ yw ab cy (va_up Y 3 (va_up (Y 3) ((6 * ci) + cl) 0)) t D a b) H := hP
                              have hD : va_D A (cw cy e0 ad L S N ++ yw ab cy (va_up Y 3 (va_up (Y 3) ((6 * ci) + cl) 0)) t D a b) := hD
                              refine lv_aload_n hx hb dL_drafts_499 rfl (lv_at hl 9 rfl) ?_
                              refine lv_iload hx hb dL_drafts_500 (lv_at hl 8 rfl) ?_
                              refine lv_iload hx hb dL_drafts_502 (lv_at hl 7 rfl) ?_
                              refine lv_iload hx hb dL_drafts_504 (lv_at hl 6 rfl) ?_
                              refine lv_iload hx hb dL_drafts_506 (lv_at hl 4 rfl) ?_
                              refine callY_i hP (vx_runSW (As := [.ref oc, .int (nI ci), .int (nI 0), .int (nI cl), .int (nI 1)]) (rest := []) ⟨hx, hb, hml, hown, hts⟩ (qL_mark l dC dI cy e0 mi oc ad L S N H.size (nI ci) (nI 0) (nI cl) (nI 1) hI hX hst hoc) (vx_cwSW 5 hts gL_drafts_L_mark rfl rfl rfl (by decide +kernel) ⟨Nat.le_of_ble_eq_true rfl, Nat.le_of_ble_eq_true rfl⟩) (preLS hK (w_leftP hP) (w_leftD hD) hS hA ham) rfl rfl hl.1 rfl (lv_room (Nat.le_of_ble_eq_true rfl)) dL_drafts_508 ⟨Nat.le_of_ble_eq_true rfl, Nat.le_of_ble_eq_true rfl⟩) hD hS hA (fun rr uc H locs hw hP hD hS => ?_)
                              rw [eci] at hw
                              rw [ecl] at hw
                              rw [ix_nI (show (0 : Nat) < 2 ^ 31 by decide)] at hw
                              rw [if_neg hz] at hw
                              rw [if_neg hz] at hw
                              obtain ⟨er, ad, L, rfl, hI, hX, hoc⟩ := lres_n0 hw ((if_pos (ct_in (by omega) (by omega))).trans ((if_pos ⟨by decide, cl_in (by omega), by decide⟩).trans (if_pos (by rw [eci, ecl]; exact ⟨hdr.mpr c_22, fun q => hz q.1⟩))))
                              have hP : va_P (dC, dI) vwCl (cwT cy e0 (ad, L, K_change S N ci 0 cl (nI 1)) ++ yw ab cy (va_up Y 3 (va_up (Y 3) ((6 * ci) + cl) 0)) t D a b) H := hP
                              have hD : va_D A (cwT cy e0 (ad, L, K_change S N ci 0 cl (nI 1)) ++ yw ab cy (va_up Y 3 (va_up (Y 3) ((6 * ci) + cl) 0)) t D a b) := hD
                              refine to_i (y := nI m0) (er.trans (e4)) ?_
                              refine lv_iload hx hb dL_drafts_511 (lv_at hl 2 rfl) ?_
                              refine lv_icmp_ne (tgt := 520) hx hb dL_drafts_513 (by decide) (fun h9 => absurd rfl h9) (fun _ => ?_)
                              refine lv_iconst (v := nI 1) hx hb dL_drafts_516 (by decide) ?_
                              refine lv_goto (tgt := 521) hx hb dL_drafts_517 (by decide) ?_
                              rw [← hQQ]; exact end_z (u := ((ad, L, K_change S N ci 0 cl (nI 1)), (va_up Y 3 (va_up (Y 3) ((6 * ci) + cl) 0), t, D, a, b))) hx hb hr hlocks dL_drafts_521 hK hP hD hS (by rfl) (by exfalso; omega) (Nat.le_of_ble_eq_true rfl) (Nat.le_of_ble_eq_true rfl)
                      · refine lv_aload hx hb dL_drafts_462 (lv_at hl 17 rfl) ?_
                        refine lv_iload hx hb dL_drafts_464 (lv_at hl 8 rfl) ?_
                        refine lv_iconst (v := nI 0) hx hb dL_drafts_466 (by decide) ?_
                        refine x_iast (f := fun j => nI (Y 4 j)) hx hb hK hP hD hS (_ + 4) 0 (app_r rfl) rfl (t := ci) (x := nI 0) (by omega) (by decide) dL_drafts_467 (fun H locs hP hD hS => ?_)
                        rw [app_setr, upd_nI] at hP hD
                        have hP : va_P (dC, dI) vwCl (cw cy e0 ad L S N ++ yw ab cy (va_up Y 4 (va_up (Y 4) ci 0)) t D a b) H := hP
                        have hD : va_D A (cw cy e0 ad L S N ++ yw ab cy (va_up Y 4 (va_up (Y 4) ci 0)) t D a b) := hD
                        refine lv_aload hx hb dL_drafts_468 (lv_at hl 16 rfl) ?_
                        refine lv_iload hx hb dL_drafts_470 (lv_at hl 5 rfl) ?_
                        refine lv_iload hx hb dL_drafts_472 (lv_at hl 0 rfl) ?_
                        refine lv_bipush (v := nI 10) hx hb dL_drafts_474 (by decide) ?_
                        refine n_eq (tgt := 492) hx hb dL_drafts_476 (by decide) (by omega) (by omega) (fun c_45 => ?_) (fun c_45 => ?_)
                        · refine lv_iconst (v := nI 0) hx hb dL_drafts_492 (by decide) ?_
                          refine lv_goto (tgt := 498) hx hb dL_drafts_493 (by decide) ?_
                          refine x_iast (f := fun j => nI ((va_up Y 4 (va_up (Y 4) ci 0)) 3 j)) hx hb hK hP hD hS (_ + 3) 0 (app_r rfl) rfl (t := (6 * ci) + cl) (x := nI 0) (by omega) (by decide) dL_drafts_498 (fun H locs hP hD hS => ?_)
                          rw [app_setr, upd_nI] at hP hD
                          have hP : va_P (dC, dI) vwCl (cw cy e0 ad L S N ++ yw ab cy (va_up (va_up Y 4 (va_up (Y 4) ci 0)) 3 (va_up ((va_up Y 4 (va_up (Y 4) ci 0)) 3) ((6 * ci) + cl) 0)) t D a b) H := hP
                          have hD : va_D A (cw cy e0 ad L S N ++ yw ab cy (va_up (va_up Y 4 (va_up (Y 4) ci 0)) 3 (va_up ((va_up Y 4 (va_up (Y 4) ci 0)) 3) ((6 * ci) + cl) 0)) t D a b) := hD
                          refine lv_aload_n hx hb dL_drafts_499 rfl (lv_at hl 9 rfl) ?_
                          refine lv_iload hx hb dL_drafts_500 (lv_at hl 8 rfl) ?_
                          refine lv_iload hx hb dL_drafts_502 (lv_at hl 7 rfl) ?_
                          refine lv_iload hx hb dL_drafts_504 (lv_at hl 6 rfl) ?_
                          refine lv_iload hx hb dL_drafts_506 (lv_at hl 4 rfl) ?_
                          refine callY_i hP (vx_runSW (As := [.ref oc, .int (nI ci), .int (nI 0), .int (nI cl), .int (nI 1)]) (rest := []) ⟨hx, hb, hml, hown, hts⟩ (qL_mark l dC dI cy e0 mi oc ad L S N H.size (nI ci) (nI 0) (nI cl) (nI 1) hI hX hst hoc) (vx_cwSW 5 hts gL_drafts_L_mark rfl rfl rfl (by decide +kernel) ⟨Nat.le_of_ble_eq_true rfl, Nat.le_of_ble_eq_true rfl⟩) (preLS hK (w_leftP hP) (w_leftD hD) hS hA ham) rfl rfl hl.1 rfl (lv_room (Nat.le_of_ble_eq_true rfl)) dL_drafts_508 ⟨Nat.le_of_ble_eq_true rfl, Nat.le_of_ble_eq_true rfl⟩) hD hS hA (fun rr uc H locs hw hP hD hS => ?_)
                          rw [eci] at hw
                          rw [ecl] at hw
                          rw [ix_nI (show (0 : Nat) < 2 ^ 31 by decide)] at hw
                          rw [if_neg hz] at hw
                          rw [if_neg hz] at hw
                          obtain ⟨er, ad, L, rfl, hI, hX, hoc⟩ := lres_n0 hw ((if_pos (ct_in (by omega) (by omega))).trans ((if_pos ⟨by decide, cl_in (by omega), by decide⟩).trans (if_pos (by rw [eci, ecl]; exact ⟨hdr.mpr c_22, fun q => hz q.1⟩))))
                          have hP : va_P (dC, dI) vwCl (cwT cy e0 (ad, L, K_change S N ci 0 cl (nI 1)) ++ yw ab cy (va_up (va_up Y 4 (va_up (Y 4) ci 0)) 3 (va_up ((va_up Y 4 (va_up (Y 4) ci 0)) 3) ((6 * ci) + cl) 0)) t D a b) H := hP
                          have hD : va_D A (cwT cy e0 (ad, L, K_change S N ci 0 cl (nI 1)) ++ yw ab cy (va_up (va_up Y 4 (va_up (Y 4) ci 0)) 3 (va_up ((va_up Y 4 (va_up (Y 4) ci 0)) 3) ((6 * ci) + cl) 0)) t D a b) := hD
                          refine to_i (y := nI m0) (er.trans (e4)) ?_
                          refine lv_iload hx hb dL_drafts_511 (lv_at hl 2 rfl) ?_
                          refine lv_icmp_ne (tgt := 520) hx hb dL_drafts_513 (by decide) (fun h9 => absurd rfl h9) (fun _ => ?_)
                          refine lv_iconst (v := nI 1) hx hb dL_drafts_516 (by decide) ?_
                          refine lv_goto (tgt := 521) hx hb dL_drafts_517 (by decide) ?_
                          obtain ⟨p1, p2, p3, p4, p5⟩ := yz1 Y ci (6 * ci + cl) 0
                          rw [← hQQ]; exact end_z (u := ((ad, L, K_change S N ci 0 cl (nI 1)), (va_up (va_up Y 4 (va_up (Y 4) ci 0)) 3 (va_up ((va_up Y 4 (va_up (Y 4) ci 0)) 3) ((6 * ci) + cl) 0), t, D, a, b))) hx hb hr hlocks dL_drafts_521 hK hP hD hS (by rfl) ⟨rfl, ⟨hI, hX⟩, hoc, (by show RZ (K_change S N ci 0 cl (nI 1)).1 (K_change S N ci 0 cl (nI 1)).2 _ _ _ _ _; exact rz_change (sd := 0) (mk := 1) (m0 := 1) (m1 := m1) hR (by omega) (by omega) hcl6 (hdr.mpr c_22) (by decide) hz (by decide) (fun q => c_41 ((nI_inj (by omega) (by decide)).mp (e4.symm.trans q))) (by rw [if_pos rfl]) (by rw [if_pos rfl, e5, ix_nI (by omega)]) p1 p2 (p3.trans (by rw [if_neg (by omega)])) p4 p5 (zY_up (zY_up hYb _ _ (by decide)) _ _ (by omega)))⟩ (Nat.le_of_ble_eq_true rfl) (Nat.le_of_ble_eq_true rfl)
                        · refine lv_iload hx hb dL_drafts_479 (lv_at hl 0 rfl) ?_
                          refine lv_iconst (v := nI 2) hx hb dL_drafts_481 (by decide) ?_
                          refine n_eq (tgt := 492) hx hb dL_drafts_482 (by decide) (by omega) (by omega) (fun c_46 => ?_) (fun c_46 => ?_)
                          · refine lv_iconst (v := nI 0) hx hb dL_drafts_492 (by decide) ?_
                            refine lv_goto (tgt := 498) hx hb dL_drafts_493 (by decide) ?_
                            refine x_iast (f := fun j => nI ((va_up Y 4 (va_up (Y 4) ci 0)) 3 j)) hx hb hK hP hD hS (_ + 3) 0 (app_r rfl) rfl (t := (6 * ci) + cl) (x := nI 0) (by omega) (by decide) dL_drafts_498 (fun H locs hP hD hS => ?_)
                            rw [app_setr, upd_nI] at hP hD
                            have hP : va_P (dC, dI) vwCl (cw cy e0 ad L S N ++ yw ab cy (va_up (va_up Y 4 (va_up (Y 4) ci 0)) 3 (va_up ((va_up Y 4 (va_up (Y 4) ci 0)) 3) ((6 * ci) + cl) 0)) t D a b) H := hP
                            have hD : va_D A (cw cy e0 ad L S N ++ yw ab cy (va_up (va_up Y 4 (va_up (Y 4) ci 0)) 3 (va_up ((va_up Y 4 (va_up (Y 4) ci 0)) 3) ((6 * ci) + cl) 0)) t D a b) := hD
                            refine lv_aload_n hx hb dL_drafts_499 rfl (lv_at hl 9 rfl) ?_
                            refine lv_iload hx hb dL_drafts_500 (lv_at hl 8 rfl) ?_
                            refine lv_iload hx hb dL_drafts_502 (lv_at hl 7 rfl) ?_
                            refine lv_iload hx hb dL_drafts_504 (lv_at hl 6 rfl) ?_
                            refine lv_iload hx hb dL_drafts_506 (lv_at hl 4 rfl) ?_
                            refine callY_i hP (vx_runSW (As := [.ref oc, .int (nI ci), .int (nI 0), .int (nI cl), .int (nI 1)]) (rest := []) ⟨hx, hb, hml, hown, hts⟩ (qL_mark l dC dI cy e0 mi oc ad L S N H.size (nI ci) (nI 0) (nI cl) (nI 1) hI hX hst hoc) (vx_cwSW 5 hts gL_drafts_L_mark rfl rfl rfl (by decide +kernel) ⟨Nat.le_of_ble_eq_true rfl, Nat.le_of_ble_eq_true rfl⟩) (preLS hK (w_leftP hP) (w_leftD hD) hS hA ham) rfl rfl hl.1 rfl (lv_room (Nat.le_of_ble_eq_true rfl)) dL_drafts_508 ⟨Nat.le_of_ble_eq_true rfl, Nat.le_of_ble_eq_true rfl⟩) hD hS hA (fun rr uc H locs hw hP hD hS => ?_)
                            rw [eci] at hw
                            rw [ecl] at hw
                            rw [ix_nI (show (0 : Nat) < 2 ^ 31 by decide)] at hw
                            rw [if_neg hz] at hw
                            rw [if_neg hz] at hw
                            obtain ⟨er, ad, L, rfl, hI, hX, hoc⟩ := lres_n0 hw ((if_pos (ct_in (by omega) (by omega))).trans ((if_pos ⟨by decide, cl_in (by omega), by decide⟩).trans (if_pos (by rw [eci, ecl]; exact ⟨hdr.mpr c_22, fun q => hz q.1⟩))))
                            have hP : va_P (dC, dI) vwCl (cwT cy e0 (ad, L, K_change S N ci 0 cl (nI 1)) ++ yw ab cy (va_up (va_up Y 4 (va_up (Y 4) ci 0)) 3 (va_up ((va_up Y 4 (va_up (Y 4) ci 0)) 3) ((6 * ci) + cl) 0)) t D a b) H := hP
                            have hD : va_D A (cwT cy e0 (ad, L, K_change S N ci 0 cl (nI 1)) ++ yw ab cy (va_up (va_up Y 4 (va_up (Y 4) ci 0)) 3 (va_up ((va_up Y 4 (va_up (Y 4) ci 0)) 3) ((6 * ci) + cl) 0)) t D a b) := hD
                            refine to_i (y := nI m0) (er.trans (e4)) ?_
                            refine lv_iload hx hb dL_drafts_511 (lv_at hl 2 rfl) ?_
                            refine lv_icmp_ne (tgt := 520) hx hb dL_drafts_513 (by decide) (fun h9 => absurd rfl h9) (fun _ => ?_)
                            refine lv_iconst (v := nI 1) hx hb dL_drafts_516 (by decide) ?_
                            refine lv_goto (tgt := 521) hx hb dL_drafts_517 (by decide) ?_
                            obtain ⟨p1, p2, p3, p4, p5⟩ := yz1 Y ci (6 * ci + cl) 0
                            rw [← hQQ]; exact end_z (u := ((ad, L, K_change S N ci 0 cl (nI 1)), (va_up (va_up Y 4 (va_up (Y 4) ci 0)) 3 (va_up ((va_up Y 4 (va_up (Y 4) ci 0)) 3) ((6 * ci) + cl) 0), t, D, a, b))) hx hb hr hlocks dL_drafts_521 hK hP hD hS (by rfl) ⟨rfl, ⟨hI, hX⟩, hoc, (by show RZ (K_change S N ci 0 cl (nI 1)).1 (K_change S N ci 0 cl (nI 1)).2 _ _ _ _ _; exact rz_change (sd := 0) (mk := 1) (m0 := 1) (m1 := m1) hR (by omega) (by omega) hcl6 (hdr.mpr c_22) (by decide) hz (by decide) (fun q => c_41 ((nI_inj (by omega) (by decide)).mp (e4.symm.trans q))) (by rw [if_pos rfl]) (by rw [if_pos rfl, e5, ix_nI (by omega)]) p1 p2 (p3.trans (by rw [if_neg (by omega)])) p4 p5 (zY_up (zY_up hYb _ _ (by decide)) _ _ (by omega)))⟩ (Nat.le_of_ble_eq_true rfl) (Nat.le_of_ble_eq_true rfl)
                          · refine lv_iload hx hb dL_drafts_485 (lv_at hl 0 rfl) ?_
                            refine lv_bipush (v := nI 8) hx hb dL_drafts_487 (by decide) ?_
                            refine n_ne (tgt := 496) hx hb dL_drafts_489 (by decide) (by omega) (by omega) (fun c_47 => ?_) (fun c_47 => ?_)
                            · refine lv_iload hx hb dL_drafts_496 (lv_at hl 1 rfl) ?_
                              refine x_iast (f := fun j => nI ((va_up Y 4 (va_up (Y 4) ci 0)) 3 j)) hx hb hK hP hD hS (_ + 3) 0 (app_r rfl) rfl (t := (6 * ci) + cl) (x := nI (N 2 ci cl + 16 * 1 + 64 * m1)) (by omega) (by decide) dL_drafts_498 (fun H locs hP hD hS => ?_)
                              rw [app_setr, upd_nI] at hP hD
                              have hP : va_P (dC, dI) vwCl (cw cy e0 ad L S N ++ yw ab cy (va_up (va_up Y 4 (va_up (Y 4) ci 0)) 3 (va_up ((va_up Y 4 (va_up (Y 4) ci 0)) 3) ((6 * ci) + cl) (N 2 ci cl + 16 * 1 + 64 * m1))) t D a b) H := hP
                              have hD : va_D A (cw cy e0 ad L S N ++ yw ab cy (va_up (va_up Y 4 (va_up (Y 4) ci 0)) 3 (va_up ((va_up Y 4 (va_up (Y 4) ci 0)) 3) ((6 * ci) + cl) (N 2 ci cl + 16 * 1 + 64 * m1))) t D a b) := hD
                              refine lv_aload_n hx hb dL_drafts_499 rfl (lv_at hl 9 rfl) ?_
                              refine lv_iload hx hb dL_drafts_500 (lv_at hl 8 rfl) ?_
                              refine lv_iload hx hb dL_drafts_502 (lv_at hl 7 rfl) ?_
                              refine lv_iload hx hb dL_drafts_504 (lv_at hl 6 rfl) ?_
                              refine lv_iload hx hb dL_drafts_506 (lv_at hl 4 rfl) ?_
                              refine callY_i hP (vx_runSW (As := [.ref oc, .int (nI ci), .int (nI 0), .int (nI cl), .int (nI 1)]) (rest := []) ⟨hx, hb, hml, hown, hts⟩ (qL_mark l dC dI cy e0 mi oc ad L S N H.size (nI ci) (nI 0) (nI cl) (nI 1) hI hX hst hoc) (vx_cwSW 5 hts gL_drafts_L_mark rfl rfl rfl (by decide +kernel) ⟨Nat.le_of_ble_eq_true rfl, Nat.le_of_ble_eq_true rfl⟩) (preLS hK (w_leftP hP) (w_leftD hD) hS hA ham) rfl rfl hl.1 rfl (lv_room (Nat.le_of_ble_eq_true rfl)) dL_drafts_508 ⟨Nat.le_of_ble_eq_true rfl, Nat.le_of_ble_eq_true rfl⟩) hD hS hA (fun rr uc H locs hw hP hD hS => ?_)
                              rw [eci] at hw
                              rw [ecl] at hw
                              rw [ix_nI (show (0 : Nat) < 2 ^ 31 by decide)] at hw
                              rw [if_neg hz] at hw
                              rw [if_neg hz] at hw
                              obtain ⟨er, ad, L, rfl, hI, hX, hoc⟩ := lres_n0 hw ((if_pos (ct_in (by omega) (by omega))).trans ((if_pos ⟨by decide, cl_in (by omega), by decide⟩).trans (if_pos (by rw [eci, ecl]; exact ⟨hdr.mpr c_22, fun q => hz q.1⟩))))
                              have hP : va_P (dC, dI) vwCl (cwT cy e0 (ad, L, K_change S N ci 0 cl (nI 1)) ++ yw ab cy (va_up (va_up Y 4 (va_up (Y 4) ci 0)) 3 (va_up ((va_up Y 4 (va_up (Y 4) ci 0)) 3) ((6 * ci) + cl) (N 2 ci cl + 16 * 1 + 64 * m1))) t D a b) H := hP
                              have hD : va_D A (cwT cy e0 (ad, L, K_change S N ci 0 cl (nI 1)) ++ yw ab cy (va_up (va_up Y 4 (va_up (Y 4) ci 0)) 3 (va_up ((va_up Y 4 (va_up (Y 4) ci 0)) 3) ((6 * ci) + cl) (N 2 ci cl + 16 * 1 + 64 * m1))) t D a b) := hD
                              refine to_i (y := nI m0) (er.trans (e4)) ?_
                              refine lv_iload hx hb dL_drafts_511 (lv_at hl 2 rfl) ?_
                              refine lv_icmp_ne (tgt := 520) hx hb dL_drafts_513 (by decide) (fun h9 => absurd rfl h9) (fun _ => ?_)
                              refine lv_iconst (v := nI 1) hx hb dL_drafts_516 (by decide) ?_
                              refine lv_goto (tgt := 521) hx hb dL_drafts_517 (by decide) ?_
                              obtain ⟨p1, p2, p3, p4, p5⟩ := yz1 Y ci (6 * ci + cl) (N 2 ci cl + 16 * 1 + 64 * m1)
                              rw [← hQQ]; exact end_z (u := ((ad, L, K_change S N ci 0 cl (nI 1)), (va_up (va_up Y 4 (va_up (Y 4) ci 0)) 3 (va_up ((va_up Y 4 (va_up (Y 4) ci 0)) 3) ((6 * ci) + cl) (N 2 ci cl + 16 * 1 + 64 * m1)), t, D, a, b))) hx hb hr hlocks dL_drafts_521 hK hP hD hS (by rfl) ⟨rfl, ⟨hI, hX⟩, hoc, (by show RZ (K_change S N ci 0 cl (nI 1)).1 (K_change S N ci 0 cl (nI 1)).2 _ _ _ _ _; exact rz_change (sd := 0) (mk := 1) (m0 := 1) (m1 := m1) hR (by omega) (by omega) hcl6 (hdr.mpr c_22) (by decide) hz (by decide) (fun q => c_41 ((nI_inj (by omega) (by decide)).mp (e4.symm.trans q))) (by rw [if_pos rfl]) (by rw [if_pos rfl, e5, ix_nI (by omega)]) p1 p2 (p3.trans (by rw [if_pos (by omega)])) p4 p5 (zY_up (zY_up hYb _ _ (by decide)) _ _ (by omega)))⟩ (Nat.le_of_ble_eq_true rfl) (Nat.le_of_ble_eq_true rfl)
                            · refine lv_iconst (v := nI 0) hx hb dL_drafts_492 (by decide) ?_
                              refine lv_goto (tgt := 498) hx hb dL_drafts_493 (by decide) ?_
                              refine x_iast (f := fun j => nI ((va_up Y 4 (va_up (Y 4) ci 0)) 3 j)) hx hb hK hP hD hS (_ + 3) 0 (app_r rfl) rfl (t := (6 * ci) + cl) (x := nI 0) (by omega) (by decide) dL_drafts_498 (fun H locs hP hD hS => ?_)
                              rw [app_setr, upd_nI] at hP hD
                              have hP : va_P (dC, dI) vwCl (cw cy e0 ad L S N ++ yw ab cy (va_up (va_up Y 4 (va_up (Y 4) ci 0)) 3 (va_up ((va_up Y 4 (va_up (Y 4) ci 0)) 3) ((6 * ci) + cl) 0)) t D a b) H := hP
                              have hD : va_D A (cw cy e0 ad L S N ++ yw ab cy (va_up (va_up Y 4 (va_up (Y 4) ci 0)) 3 (va_up ((va_up Y 4 (va_up (Y 4) ci 0)) 3) ((6 * ci) + cl) 0)) t D a b) := hD
                              refine lv_aload_n hx hb dL_drafts_499 rfl (lv_at hl 9 rfl) ?_
                              refine lv_iload hx hb dL_drafts_500 (lv_at hl 8 rfl) ?_
                              refine lv_iload hx hb dL_drafts_502 (lv_at hl 7 rfl) ?_
                              refine lv_iload hx hb dL_drafts_504 (lv_at hl 6 rfl) ?_
                              refine lv_iload hx hb dL_drafts_506 (lv_at hl 4 rfl) ?_
                              refine callY_i hP (vx_runSW (As := [.ref oc, .int (nI ci), .int (nI 0), .int (nI cl), .int (nI 1)]) (rest := []) ⟨hx, hb, hml, hown, hts⟩ (qL_mark l dC dI cy e0 mi oc ad L S N H.size (nI ci) (nI 0) (nI cl) (nI 1) hI hX hst hoc) (vx_cwSW 5 hts gL_drafts_L_mark rfl rfl rfl (by decide +kernel) ⟨Nat.le_of_ble_eq_true rfl, Nat.le_of_ble_eq_true rfl⟩) (preLS hK (w_leftP hP) (w_leftD hD) hS hA ham) rfl rfl hl.1 rfl (lv_room (Nat.le_of_ble_eq_true rfl)) dL_drafts_508 ⟨Nat.le_of_ble_eq_true rfl, Nat.le_of_ble_eq_true rfl⟩) hD hS hA (fun rr uc H locs hw hP hD hS => ?_)
                              rw [eci] at hw
                              rw [ecl] at hw
                              rw [ix_nI (show (0 : Nat) < 2 ^ 31 by decide)] at hw
                              rw [if_neg hz] at hw
                              rw [if_neg hz] at hw
                              obtain ⟨er, ad, L, rfl, hI, hX, hoc⟩ := lres_n0 hw ((if_pos (ct_in (by omega) (by omega))).trans ((if_pos ⟨by decide, cl_in (by omega), by decide⟩).trans (if_pos (by rw [eci, ecl]; exact ⟨hdr.mpr c_22, fun q => hz q.1⟩))))
                              have hP : va_P (dC, dI) vwCl (cwT cy e0 (ad, L, K_change S N ci 0 cl (nI 1)) ++ yw ab cy (va_up (va_up Y 4 (va_up (Y 4) ci 0)) 3 (va_up ((va_up Y 4 (va_up (Y 4) ci 0)) 3) ((6 * ci) + cl) 0)) t D a b) H := hP
                              have hD : va_D A (cwT cy e0 (ad, L, K_change S N ci 0 cl (nI 1)) ++ yw ab cy (va_up (va_up Y 4 (va_up (Y 4) ci 0)) 3 (va_up ((va_up Y 4 (va_up (Y 4) ci 0)) 3) ((6 * ci) + cl) 0)) t D a b) := hD
                              refine to_i (y := nI m0) (er.trans (e4)) ?_
                              refine lv_iload hx hb dL_drafts_511 (lv_at hl 2 rfl) ?_
                              refine lv_icmp_ne (tgt := 520) hx hb dL_drafts_513 (by decide) (fun h9 => absurd rfl h9) (fun _ => ?_)
                              refine lv_iconst (v := nI 1) hx hb dL_drafts_516 (by decide) ?_
                              refine lv_goto (tgt := 521) hx hb dL_drafts_517 (by decide) ?_
                              obtain ⟨p1, p2, p3, p4, p5⟩ := yz1 Y ci (6 * ci + cl) 0
                              rw [← hQQ]; exact end_z (u := ((ad, L, K_change S N ci 0 cl (nI 1)), (va_up (va_up Y 4 (va_up (Y 4) ci 0)) 3 (va_up ((va_up Y 4 (va_up (Y 4) ci 0)) 3) ((6 * ci) + cl) 0), t, D, a, b))) hx hb hr hlocks dL_drafts_521 hK hP hD hS (by rfl) ⟨rfl, ⟨hI, hX⟩, hoc, (by show RZ (K_change S N ci 0 cl (nI 1)).1 (K_change S N ci 0 cl (nI 1)).2 _ _ _ _ _; exact rz_change (sd := 0) (mk := 1) (m0 := 1) (m1 := m1) hR (by omega) (by omega) hcl6 (hdr.mpr c_22) (by decide) hz (by decide) (fun q => c_41 ((nI_inj (by omega) (by decide)).mp (e4.symm.trans q))) (by rw [if_pos rfl]) (by rw [if_pos rfl, e5, ix_nI (by omega)]) p1 p2 (p3.trans (by rw [if_neg (by omega)])) p4 p5 (zY_up (zY_up hYb _ _ (by decide)) _ _ (by omega)))⟩ (Nat.le_of_ble_eq_true rfl) (Nat.le_of_ble_eq_true rfl)
                    · refine lv_iconst (v := nI 4) hx hb dL_drafts_398 (by decide) ?_
                      refine lv_iconst (v := nI 2) hx hb dL_drafts_399 (by decide) ?_
                      refine lv_iload hx hb dL_drafts_400 (lv_at hl 4 rfl) ?_
                      refine lv_imul hx hb dL_drafts_402 ?_
                      refine to_i (y := nI (2)) (pk_mul _ _) ?_
                      refine lv_iadd hx hb dL_drafts_403 ?_
                      refine to_i (y := nI (6)) (nI_add _ _) ?_
                      refine lv_istore (lv' := [(18, .int (nI 6)), (17, .int (nI 1)), (16, .int (nI it)), (15, .int (nI ((6 * ci) + cl))), (14, .int (nI cl)), (13, .int (nI 1)), (12, .int (nI ci)), (0, .ref oc), (1, .int (nI act)), (2, .int y), (3, .int x), (4, .ref ((ab 0))), (5, .ref ((ab 1))), (6, .ref ((ab 2))), (7, .ref ((ab 3))), (8, .ref ((ab 4))), (9, .ref ((ab 5))), (10, .ref ((ab 6))), (11, .ref ((ab 7)))]) hx hb dL_drafts_404 hl (by decide) rfl (fun ls hl => ?_)
                      refine lv_iload hx hb dL_drafts_406 (lv_at hl 2 rfl) ?_
                      refine lv_iload hx hb dL_drafts_408 (lv_at hl 0 rfl) ?_
                      refine lv_ishr hx hb dL_drafts_410 ?_
                      refine to_i (y := nI (it / 64)) (pk_shrN (by omega) _ 6 (by decide)) ?_
                      refine lv_iconst (v := nI 3) hx hb dL_drafts_411 (by decide) ?_
                      refine lv_iand hx hb dL_drafts_412 ?_
                      refine to_i (y := nI ((it / 64) % 4)) (pk_andN (by omega) 2 (by decide)) ?_
                      refine to_i (y := nI m1) (congrArg nI (by omega)) ?_
                      refine lv_istore (lv' := [(19, .int (nI m1)), (18, .int (nI 6)), (17, .int (nI 1)), (16, .int (nI it)), (15, .int (nI ((6 * ci) + cl))), (14, .int (nI cl)), (13, .int (nI 1)), (12, .int (nI ci)), (0, .ref oc), (1, .int (nI act)), (2, .int y), (3, .int x), (4, .ref ((ab 0))), (5, .ref ((ab 1))), (6, .ref ((ab 2))), (7, .ref ((ab 3))), (8, .ref ((ab 4))), (9, .ref ((ab 5))), (10, .ref ((ab 6))), (11, .ref ((ab 7)))]) hx hb dL_drafts_413 hl (by decide) rfl (fun ls hl => ?_)
                      refine lv_iload hx hb dL_drafts_415 (lv_at hl 3 rfl) ?_
                      refine n_if_ne (tgt := 428) hx hb dL_drafts_417 (by decide) (by omega) (fun _ => ?_) (fun h9 => absurd h9 c_23)
                      refine lv_iload hx hb dL_drafts_428 (lv_at hl 3 rfl) ?_
                      refine lv_istore (lv' := [(16, .int (nI it)), (19, .int (nI m1)), (18, .int (nI 6)), (17, .int (nI 1)), (15, .int (nI ((6 * ci) + cl))), (14, .int (nI cl)), (13, .int (nI 1)), (12, .int (nI ci)), (0, .ref oc), (1, .int (nI act)), (2, .int y), (3, .int x), (4, .ref ((ab 0))), (5, .ref ((ab 1))), (6, .ref ((ab 2))), (7, .ref ((ab 3))), (8, .ref ((ab 4))), (9, .ref ((ab 5))), (10, .ref ((ab 6))), (11, .ref ((ab 7)))]) hx hb dL_drafts_430 hl (by decide) rfl (fun ls hl => ?_)
                      refine lv_iload hx hb dL_drafts_432 (lv_at hl 0 rfl) ?_
                      refine lv_iconst (v := nI 3) hx hb dL_drafts_434 (by decide) ?_
                      refine lv_iload hx hb dL_drafts_435 (lv_at hl 2 rfl) ?_
                      refine lv_ishl hx hb dL_drafts_437 ?_
                      refine lv_iconst (v := -1) hx hb dL_drafts_438 (by decide) ?_
                      refine lv_ixor hx hb dL_drafts_439 ?_
                      refine lv_iand hx hb dL_drafts_440 ?_
                      refine lv_iload hx hb dL_drafts_441 (lv_at hl 3 rfl) ?_
                      refine lv_iload hx hb dL_drafts_443 (lv_at hl 2 rfl) ?_
                      refine lv_ishl hx hb dL_drafts_445 ?_
                      refine lv_ior hx hb dL_drafts_446 ?_
                      refine to_i (y := nI (N 2 ci cl + 16 * m0 + 64 * 1)) (bt_1 (v := N 2 ci cl) (m0 := m0) (m1 := m1) (mk := 1) (by omega) (by omega) (by omega) (by omega) (by omega)) ?_
                      refine lv_istore (lv' := [(16, .int (nI (N 2 ci cl + 16 * m0 + 64 * 1))), (19, .int (nI m1)), (18, .int (nI 6)), (17, .int (nI 1)), (15, .int (nI ((6 * ci) + cl))), (14, .int (nI cl)), (13, .int (nI 1)), (12, .int (nI ci)), (0, .ref oc), (1, .int (nI act)), (2, .int y), (3, .int x), (4, .ref ((ab 0))), (5, .ref ((ab 1))), (6, .ref ((ab 2))), (7, .ref ((ab 3))), (8, .ref ((ab 4))), (9, .ref ((ab 5))), (10, .ref ((ab 6))), (11, .ref ((ab 7)))]) hx hb dL_drafts_447 hl (by decide) rfl (fun ls hl => ?_)
                      refine lv_iload hx hb dL_drafts_449 (lv_at hl 0 rfl) ?_
                      refine lv_iconst (v := nI 4) hx hb dL_drafts_451 (by decide) ?_
                      refine lv_ishr hx hb dL_drafts_452 ?_
                      refine to_i (y := nI ((N 2 ci cl + 16 * m0 + 64 * 1) / 16)) (pk_shrN (by omega) _ 4 (by decide)) ?_
                      refine to_i (y := nI (m0 + 4 * 1)) (congrArg nI (by omega)) ?_
                      refine lv_istore (lv' := [(20, .int (nI (m0 + 4 * 1))), (16, .int (nI (N 2 ci cl + 16 * m0 + 64 * 1))), (19, .int (nI m1)), (18, .int (nI 6)), (17, .int (nI 1)), (15, .int (nI ((6 * ci) + cl))), (14, .int (nI cl)), (13, .int (nI 1)), (12, .int (nI ci)), (0, .ref oc), (1, .int (nI act)), (2, .int y), (3, .int x), (4, .ref ((ab 0))), (5, .ref ((ab 1))), (6, .ref ((ab 2))), (7, .ref ((ab 3))), (8, .ref ((ab 4))), (9, .ref ((ab 5))), (10, .ref ((ab 6))), (11, .ref ((ab 7)))]) hx hb dL_drafts_453 hl (by decide) rfl (fun ls hl => ?_)
                      refine lv_iload hx hb dL_drafts_455 (lv_at hl 2 rfl) ?_
                      refine lv_iload hx hb dL_drafts_457 (lv_at hl 4 rfl) ?_
                      refine n_eq (tgt := 468) hx hb dL_drafts_459 (by decide) (by omega) (by omega) (fun c_49 => ?_) (fun c_49 => ?_)
                      · refine lv_aload hx hb dL_drafts_468 (lv_at hl 16 rfl) ?_
                        refine lv_iload hx hb dL_drafts_470 (lv_at hl 5 rfl) ?_
                        refine lv_iload hx hb dL_drafts_472 (lv_at hl 0 rfl) ?_
                        refine lv_bipush (v := nI 10) hx hb dL_drafts_474 (by decide) ?_
                        refine n_eq (tgt := 492) hx hb dL_drafts_476 (by decide) (by omega) (by omega) (fun c_50 => ?_) (fun c_50 => ?_)
                        · refine lv_iconst (v := nI 0) hx hb dL_drafts_492 (by decide) ?_
                          refine lv_goto (tgt := 498) hx hb dL_drafts_493 (by decide) ?_
                          refine x_iast (f := fun j => nI (Y 3 j)) hx hb hK hP hD hS (_ + 3) 0 (app_r rfl) rfl (t := (6 * ci) + cl) (x := nI 0) (by omega) (by decide) dL_drafts_498 (fun H locs hP hD hS => ?_)
                          rw [app_setr, upd_nI] at hP hD
                          have hP : va_P (dC, dI) vwCl (cw cy e0 ad L S N ++ yw ab cy (va_up Y 3 (va_up (Y 3) ((6 * ci) + cl) 0)) t D a b) H := hP
                          have hD : va_D A (cw cy e0 ad L S N ++ yw ab cy (va_up Y 3 (va_up (Y 3) ((6 * ci) + cl) 0)) t D a b) := hD
                          refine lv_aload_n hx hb dL_drafts_499 rfl (lv_at hl 9 rfl) ?_
                          refine lv_iload hx hb dL_drafts_500 (lv_at hl 8 rfl) ?_
                          refine lv_iload hx hb dL_drafts_502 (lv_at hl 7 rfl) ?_
                          refine lv_iload hx hb dL_drafts_504 (lv_at hl 6 rfl) ?_
                          refine lv_iload hx hb dL_drafts_506 (lv_at hl 4 rfl) ?_
                          refine callY_i hP (vx_runSW (As := [.ref oc, .int (nI ci), .int (nI 1), .int (nI cl), .int (nI 1)]) (rest := []) ⟨hx, hb, hml, hown, hts⟩ (qL_mark l dC dI cy e0 mi oc ad L S N H.size (nI ci) (nI 1) (nI cl) (nI 1) hI hX hst hoc) (vx_cwSW 5 hts gL_drafts_L_mark rfl rfl rfl (by decide +kernel) ⟨Nat.le_of_ble_eq_true rfl, Nat.le_of_ble_eq_true rfl⟩) (preLS hK (w_leftP hP) (w_leftD hD) hS hA ham) rfl rfl hl.1 rfl (lv_room (Nat.le_of_ble_eq_true rfl)) dL_drafts_508 ⟨Nat.le_of_ble_eq_true rfl, Nat.le_of_ble_eq_true rfl⟩) hD hS hA (fun rr uc H locs hw hP hD hS => ?_)
                          rw [eci] at hw
                          rw [ecl] at hw
                          rw [ix_nI (show (1 : Nat) < 2 ^ 31 by decide)] at hw
                          rw [if_neg hz] at hw
                          rw [if_neg hz] at hw
                          obtain ⟨er, ad, L, rfl, hI, hX, hoc⟩ := lres_n0 hw ((if_pos (ct_in (by omega) (by omega))).trans ((if_pos ⟨by decide, cl_in (by omega), by decide⟩).trans (if_pos (by rw [eci, ecl]; exact ⟨hdr.mpr c_22, fun q => hz q.1⟩))))
                          have hP : va_P (dC, dI) vwCl (cwT cy e0 (ad, L, K_change S N ci 1 cl (nI 1)) ++ yw ab cy (va_up Y 3 (va_up (Y 3) ((6 * ci) + cl) 0)) t D a b) H := hP
                          have hD : va_D A (cwT cy e0 (ad, L, K_change S N ci 1 cl (nI 1)) ++ yw ab cy (va_up Y 3 (va_up (Y 3) ((6 * ci) + cl) 0)) t D a b) := hD
                          refine to_i (y := nI m1) (er.trans (e5)) ?_
                          refine lv_iload hx hb dL_drafts_511 (lv_at hl 2 rfl) ?_
                          refine lv_icmp_ne (tgt := 520) hx hb dL_drafts_513 (by decide) (fun h9 => absurd rfl h9) (fun _ => ?_)
                          refine lv_iconst (v := nI 1) hx hb dL_drafts_516 (by decide) ?_
                          refine lv_goto (tgt := 521) hx hb dL_drafts_517 (by decide) ?_
                          rw [← hQQ]; exact end_z (u := ((ad, L, K_change S N ci 1 cl (nI 1)), (va_up Y 3 (va_up (Y 3) ((6 * ci) + cl) 0), t, D, a, b))) hx hb hr hlocks dL_drafts_521 hK hP hD hS (by rfl) (by exfalso; omega) (Nat.le_of_ble_eq_true rfl) (Nat.le_of_ble_eq_true rfl)
                        · refine lv_iload hx hb dL_drafts_479 (lv_at hl 0 rfl) ?_
                          refine lv_iconst (v := nI 2) hx hb dL_drafts_481 (by decide) ?_
                          refine n_eq (tgt := 492) hx hb dL_drafts_482 (by decide) (by omega) (by omega) (fun c_51 => ?_) (fun c_51 => ?_)
                          · refine lv_iconst (v := nI 0) hx hb dL_drafts_492 (by decide) ?_
                            refine lv_goto (tgt := 498) hx hb dL_drafts_493 (by decide) ?_
                            refine x_iast (f := fun j => nI (Y 3 j)) hx hb hK hP hD hS (_ + 3) 0 (app_r rfl) rfl (t := (6 * ci) + cl) (x := nI 0) (by omega) (by decide) dL_drafts_498 (fun H locs hP hD hS => ?_)
                            rw [app_setr, upd_nI] at hP hD
                            have hP : va_P (dC, dI) vwCl (cw cy e0 ad L S N ++ yw ab cy (va_up Y 3 (va_up (Y 3) ((6 * ci) + cl) 0)) t D a b) H := hP
                            have hD : va_D A (cw cy e0 ad L S N ++ yw ab cy (va_up Y 3 (va_up (Y 3) ((6 * ci) + cl) 0)) t D a b) := hD
                            refine lv_aload_n hx hb dL_drafts_499 rfl (lv_at hl 9 rfl) ?_
                            refine lv_iload hx hb dL_drafts_500 (lv_at hl 8 rfl) ?_
                            refine lv_iload hx hb dL_drafts_502 (lv_at hl 7 rfl) ?_
                            refine lv_iload hx hb dL_drafts_504 (lv_at hl 6 rfl) ?_
                            refine lv_iload hx hb dL_drafts_506 (lv_at hl 4 rfl) ?_
                            refine callY_i hP (vx_runSW (As := [.ref oc, .int (nI ci), .int (nI 1), .int (nI cl), .int (nI 1)]) (rest := []) ⟨hx, hb, hml, hown, hts⟩ (qL_mark l dC dI cy e0 mi oc ad L S N H.size (nI ci) (nI 1) (nI cl) (nI 1) hI hX hst hoc) (vx_cwSW 5 hts gL_drafts_L_mark rfl rfl rfl (by decide +kernel) ⟨Nat.le_of_ble_eq_true rfl, Nat.le_of_ble_eq_true rfl⟩) (preLS hK (w_leftP hP) (w_leftD hD) hS hA ham) rfl rfl hl.1 rfl (lv_room (Nat.le_of_ble_eq_true rfl)) dL_drafts_508 ⟨Nat.le_of_ble_eq_true rfl, Nat.le_of_ble_eq_true rfl⟩) hD hS hA (fun rr uc H locs hw hP hD hS => ?_)
                            rw [eci] at hw
                            rw [ecl] at hw
                            rw [ix_nI (show (1 : Nat) < 2 ^ 31 by decide)] at hw
                            rw [if_neg hz] at hw
                            rw [if_neg hz] at hw
                            obtain ⟨er, ad, L, rfl, hI, hX, hoc⟩ := lres_n0 hw ((if_pos (ct_in (by omega) (by omega))).trans ((if_pos ⟨by decide, cl_in (by omega), by decide⟩).trans (if_pos (by rw [eci, ecl]; exact ⟨hdr.mpr c_22, fun q => hz q.1⟩))))
                            have hP : va_P (dC, dI) vwCl (cwT cy e0 (ad, L, K_change S N ci 1 cl (nI 1)) ++ yw ab cy (va_up Y 3 (va_up (Y 3) ((6 * ci) + cl) 0)) t D a b) H := hP
                            have hD : va_D A (cwT cy e0 (ad, L, K_change S N ci 1 cl (nI 1)) ++ yw ab cy (va_up Y 3 (va_up (Y 3) ((6 * ci) + cl) 0)) t D a b) := hD
                            refine to_i (y := nI m1) (er.trans (e5)) ?_
                            refine lv_iload hx hb dL_drafts_511 (lv_at hl 2 rfl) ?_
                            refine lv_icmp_ne (tgt := 520) hx hb dL_drafts_513 (by decide) (fun h9 => absurd rfl h9) (fun _ => ?_)
                            refine lv_iconst (v := nI 1) hx hb dL_drafts_516 (by decide) ?_
                            refine lv_goto (tgt := 521) hx hb dL_drafts_517 (by decide) ?_
                            rw [← hQQ]; exact end_z (u := ((ad, L, K_change S N ci 1 cl (nI 1)), (va_up Y 3 (va_up (Y 3) ((6 * ci) + cl) 0), t, D, a, b))) hx hb hr hlocks dL_drafts_521 hK hP hD hS (by rfl) (by exfalso; omega) (Nat.le_of_ble_eq_true rfl) (Nat.le_of_ble_eq_true rfl)
                          · refine lv_iload hx hb dL_drafts_485 (lv_at hl 0 rfl) ?_
                            refine lv_bipush (v := nI 8) hx hb dL_drafts_487 (by decide) ?_
                            refine n_ne (tgt := 496) hx hb dL_drafts_489 (by decide) (by omega) (by omega) (fun c_52 => ?_) (fun c_52 => ?_)
                            · refine lv_iload hx hb dL_drafts_496 (lv_at hl 1 rfl) ?_
                              refine x_iast (f := fun j => nI (Y 3 j)) hx hb hK hP hD hS (_ + 3) 0 (app_r rfl) rfl (t := (6 * ci) + cl) (x := nI (N 2 ci cl + 16 * m0 + 64 * 1)) (by omega) (by decide) dL_drafts_498 (fun H locs hP hD hS => ?_)
                              rw [app_setr, upd_nI] at hP hD
                              have hP : va_P (dC, dI) vwCl (cw cy e0 ad L S N ++ yw ab cy (va_up Y 3 (va_up (Y 3) ((6 * ci) + cl) (N 2 ci cl + 16 * m0 + 64 * 1))) t D a b) H := hP
                              have hD : va_D A (cw cy e0 ad L S N ++ yw ab cy (va_up Y 3 (va_up (Y 3) ((6 * ci) + cl) (N 2 ci cl + 16 * m0 + 64 * 1))) t D a b) := hD
                              refine lv_aload_n hx hb dL_drafts_499 rfl (lv_at hl 9 rfl) ?_
                              refine lv_iload hx hb dL_drafts_500 (lv_at hl 8 rfl) ?_
                              refine lv_iload hx hb dL_drafts_502 (lv_at hl 7 rfl) ?_
                              refine lv_iload hx hb dL_drafts_504 (lv_at hl 6 rfl) ?_
                              refine lv_iload hx hb dL_drafts_506 (lv_at hl 4 rfl) ?_
                              refine callY_i hP (vx_runSW (As := [.ref oc, .int (nI ci), .int (nI 1), .int (nI cl), .int (nI 1)]) (rest := []) ⟨hx, hb, hml, hown, hts⟩ (qL_mark l dC dI cy e0 mi oc ad L S N H.size (nI ci) (nI 1) (nI cl) (nI 1) hI hX hst hoc) (vx_cwSW 5 hts gL_drafts_L_mark rfl rfl rfl (by decide +kernel) ⟨Nat.le_of_ble_eq_true rfl, Nat.le_of_ble_eq_true rfl⟩) (preLS hK (w_leftP hP) (w_leftD hD) hS hA ham) rfl rfl hl.1 rfl (lv_room (Nat.le_of_ble_eq_true rfl)) dL_drafts_508 ⟨Nat.le_of_ble_eq_true rfl, Nat.le_of_ble_eq_true rfl⟩) hD hS hA (fun rr uc H locs hw hP hD hS => ?_)
                              rw [eci] at hw
                              rw [ecl] at hw
                              rw [ix_nI (show (1 : Nat) < 2 ^ 31 by decide)] at hw
                              rw [if_neg hz] at hw
                              rw [if_neg hz] at hw
                              obtain ⟨er, ad, L, rfl, hI, hX, hoc⟩ := lres_n0 hw ((if_pos (ct_in (by omega) (by omega))).trans ((if_pos ⟨by decide, cl_in (by omega), by decide⟩).trans (if_pos (by rw [eci, ecl]; exact ⟨hdr.mpr c_22, fun q => hz q.1⟩))))
                              have hP : va_P (dC, dI) vwCl (cwT cy e0 (ad, L, K_change S N ci 1 cl (nI 1)) ++ yw ab cy (va_up Y 3 (va_up (Y 3) ((6 * ci) + cl) (N 2 ci cl + 16 * m0 + 64 * 1))) t D a b) H := hP
                              have hD : va_D A (cwT cy e0 (ad, L, K_change S N ci 1 cl (nI 1)) ++ yw ab cy (va_up Y 3 (va_up (Y 3) ((6 * ci) + cl) (N 2 ci cl + 16 * m0 + 64 * 1))) t D a b) := hD
                              refine to_i (y := nI m1) (er.trans (e5)) ?_
                              refine lv_iload hx hb dL_drafts_511 (lv_at hl 2 rfl) ?_
                              refine lv_icmp_ne (tgt := 520) hx hb dL_drafts_513 (by decide) (fun h9 => absurd rfl h9) (fun _ => ?_)
                              refine lv_iconst (v := nI 1) hx hb dL_drafts_516 (by decide) ?_
                              refine lv_goto (tgt := 521) hx hb dL_drafts_517 (by decide) ?_
                              have eKC : K_change S N ci 1 cl (nI 1) = (S, N) := if_pos (e5.trans (congrArg nI (by omega)))
                              have eYY := Y_id (show N 2 ci cl + 16 * m0 + 64 * 1 = Y 3 (6 * ci + cl) by omega)
                              rw [← hQQ]; exact end_z (u := ((ad, L, K_change S N ci 1 cl (nI 1)), (va_up Y 3 (va_up (Y 3) ((6 * ci) + cl) (N 2 ci cl + 16 * m0 + 64 * 1)), t, D, a, b))) hx hb hr hlocks dL_drafts_521 hK hP hD hS (by rfl) ⟨rfl, ⟨hI, hX⟩, hoc, (by show RZ (K_change S N ci 1 cl (nI 1)).1 (K_change S N ci 1 cl (nI 1)).2 _ _ _ _ _; rw [eKC, eYY]; exact hR)⟩ (Nat.le_of_ble_eq_true rfl) (Nat.le_of_ble_eq_true rfl)
                            · refine lv_iconst (v := nI 0) hx hb dL_drafts_492 (by decide) ?_
                              refine lv_goto (tgt := 498) hx hb dL_drafts_493 (by decide) ?_
                              refine x_iast (f := fun j => nI (Y 3 j)) hx hb hK hP hD hS (_ + 3) 0 (app_r rfl) rfl (t := (6 * ci) + cl) (x := nI 0) (by omega) (by decide) dL_drafts_498 (fun H locs hP hD hS => ?_)
                              rw [app_setr, upd_nI] at hP hD
                              have hP : va_P (dC, dI) vwCl (cw cy e0 ad L S N ++ yw ab cy (va_up Y 3 (va_up (Y 3) ((6 * ci) + cl) 0)) t D a b) H := hP
                              have hD : va_D A (cw cy e0 ad L S N ++ yw ab cy (va_up Y 3 (va_up (Y 3) ((6 * ci) + cl) 0)) t D a b) := hD
                              refine lv_aload_n hx hb dL_drafts_499 rfl (lv_at hl 9 rfl) ?_
                              refine lv_iload hx hb dL_drafts_500 (lv_at hl 8 rfl) ?_
                              refine lv_iload hx hb dL_drafts_502 (lv_at hl 7 rfl) ?_
                              refine lv_iload hx hb dL_drafts_504 (lv_at hl 6 rfl) ?_
                              refine lv_iload hx hb dL_drafts_506 (lv_at hl 4 rfl) ?_
                              refine callY_i hP (vx_runSW (As := [.ref oc, .int (nI ci), .int (nI 1), .int (nI cl), .int (nI 1)]) (rest := []) ⟨hx, hb, hml, hown, hts⟩ (qL_mark l dC dI cy e0 mi oc ad L S N H.size (nI ci) (nI 1) (nI cl) (nI 1) hI hX hst hoc) (vx_cwSW 5 hts gL_drafts_L_mark rfl rfl rfl (by decide +kernel) ⟨Nat.le_of_ble_eq_true rfl, Nat.le_of_ble_eq_true rfl⟩) (preLS hK (w_leftP hP) (w_leftD hD) hS hA ham) rfl rfl hl.1 rfl (lv_room (Nat.le_of_ble_eq_true rfl)) dL_drafts_508 ⟨Nat.le_of_ble_eq_true rfl, Nat.le_of_ble_eq_true rfl⟩) hD hS hA (fun rr uc H locs hw hP hD hS => ?_)
                              rw [eci] at hw
                              rw [ecl] at hw
                              rw [ix_nI (show (1 : Nat) < 2 ^ 31 by decide)] at hw
                              rw [if_neg hz] at hw
                              rw [if_neg hz] at hw
                              obtain ⟨er, ad, L, rfl, hI, hX, hoc⟩ := lres_n0 hw ((if_pos (ct_in (by omega) (by omega))).trans ((if_pos ⟨by decide, cl_in (by omega), by decide⟩).trans (if_pos (by rw [eci, ecl]; exact ⟨hdr.mpr c_22, fun q => hz q.1⟩))))
                              have hP : va_P (dC, dI) vwCl (cwT cy e0 (ad, L, K_change S N ci 1 cl (nI 1)) ++ yw ab cy (va_up Y 3 (va_up (Y 3) ((6 * ci) + cl) 0)) t D a b) H := hP
                              have hD : va_D A (cwT cy e0 (ad, L, K_change S N ci 1 cl (nI 1)) ++ yw ab cy (va_up Y 3 (va_up (Y 3) ((6 * ci) + cl) 0)) t D a b) := hD
                              refine to_i (y := nI m1) (er.trans (e5)) ?_
                              refine lv_iload hx hb dL_drafts_511 (lv_at hl 2 rfl) ?_
                              refine lv_icmp_ne (tgt := 520) hx hb dL_drafts_513 (by decide) (fun h9 => absurd rfl h9) (fun _ => ?_)
                              refine lv_iconst (v := nI 1) hx hb dL_drafts_516 (by decide) ?_
                              refine lv_goto (tgt := 521) hx hb dL_drafts_517 (by decide) ?_
                              rw [← hQQ]; exact end_z (u := ((ad, L, K_change S N ci 1 cl (nI 1)), (va_up Y 3 (va_up (Y 3) ((6 * ci) + cl) 0), t, D, a, b))) hx hb hr hlocks dL_drafts_521 hK hP hD hS (by rfl) (by exfalso; omega) (Nat.le_of_ble_eq_true rfl) (Nat.le_of_ble_eq_true rfl)
                      · refine lv_aload hx hb dL_drafts_462 (lv_at hl 17 rfl) ?_
                        refine lv_iload hx hb dL_drafts_464 (lv_at hl 8 rfl) ?_
                        refine lv_iconst (v := nI 0) hx hb dL_drafts_466 (by decide) ?_
                        refine x_iast (f := fun j => nI (Y 4 j)) hx hb hK hP hD hS (_ + 4) 0 (app_r rfl) rfl (t := ci) (x := nI 0) (by omega) (by decide) dL_drafts_467 (fun H locs hP hD hS => ?_)
                        rw [app_setr, upd_nI] at hP hD
                        have hP : va_P (dC, dI) vwCl (cw cy e0 ad L S N ++ yw ab cy (va_up Y 4 (va_up (Y 4) ci 0)) t D a b) H := hP
                        have hD : va_D A (cw cy e0 ad L S N ++ yw ab cy (va_up Y 4 (va_up (Y 4) ci 0)) t D a b) := hD
                        refine lv_aload hx hb dL_drafts_468 (lv_at hl 16 rfl) ?_
                        refine lv_iload hx hb dL_drafts_470 (lv_at hl 5 rfl) ?_
                        refine lv_iload hx hb dL_drafts_472 (lv_at hl 0 rfl) ?_
                        refine lv_bipush (v := nI 10) hx hb dL_drafts_474 (by decide) ?_
                        refine n_eq (tgt := 492) hx hb dL_drafts_476 (by decide) (by omega) (by omega) (fun c_53 => ?_) (fun c_53 => ?_)
                        · refine lv_iconst (v := nI 0) hx hb dL_drafts_492 (by decide) ?_
                          refine lv_goto (tgt := 498) hx hb dL_drafts_493 (by decide) ?_
                          refine x_iast (f := fun j => nI ((va_up Y 4 (va_up (Y 4) ci 0)) 3 j)) hx hb hK hP hD hS (_ + 3) 0 (app_r rfl) rfl (t := (6 * ci) + cl) (x := nI 0) (by omega) (by decide) dL_drafts_498 (fun H locs hP hD hS => ?_)
                          rw [app_setr, upd_nI] at hP hD
                          have hP : va_P (dC, dI) vwCl (cw cy e0 ad L S N ++ yw ab cy (va_up (va_up Y 4 (va_up (Y 4) ci 0)) 3 (va_up ((va_up Y 4 (va_up (Y 4) ci 0)) 3) ((6 * ci) + cl) 0)) t D a b) H := hP
                          have hD : va_D A (cw cy e0 ad L S N ++ yw ab cy (va_up (va_up Y 4 (va_up (Y 4) ci 0)) 3 (va_up ((va_up Y 4 (va_up (Y 4) ci 0)) 3) ((6 * ci) + cl) 0)) t D a b) := hD
                          refine lv_aload_n hx hb dL_drafts_499 rfl (lv_at hl 9 rfl) ?_
                          refine lv_iload hx hb dL_drafts_500 (lv_at hl 8 rfl) ?_
                          refine lv_iload hx hb dL_drafts_502 (lv_at hl 7 rfl) ?_
                          refine lv_iload hx hb dL_drafts_504 (lv_at hl 6 rfl) ?_
                          refine lv_iload hx hb dL_drafts_506 (lv_at hl 4 rfl) ?_
                          refine callY_i hP (vx_runSW (As := [.ref oc, .int (nI ci), .int (nI 1), .int (nI cl), .int (nI 1)]) (rest := []) ⟨hx, hb, hml, hown, hts⟩ (qL_mark l dC dI cy e0 mi oc ad L S N H.size (nI ci) (nI 1) (nI cl) (nI 1) hI hX hst hoc) (vx_cwSW 5 hts gL_drafts_L_mark rfl rfl rfl (by decide +kernel) ⟨Nat.le_of_ble_eq_true rfl, Nat.le_of_ble_eq_true rfl⟩) (preLS hK (w_leftP hP) (w_leftD hD) hS hA ham) rfl rfl hl.1 rfl (lv_room (Nat.le_of_ble_eq_true rfl)) dL_drafts_508 ⟨Nat.le_of_ble_eq_true rfl, Nat.le_of_ble_eq_true rfl⟩) hD hS hA (fun rr uc H locs hw hP hD hS => ?_)
                          rw [eci] at hw
                          rw [ecl] at hw
                          rw [ix_nI (show (1 : Nat) < 2 ^ 31 by decide)] at hw
                          rw [if_neg hz] at hw
                          rw [if_neg hz] at hw
                          obtain ⟨er, ad, L, rfl, hI, hX, hoc⟩ := lres_n0 hw ((if_pos (ct_in (by omega) (by omega))).trans ((if_pos ⟨by decide, cl_in (by omega), by decide⟩).trans (if_pos (by rw [eci, ecl]; exact ⟨hdr.mpr c_22, fun q => hz q.1⟩))))
                          have hP : va_P (dC, dI) vwCl (cwT cy e0 (ad, L, K_change S N ci 1 cl (nI 1)) ++ yw ab cy (va_up (va_up Y 4 (va_up (Y 4) ci 0)) 3 (va_up ((va_up Y 4 (va_up (Y 4) ci 0)) 3) ((6 * ci) + cl) 0)) t D a b) H := hP
                          have hD : va_D A (cwT cy e0 (ad, L, K_change S N ci 1 cl (nI 1)) ++ yw ab cy (va_up (va_up Y 4 (va_up (Y 4) ci 0)) 3 (va_up ((va_up Y 4 (va_up (Y 4) ci 0)) 3) ((6 * ci) + cl) 0)) t D a b) := hD
                          refine to_i (y := nI m1) (er.trans (e5)) ?_
                          refine lv_iload hx hb dL_drafts_511 (lv_at hl 2 rfl) ?_
                          refine lv_icmp_ne (tgt := 520) hx hb dL_drafts_513 (by decide) (fun h9 => absurd rfl h9) (fun _ => ?_)
                          refine lv_iconst (v := nI 1) hx hb dL_drafts_516 (by decide) ?_
                          refine lv_goto (tgt := 521) hx hb dL_drafts_517 (by decide) ?_
                          obtain ⟨p1, p2, p3, p4, p5⟩ := yz1 Y ci (6 * ci + cl) 0
                          rw [← hQQ]; exact end_z (u := ((ad, L, K_change S N ci 1 cl (nI 1)), (va_up (va_up Y 4 (va_up (Y 4) ci 0)) 3 (va_up ((va_up Y 4 (va_up (Y 4) ci 0)) 3) ((6 * ci) + cl) 0), t, D, a, b))) hx hb hr hlocks dL_drafts_521 hK hP hD hS (by rfl) ⟨rfl, ⟨hI, hX⟩, hoc, (by show RZ (K_change S N ci 1 cl (nI 1)).1 (K_change S N ci 1 cl (nI 1)).2 _ _ _ _ _; exact rz_change (sd := 1) (mk := 1) (m0 := m0) (m1 := 1) hR (by omega) (by omega) hcl6 (hdr.mpr c_22) (by decide) hz (by decide) (fun q => c_49 ((nI_inj (by omega) (by decide)).mp (e5.symm.trans q))) (by rw [if_neg (by decide), e4, ix_nI (by omega)]) (by rw [if_neg (by decide)]) p1 p2 (p3.trans (by rw [if_neg (by omega)])) p4 p5 (zY_up (zY_up hYb _ _ (by decide)) _ _ (by omega)))⟩ (Nat.le_of_ble_eq_true rfl) (Nat.le_of_ble_eq_true rfl)
                        · refine lv_iload hx hb dL_drafts_479 (lv_at hl 0 rfl) ?_
                          refine lv_iconst (v := nI 2) hx hb dL_drafts_481 (by decide) ?_
                          refine n_eq (tgt := 492) hx hb dL_drafts_482 (by decide) (by omega) (by omega) (fun c_54 => ?_) (fun c_54 => ?_)
                          · refine lv_iconst (v := nI 0) hx hb dL_drafts_492 (by decide) ?_
                            refine lv_goto (tgt := 498) hx hb dL_drafts_493 (by decide) ?_
                            refine x_iast (f := fun j => nI ((va_up Y 4 (va_up (Y 4) ci 0)) 3 j)) hx hb hK hP hD hS (_ + 3) 0 (app_r rfl) rfl (t := (6 * ci) + cl) (x := nI 0) (by omega) (by decide) dL_drafts_498 (fun H locs hP hD hS => ?_)
                            rw [app_setr, upd_nI] at hP hD
                            have hP : va_P (dC, dI) vwCl (cw cy e0 ad L S N ++ yw ab cy (va_up (va_up Y 4 (va_up (Y 4) ci 0)) 3 (va_up ((va_up Y 4 (va_up (Y 4) ci 0)) 3) ((6 * ci) + cl) 0)) t D a b) H := hP
                            have hD : va_D A (cw cy e0 ad L S N ++ yw ab cy (va_up (va_up Y 4 (va_up (Y 4) ci 0)) 3 (va_up ((va_up Y 4 (va_up (Y 4) ci 0)) 3) ((6 * ci) + cl) 0)) t D a b) := hD
                            refine lv_aload_n hx hb dL_drafts_499 rfl (lv_at hl 9 rfl) ?_
                            refine lv_iload hx hb dL_drafts_500 (lv_at hl 8 rfl) ?_
                            refine lv_iload hx hb dL_drafts_502 (lv_at hl 7 rfl) ?_
                            refine lv_iload hx hb dL_drafts_504 (lv_at hl 6 rfl) ?_
                            refine lv_iload hx hb dL_drafts_506 (lv_at hl 4 rfl) ?_
                            refine callY_i hP (vx_runSW (As := [.ref oc, .int (nI ci), .int (nI 1), .int (nI cl), .int (nI 1)]) (rest := []) ⟨hx, hb, hml, hown, hts⟩ (qL_mark l dC dI cy e0 mi oc ad L S N H.size (nI ci) (nI 1) (nI cl) (nI 1) hI hX hst hoc) (vx_cwSW 5 hts gL_drafts_L_mark rfl rfl rfl (by decide +kernel) ⟨Nat.le_of_ble_eq_true rfl, Nat.le_of_ble_eq_true rfl⟩) (preLS hK (w_leftP hP) (w_leftD hD) hS hA ham) rfl rfl hl.1 rfl (lv_room (Nat.le_of_ble_eq_true rfl)) dL_drafts_508 ⟨Nat.le_of_ble_eq_true rfl, Nat.le_of_ble_eq_true rfl⟩) hD hS hA (fun rr uc H locs hw hP hD hS => ?_)
                            rw [eci] at hw
                            rw [ecl] at hw
                            rw [ix_nI (show (1 : Nat) < 2 ^ 31 by decide)] at hw
                            rw [if_neg hz] at hw
                            rw [if_neg hz] at hw
                            obtain ⟨er, ad, L, rfl, hI, hX, hoc⟩ := lres_n0 hw ((if_pos (ct_in (by omega) (by omega))).trans ((if_pos ⟨by decide, cl_in (by omega), by decide⟩).trans (if_pos (by rw [eci, ecl]; exact ⟨hdr.mpr c_22, fun q => hz q.1⟩))))
                            have hP : va_P (dC, dI) vwCl (cwT cy e0 (ad, L, K_change S N ci 1 cl (nI 1)) ++ yw ab cy (va_up (va_up Y 4 (va_up (Y 4) ci 0)) 3 (va_up ((va_up Y 4 (va_up (Y 4) ci 0)) 3) ((6 * ci) + cl) 0)) t D a b) H := hP
                            have hD : va_D A (cwT cy e0 (ad, L, K_change S N ci 1 cl (nI 1)) ++ yw ab cy (va_up (va_up Y 4 (va_up (Y 4) ci 0)) 3 (va_up ((va_up Y 4 (va_up (Y 4) ci 0)) 3) ((6 * ci) + cl) 0)) t D a b) := hD
                            refine to_i (y := nI m1) (er.trans (e5)) ?_
                            refine lv_iload hx hb dL_drafts_511 (lv_at hl 2 rfl) ?_
                            refine lv_icmp_ne (tgt := 520) hx hb dL_drafts_513 (by decide) (fun h9 => absurd rfl h9) (fun _ => ?_)
                            refine lv_iconst (v := nI 1) hx hb dL_drafts_516 (by decide) ?_
                            refine lv_goto (tgt := 521) hx hb dL_drafts_517 (by decide) ?_
                            obtain ⟨p1, p2, p3, p4, p5⟩ := yz1 Y ci (6 * ci + cl) 0
                            rw [← hQQ]; exact end_z (u := ((ad, L, K_change S N ci 1 cl (nI 1)), (va_up (va_up Y 4 (va_up (Y 4) ci 0)) 3 (va_up ((va_up Y 4 (va_up (Y 4) ci 0)) 3) ((6 * ci) + cl) 0), t, D, a, b))) hx hb hr hlocks dL_drafts_521 hK hP hD hS (by rfl) ⟨rfl, ⟨hI, hX⟩, hoc, (by show RZ (K_change S N ci 1 cl (nI 1)).1 (K_change S N ci 1 cl (nI 1)).2 _ _ _ _ _; exact rz_change (sd := 1) (mk := 1) (m0 := m0) (m1 := 1) hR (by omega) (by omega) hcl6 (hdr.mpr c_22) (by decide) hz (by decide) (fun q => c_49 ((nI_inj (by omega) (by decide)).mp (e5.symm.trans q))) (by rw [if_neg (by decide), e4, ix_nI (by omega)]) (by rw [if_neg (by decide)]) p1 p2 (p3.trans (by rw [if_neg (by omega)])) p4 p5 (zY_up (zY_up hYb _ _ (by decide)) _ _ (by omega)))⟩ (Nat.le_of_ble_eq_true rfl) (Nat.le_of_ble_eq_true rfl)
                          · refine lv_iload hx hb dL_drafts_485 (lv_at hl 0 rfl) ?_
                            refine lv_bipush (v := nI 8) hx hb dL_drafts_487 (by decide) ?_
                            refine n_ne (tgt := 496) hx hb dL_drafts_489 (by decide) (by omega) (by omega) (fun c_55 => ?_) (fun c_55 => ?_)
                            · refine lv_iload hx hb dL_drafts_496 (lv_at hl 1 rfl) ?_
                              refine x_iast (f := fun j => nI ((va_up Y 4 (va_up (Y 4) ci 0)) 3 j)) hx hb hK hP hD hS (_ + 3) 0 (app_r rfl) rfl (t := (6 * ci) + cl) (x := nI (N 2 ci cl + 16 * m0 + 64 * 1)) (by omega) (by decide) dL_drafts_498 (fun H locs hP hD hS => ?_)
                              rw [app_setr, upd_nI] at hP hD
                              have hP : va_P (dC, dI) vwCl (cw cy e0 ad L S N ++ yw ab cy (va_up (va_up Y 4 (va_up (Y 4) ci 0)) 3 (va_up ((va_up Y 4 (va_up (Y 4) ci 0)) 3) ((6 * ci) + cl) (N 2 ci cl + 16 * m0 + 64 * 1))) t D a b) H := hP
                              have hD : va_D A (cw cy e0 ad L S N ++ yw ab cy (va_up (va_up Y 4 (va_up (Y 4) ci 0)) 3 (va_up ((va_up Y 4 (va_up (Y 4) ci 0)) 3) ((6 * ci) + cl) (N 2 ci cl + 16 * m0 + 64 * 1))) t D a b) := hD
                              refine lv_aload_n hx hb dL_drafts_499 rfl (lv_at hl 9 rfl) ?_
                              refine lv_iload hx hb dL_drafts_500 (lv_at hl 8 rfl) ?_
                              refine lv_iload hx hb dL_drafts_502 (lv_at hl 7 rfl) ?_
                              refine lv_iload hx hb dL_drafts_504 (lv_at hl 6 rfl) ?_
                              refine lv_iload hx hb dL_drafts_506 (lv_at hl 4 rfl) ?_
                              refine callY_i hP (vx_runSW (As := [.ref oc, .int (nI ci), .int (nI 1), .int (nI cl), .int (nI 1)]) (rest := []) ⟨hx, hb, hml, hown, hts⟩ (qL_mark l dC dI cy e0 mi oc ad L S N H.size (nI ci) (nI 1) (nI cl) (nI 1) hI hX hst hoc) (vx_cwSW 5 hts gL_drafts_L_mark rfl rfl rfl (by decide +kernel) ⟨Nat.le_of_ble_eq_true rfl, Nat.le_of_ble_eq_true rfl⟩) (preLS hK (w_leftP hP) (w_leftD hD) hS hA ham) rfl rfl hl.1 rfl (lv_room (Nat.le_of_ble_eq_true rfl)) dL_drafts_508 ⟨Nat.le_of_ble_eq_true rfl, Nat.le_of_ble_eq_true rfl⟩) hD hS hA (fun rr uc H locs hw hP hD hS => ?_)
                              rw [eci] at hw
                              rw [ecl] at hw
                              rw [ix_nI (show (1 : Nat) < 2 ^ 31 by decide)] at hw
                              rw [if_neg hz] at hw
                              rw [if_neg hz] at hw
                              obtain ⟨er, ad, L, rfl, hI, hX, hoc⟩ := lres_n0 hw ((if_pos (ct_in (by omega) (by omega))).trans ((if_pos ⟨by decide, cl_in (by omega), by decide⟩).trans (if_pos (by rw [eci, ecl]; exact ⟨hdr.mpr c_22, fun q => hz q.1⟩))))
                              have hP : va_P (dC, dI) vwCl (cwT cy e0 (ad, L, K_change S N ci 1 cl (nI 1)) ++ yw ab cy (va_up (va_up Y 4 (va_up (Y 4) ci 0)) 3 (va_up ((va_up Y 4 (va_up (Y 4) ci 0)) 3) ((6 * ci) + cl) (N 2 ci cl + 16 * m0 + 64 * 1))) t D a b) H := hP
                              have hD : va_D A (cwT cy e0 (ad, L, K_change S N ci 1 cl (nI 1)) ++ yw ab cy (va_up (va_up Y 4 (va_up (Y 4) ci 0)) 3 (va_up ((va_up Y 4 (va_up (Y 4) ci 0)) 3) ((6 * ci) + cl) (N 2 ci cl + 16 * m0 + 64 * 1))) t D a b) := hD
                              refine to_i (y := nI m1) (er.trans (e5)) ?_
                              refine lv_iload hx hb dL_drafts_511 (lv_at hl 2 rfl) ?_
                              refine lv_icmp_ne (tgt := 520) hx hb dL_drafts_513 (by decide) (fun h9 => absurd rfl h9) (fun _ => ?_)
                              refine lv_iconst (v := nI 1) hx hb dL_drafts_516 (by decide) ?_
                              refine lv_goto (tgt := 521) hx hb dL_drafts_517 (by decide) ?_
                              obtain ⟨p1, p2, p3, p4, p5⟩ := yz1 Y ci (6 * ci + cl) (N 2 ci cl + 16 * m0 + 64 * 1)
                              rw [← hQQ]; exact end_z (u := ((ad, L, K_change S N ci 1 cl (nI 1)), (va_up (va_up Y 4 (va_up (Y 4) ci 0)) 3 (va_up ((va_up Y 4 (va_up (Y 4) ci 0)) 3) ((6 * ci) + cl) (N 2 ci cl + 16 * m0 + 64 * 1)), t, D, a, b))) hx hb hr hlocks dL_drafts_521 hK hP hD hS (by rfl) ⟨rfl, ⟨hI, hX⟩, hoc, (by show RZ (K_change S N ci 1 cl (nI 1)).1 (K_change S N ci 1 cl (nI 1)).2 _ _ _ _ _; exact rz_change (sd := 1) (mk := 1) (m0 := m0) (m1 := 1) hR (by omega) (by omega) hcl6 (hdr.mpr c_22) (by decide) hz (by decide) (fun q => c_49 ((nI_inj (by omega) (by decide)).mp (e5.symm.trans q))) (by rw [if_neg (by decide), e4, ix_nI (by omega)]) (by rw [if_neg (by decide)]) p1 p2 (p3.trans (by rw [if_pos (by omega)])) p4 p5 (zY_up (zY_up hYb _ _ (by decide)) _ _ (by omega)))⟩ (Nat.le_of_ble_eq_true rfl) (Nat.le_of_ble_eq_true rfl)
                            · refine lv_iconst (v := nI 0) hx hb dL_drafts_492 (by decide) ?_
                              refine lv_goto (tgt := 498) hx hb dL_drafts_493 (by decide) ?_
                              refine x_iast (f := fun j => nI ((va_up Y 4 (va_up (Y 4) ci 0)) 3 j)) hx hb hK hP hD hS (_ + 3) 0 (app_r rfl) rfl (t := (6 * ci) + cl) (x := nI 0) (by omega) (by decide) dL_drafts_498 (fun H locs hP hD hS => ?_)
                              rw [app_setr, upd_nI] at hP hD
                              have hP : va_P (dC, dI) vwCl (cw cy e0 ad L S N ++ yw ab cy (va_up (va_up Y 4 (va_up (Y 4) ci 0)) 3 (va_up ((va_up Y 4 (va_up (Y 4) ci 0)) 3) ((6 * ci) + cl) 0)) t D a b) H := hP
                              have hD : va_D A (cw cy e0 ad L S N ++ yw ab cy (va_up (va_up Y 4 (va_up (Y 4) ci 0)) 3 (va_up ((va_up Y 4 (va_up (Y 4) ci 0)) 3) ((6 * ci) + cl) 0)) t D a b) := hD
                              refine lv_aload_n hx hb dL_drafts_499 rfl (lv_at hl 9 rfl) ?_
                              refine lv_iload hx hb dL_drafts_500 (lv_at hl 8 rfl) ?_
                              refine lv_iload hx hb dL_drafts_502 (lv_at hl 7 rfl) ?_
                              refine lv_iload hx hb dL_drafts_504 (lv_at hl 6 rfl) ?_
                              refine lv_iload hx hb dL_drafts_506 (lv_at hl 4 rfl) ?_
                              refine callY_i hP (vx_runSW (As := [.ref oc, .int (nI ci), .int (nI 1), .int (nI cl), .int (nI 1)]) (rest := []) ⟨hx, hb, hml, hown, hts⟩ (qL_mark l dC dI cy e0 mi oc ad L S N H.size (nI ci) (nI 1) (nI cl) (nI 1) hI hX hst hoc) (vx_cwSW 5 hts gL_drafts_L_mark rfl rfl rfl (by decide +kernel) ⟨Nat.le_of_ble_eq_true rfl, Nat.le_of_ble_eq_true rfl⟩) (preLS hK (w_leftP hP) (w_leftD hD) hS hA ham) rfl rfl hl.1 rfl (lv_room (Nat.le_of_ble_eq_true rfl)) dL_drafts_508 ⟨Nat.le_of_ble_eq_true rfl, Nat.le_of_ble_eq_true rfl⟩) hD hS hA (fun rr uc H locs hw hP hD hS => ?_)
                              rw [eci] at hw
                              rw [ecl] at hw
                              rw [ix_nI (show (1 : Nat) < 2 ^ 31 by decide)] at hw
                              rw [if_neg hz] at hw
                              rw [if_neg hz] at hw
                              obtain ⟨er, ad, L, rfl, hI, hX, hoc⟩ := lres_n0 hw ((if_pos (ct_in (by omega) (by omega))).trans ((if_pos ⟨by decide, cl_in (by omega), by decide⟩).trans (if_pos (by rw [eci, ecl]; exact ⟨hdr.mpr c_22, fun q => hz q.1⟩))))
                              have hP : va_P (dC, dI) vwCl (cwT cy e0 (ad, L, K_change S N ci 1 cl (nI 1)) ++ yw ab cy (va_up (va_up Y 4 (va_up (Y 4) ci 0)) 3 (va_up ((va_up Y 4 (va_up (Y 4) ci 0)) 3) ((6 * ci) + cl) 0)) t D a b) H := hP
                              have hD : va_D A (cwT cy e0 (ad, L, K_change S N ci 1 cl (nI 1)) ++ yw ab cy (va_up (va_up Y 4 (va_up (Y 4) ci 0)) 3 (va_up ((va_up Y 4 (va_up (Y 4) ci 0)) 3) ((6 * ci) + cl) 0)) t D a b) := hD
                              refine to_i (y := nI m1) (er.trans (e5)) ?_
                              refine lv_iload hx hb dL_drafts_511 (lv_at hl 2 rfl) ?_
                              refine lv_icmp_ne (tgt := 520) hx hb dL_drafts_513 (by decide) (fun h9 => absurd rfl h9) (fun _ => ?_)
                              refine lv_iconst (v := nI 1) hx hb dL_drafts_516 (by decide) ?_
                              refine lv_goto (tgt := 521) hx hb dL_drafts_517 (by decide) ?_
                              obtain ⟨p1, p2, p3, p4, p5⟩ := yz1 Y ci (6 * ci + cl) 0
                              rw [← hQQ]; exact end_z (u := ((ad, L, K_change S N ci 1 cl (nI 1)), (va_up (va_up Y 4 (va_up (Y 4) ci 0)) 3 (va_up ((va_up Y 4 (va_up (Y 4) ci 0)) 3) ((6 * ci) + cl) 0), t, D, a, b))) hx hb hr hlocks dL_drafts_521 hK hP hD hS (by rfl) ⟨rfl, ⟨hI, hX⟩, hoc, (by show RZ (K_change S N ci 1 cl (nI 1)).1 (K_change S N ci 1 cl (nI 1)).2 _ _ _ _ _; exact rz_change (sd := 1) (mk := 1) (m0 := m0) (m1 := 1) hR (by omega) (by omega) hcl6 (hdr.mpr c_22) (by decide) hz (by decide) (fun q => c_49 ((nI_inj (by omega) (by decide)).mp (e5.symm.trans q))) (by rw [if_neg (by decide), e4, ix_nI (by omega)]) (by rw [if_neg (by decide)]) p1 p2 (p3.trans (by rw [if_neg (by omega)])) p4 p5 (zY_up (zY_up hYb _ _ (by decide)) _ _ (by omega)))⟩ (Nat.le_of_ble_eq_true rfl) (Nat.le_of_ble_eq_true rfl)
                · refine lv_iload hx hb dL_drafts_361 (lv_at hl 0 rfl) ?_
                  refine lv_iconst (v := nI 2) hx hb dL_drafts_363 (by decide) ?_
                  refine n_eq (tgt := 375) hx hb dL_drafts_364 (by decide) (by omega) (by omega) (fun c_56 => ?_) (fun c_56 => ?_)
                  · refine lv_aload_n hx hb dL_drafts_375 rfl (lv_at hl 6 rfl) ?_
                    refine lv_iload hx hb dL_drafts_376 (lv_at hl 5 rfl) ?_
                    refine lv_iload hx hb dL_drafts_378 (lv_at hl 4 rfl) ?_
                    refine lv_iload hx hb dL_drafts_380 (lv_at hl 3 rfl) ?_
                    refine lv_iload hx hb dL_drafts_382 (lv_at hl 0 rfl) ?_
                    refine callY_i hP (vx_runSW (As := [.ref oc, .int (nI ci), .int (nI sd), .int (nI cl), .int (nI mk)]) (rest := []) ⟨hx, hb, hml, hown, hts⟩ (qL_mark l dC dI cy e0 mi oc ad L S N H.size (nI ci) (nI sd) (nI cl) (nI mk) hI hX hst hoc) (vx_cwSW 5 hts gL_drafts_L_mark rfl rfl rfl (by decide +kernel) ⟨Nat.le_of_ble_eq_true rfl, Nat.le_of_ble_eq_true rfl⟩) (preLS hK (w_leftP hP) (w_leftD hD) hS hA ham) rfl rfl hl.1 rfl (lv_room (Nat.le_of_ble_eq_true rfl)) dL_drafts_384 ⟨Nat.le_of_ble_eq_true rfl, Nat.le_of_ble_eq_true rfl⟩) hD hS hA (fun rr uc H locs hw hP hD hS => ?_)
                    obtain ⟨rfl, ad, L, rfl, hI, hX, hoc⟩ := lres_n3 hw ((if_pos (ct_in (by omega) (by omega))).trans ((if_pos ⟨sd_in hsd, cl_in (by omega), mk_in hmk⟩).trans (if_neg (by rw [eci, ecl]; exact fun q => q.2 ⟨ezi.mp (hit.trans c_23), Or.inl (congrArg nI c_56)⟩))))
                    have hP : va_P (dC, dI) vwCl (cw cy e0 ad L S N ++ yw ab cy Y t D a b) H := hP
                    have hD : va_D A (cw cy e0 ad L S N ++ yw ab cy Y t D a b) := hD
                    refine lv_bipush (v := -73) hx hb dL_drafts_387 (by decide) ?_
                    refine lv_icmp_ne (tgt := 396) hx hb dL_drafts_389 (by decide) (fun h9 => absurd rfl h9) (fun _ => ?_)
                    refine lv_iconst (v := nI 1) hx hb dL_drafts_392 (by decide) ?_
                    refine lv_goto (tgt := 397) hx hb dL_drafts_393 (by decide) ?_
                    rw [← hQQ]; exact end_z (u := ((ad, L, S, N), (Y, t, D, a, b))) hx hb hr hlocks dL_drafts_397 hK hP hD hS (by rfl) ⟨rfl, ⟨hI, hX⟩, hoc, hR⟩ (Nat.le_of_ble_eq_true rfl) (Nat.le_of_ble_eq_true rfl)
                  · refine lv_aload hx hb dL_drafts_367 (lv_at hl 10 rfl) ?_
                    refine lv_iload hx hb dL_drafts_369 (lv_at hl 3 rfl) ?_
                    refine x_iald (f := fun j => nI (Y 0 j)) hx hb hK hP (_ + 0) 0 (app_r rfl) rfl (t := cl) (by omega) (by decide) dL_drafts_371 ?_
                    refine to_i (y := nI (Y 0 cl)) rfl ?_
                    refine n_if_ne (tgt := 398) hx hb dL_drafts_372 (by decide) (by have := hYb 0 cl; omega) (fun c_57 => ?_) (fun c_57 => ?_)
                    · have hz : N 2 ci cl = 0 := ezi.mp (hit.trans c_23)
                      rcases hmk with rfl | rfl
                      · exfalso; omega
                      · rcases (show sd = 0 ∨ sd = 1 by omega) with rfl | rfl
                        · refine lv_iconst (v := nI 4) hx hb dL_drafts_398 (by decide) ?_
                          refine lv_iconst (v := nI 2) hx hb dL_drafts_399 (by decide) ?_
                          refine lv_iload hx hb dL_drafts_400 (lv_at hl 4 rfl) ?_
                          refine lv_imul hx hb dL_drafts_402 ?_
                          refine to_i (y := nI (0)) (pk_mul _ _) ?_
                          refine lv_iadd hx hb dL_drafts_403 ?_
                          refine to_i (y := nI (4)) (nI_add _ _) ?_
                          refine lv_istore (lv' := [(18, .int (nI 4)), (17, .int (nI 1)), (16, .int (nI it)), (15, .int (nI ((6 * ci) + cl))), (14, .int (nI cl)), (13, .int (nI 0)), (12, .int (nI ci)), (0, .ref oc), (1, .int (nI act)), (2, .int y), (3, .int x), (4, .ref ((ab 0))), (5, .ref ((ab 1))), (6, .ref ((ab 2))), (7, .ref ((ab 3))), (8, .ref ((ab 4))), (9, .ref ((ab 5))), (10, .ref ((ab 6))), (11, .ref ((ab 7)))]) hx hb dL_drafts_404 hl (by decide) rfl (fun ls hl => ?_)
                          refine lv_iload hx hb dL_drafts_406 (lv_at hl 2 rfl) ?_
                          refine lv_iload hx hb dL_drafts_408 (lv_at hl 0 rfl) ?_
                          refine lv_ishr hx hb dL_drafts_410 ?_
                          refine to_i (y := nI (it / 16)) (pk_shrN (by omega) _ 4 (by decide)) ?_
                          refine lv_iconst (v := nI 3) hx hb dL_drafts_411 (by decide) ?_
                          refine lv_iand hx hb dL_drafts_412 ?_
                          refine to_i (y := nI ((it / 16) % 4)) (pk_andN (by omega) 2 (by decide)) ?_
                          refine to_i (y := nI 0) (congrArg nI (by omega)) ?_
                          refine lv_istore (lv' := [(19, .int (nI 0)), (18, .int (nI 4)), (17, .int (nI 1)), (16, .int (nI it)), (15, .int (nI ((6 * ci) + cl))), (14, .int (nI cl)), (13, .int (nI 0)), (12, .int (nI ci)), (0, .ref oc), (1, .int (nI act)), (2, .int y), (3, .int x), (4, .ref ((ab 0))), (5, .ref ((ab 1))), (6, .ref ((ab 2))), (7, .ref ((ab 3))), (8, .ref ((ab 4))), (9, .ref ((ab 5))), (10, .ref ((ab 6))), (11, .ref ((ab 7)))]) hx hb dL_drafts_413 hl (by decide) rfl (fun ls hl => ?_)
                          refine lv_iload hx hb dL_drafts_415 (lv_at hl 3 rfl) ?_
                          refine n_if_ne (tgt := 428) hx hb dL_drafts_417 (by decide) (by omega) (fun h9 => absurd c_23 h9) (fun _ => ?_)
                          refine lv_aload hx hb dL_drafts_420 (lv_at hl 12 rfl) ?_
                          refine lv_iload hx hb dL_drafts_422 (lv_at hl 5 rfl) ?_
                          refine x_iald (f := fun j => nI (Y 0 j)) hx hb hK hP (_ + 0) 0 (app_r rfl) rfl (t := cl) (by omega) (by decide) dL_drafts_424 ?_
                          refine to_i (y := nI (Y 0 cl)) rfl ?_
                          refine lv_goto (tgt := 430) hx hb dL_drafts_425 (by decide) ?_
                          refine lv_istore (lv' := [(16, .int (nI (Y 0 cl))), (19, .int (nI 0)), (18, .int (nI 4)), (17, .int (nI 1)), (15, .int (nI ((6 * ci) + cl))), (14, .int (nI cl)), (13, .int (nI 0)), (12, .int (nI ci)), (0, .ref oc), (1, .int (nI act)), (2, .int y), (3, .int x), (4, .ref ((ab 0))), (5, .ref ((ab 1))), (6, .ref ((ab 2))), (7, .ref ((ab 3))), (8, .ref ((ab 4))), (9, .ref ((ab 5))), (10, .ref ((ab 6))), (11, .ref ((ab 7)))]) hx hb dL_drafts_430 hl (by decide) rfl (fun ls hl => ?_)
                          refine lv_iload hx hb dL_drafts_432 (lv_at hl 0 rfl) ?_
                          refine lv_iconst (v := nI 3) hx hb dL_drafts_434 (by decide) ?_
                          refine lv_iload hx hb dL_drafts_435 (lv_at hl 2 rfl) ?_
                          refine lv_ishl hx hb dL_drafts_437 ?_
                          refine lv_iconst (v := -1) hx hb dL_drafts_438 (by decide) ?_
                          refine lv_ixor hx hb dL_drafts_439 ?_
                          refine lv_iand hx hb dL_drafts_440 ?_
                          refine lv_iload hx hb dL_drafts_441 (lv_at hl 3 rfl) ?_
                          refine lv_iload hx hb dL_drafts_443 (lv_at hl 2 rfl) ?_
                          refine lv_ishl hx hb dL_drafts_445 ?_
                          refine lv_ior hx hb dL_drafts_446 ?_
                          refine to_i (y := nI (Y 0 cl + 16 * 1 + 64 * 0)) (bt_0 (v := Y 0 cl) (m0 := 0) (m1 := 0) (mk := 1) (by omega) (by omega) (by omega) (by omega) (by omega)) ?_
                          refine lv_istore (lv' := [(16, .int (nI (Y 0 cl + 16 * 1 + 64 * 0))), (19, .int (nI 0)), (18, .int (nI 4)), (17, .int (nI 1)), (15, .int (nI ((6 * ci) + cl))), (14, .int (nI cl)), (13, .int (nI 0)), (12, .int (nI ci)), (0, .ref oc), (1, .int (nI act)), (2, .int y), (3, .int x), (4, .ref ((ab 0))), (5, .ref ((ab 1))), (6, .ref ((ab 2))), (7, .ref ((ab 3))), (8, .ref ((ab 4))), (9, .ref ((ab 5))), (10, .ref ((ab 6))), (11, .ref ((ab 7)))]) hx hb dL_drafts_447 hl (by decide) rfl (fun ls hl => ?_)
                          refine lv_iload hx hb dL_drafts_449 (lv_at hl 0 rfl) ?_
                          refine lv_iconst (v := nI 4) hx hb dL_drafts_451 (by decide) ?_
                          refine lv_ishr hx hb dL_drafts_452 ?_
                          refine to_i (y := nI ((Y 0 cl + 16 * 1 + 64 * 0) / 16)) (pk_shrN (by have := hYb 0 cl; omega) _ 4 (by decide)) ?_
                          refine to_i (y := nI 1) (congrArg nI (by omega)) ?_
                          refine lv_istore (lv' := [(20, .int (nI 1)), (16, .int (nI (Y 0 cl + 16 * 1 + 64 * 0))), (19, .int (nI 0)), (18, .int (nI 4)), (17, .int (nI 1)), (15, .int (nI ((6 * ci) + cl))), (14, .int (nI cl)), (13, .int (nI 0)), (12, .int (nI ci)), (0, .ref oc), (1, .int (nI act)), (2, .int y), (3, .int x), (4, .ref ((ab 0))), (5, .ref ((ab 1))), (6, .ref ((ab 2))), (7, .ref ((ab 3))), (8, .ref ((ab 4))), (9, .ref ((ab 5))), (10, .ref ((ab 6))), (11, .ref ((ab 7)))]) hx hb dL_drafts_453 hl (by decide) rfl (fun ls hl => ?_)
                          refine lv_iload hx hb dL_drafts_455 (lv_at hl 2 rfl) ?_
                          refine lv_iload hx hb dL_drafts_457 (lv_at hl 4 rfl) ?_
                          refine lv_icmp_eq (tgt := 468) hx hb dL_drafts_459 (by decide) (fun h9 => absurd h9 (by decide)) (fun _ => ?_)
                          refine lv_aload hx hb dL_drafts_462 (lv_at hl 17 rfl) ?_
                          refine lv_iload hx hb dL_drafts_464 (lv_at hl 8 rfl) ?_
                          refine lv_iconst (v := nI 0) hx hb dL_drafts_466 (by decide) ?_
                          refine x_iast (f := fun j => nI (Y 4 j)) hx hb hK hP hD hS (_ + 4) 0 (app_r rfl) rfl (t := ci) (x := nI 0) (by omega) (by decide) dL_drafts_467 (fun H locs hP hD hS => ?_)
                          rw [app_setr, upd_nI] at hP hD
                          have hP : va_P (dC, dI) vwCl (cw cy e0 ad L S N ++ yw ab cy (va_up Y 4 (va_up (Y 4) ci 0)) t D a b) H := hP
                          have hD : va_D A (cw cy e0 ad L S N ++ yw ab cy (va_up Y 4 (va_up (Y 4) ci 0)) t D a b) := hD
                          refine lv_aload hx hb dL_drafts_468 (lv_at hl 16 rfl) ?_
                          refine lv_iload hx hb dL_drafts_470 (lv_at hl 5 rfl) ?_
                          refine lv_iload hx hb dL_drafts_472 (lv_at hl 0 rfl) ?_
                          refine lv_bipush (v := nI 10) hx hb dL_drafts_474 (by decide) ?_
                          refine lv_icmp_eq (tgt := 492) hx hb dL_drafts_476 (by decide) (fun h9 => absurd h9 (by decide)) (fun _ => ?_)
                          refine lv_iload hx hb dL_drafts_479 (lv_at hl 0 rfl) ?_
                          refine lv_iconst (v := nI 2) hx hb dL_drafts_481 (by decide) ?_
                          refine lv_icmp_eq (tgt := 492) hx hb dL_drafts_482 (by decide) (fun h9 => absurd h9 (by decide)) (fun _ => ?_)
                          refine lv_iload hx hb dL_drafts_485 (lv_at hl 0 rfl) ?_
                          refine lv_bipush (v := nI 8) hx hb dL_drafts_487 (by decide) ?_
                          refine lv_icmp_ne (tgt := 496) hx hb dL_drafts_489 (by decide) (fun _ => ?_) (fun h9 => absurd h9 (by decide))
                          refine lv_iload hx hb dL_drafts_496 (lv_at hl 1 rfl) ?_
                          refine x_iast (f := fun j => nI ((va_up Y 4 (va_up (Y 4) ci 0)) 3 j)) hx hb hK hP hD hS (_ + 3) 0 (app_r rfl) rfl (t := (6 * ci) + cl) (x := nI (Y 0 cl + 16 * 1 + 64 * 0)) (by omega) (by decide) dL_drafts_498 (fun H locs hP hD hS => ?_)
                          rw [app_setr, upd_nI] at hP hD
                          have hP : va_P (dC, dI) vwCl (cw cy e0 ad L S N ++ yw ab cy (va_up (va_up Y 4 (va_up (Y 4) ci 0)) 3 (va_up ((va_up Y 4 (va_up (Y 4) ci 0)) 3) ((6 * ci) + cl) (Y 0 cl + 16 * 1 + 64 * 0))) t D a b) H := hP
                          have hD : va_D A (cw cy e0 ad L S N ++ yw ab cy (va_up (va_up Y 4 (va_up (Y 4) ci 0)) 3 (va_up ((va_up Y 4 (va_up (Y 4) ci 0)) 3) ((6 * ci) + cl) (Y 0 cl + 16 * 1 + 64 * 0))) t D a b) := hD
                          refine lv_aload_n hx hb dL_drafts_499 rfl (lv_at hl 9 rfl) ?_
                          refine lv_iload hx hb dL_drafts_500 (lv_at hl 8 rfl) ?_
                          refine lv_iload hx hb dL_drafts_502 (lv_at hl 7 rfl) ?_
                          refine lv_iload hx hb dL_drafts_504 (lv_at hl 6 rfl) ?_
                          refine lv_iload hx hb dL_drafts_506 (lv_at hl 4 rfl) ?_
                          refine callY_i hP (vx_runSW (As := [.ref oc, .int (nI ci), .int (nI 0), .int (nI cl), .int (nI 1)]) (rest := []) ⟨hx, hb, hml, hown, hts⟩ (qL_mark l dC dI cy e0 mi oc ad L S N H.size (nI ci) (nI 0) (nI cl) (nI 1) hI hX hst hoc) (vx_cwSW 5 hts gL_drafts_L_mark rfl rfl rfl (by decide +kernel) ⟨Nat.le_of_ble_eq_true rfl, Nat.le_of_ble_eq_true rfl⟩) (preLS hK (w_leftP hP) (w_leftD hD) hS hA ham) rfl rfl hl.1 rfl (lv_room (Nat.le_of_ble_eq_true rfl)) dL_drafts_508 ⟨Nat.le_of_ble_eq_true rfl, Nat.le_of_ble_eq_true rfl⟩) hD hS hA (fun rr uc H locs hw hP hD hS => ?_)
                          rw [eci] at hw
                          rw [ecl] at hw
                          rw [ix_nI (show (0 : Nat) < 2 ^ 31 by decide)] at hw
                          rw [if_pos hz] at hw
                          rw [if_pos hz] at hw
                          obtain ⟨er, ad, L, rfl, hI, hX, hoc⟩ := lres_n0 hw ((if_pos (ct_in (by omega) (by omega))).trans ((if_pos ⟨by decide, cl_in (by omega), by decide⟩).trans (if_pos (by rw [eci, ecl]; exact ⟨hdr.mpr c_22, fun q => q.2.elim (by decide) (fun q => c_57 (ey0.trans q))⟩))))
                          have hP : va_P (dC, dI) vwCl (cwT cy e0 (ad, L, K_bring S ci 0 cl, nu N 2 ci (va_up (N 2 ci) cl (N 1 0 cl))) ++ yw ab cy (va_up (va_up Y 4 (va_up (Y 4) ci 0)) 3 (va_up ((va_up Y 4 (va_up (Y 4) ci 0)) 3) ((6 * ci) + cl) (Y 0 cl + 16 * 1 + 64 * 0))) t D a b) H := hP
                          have hD : va_D A (cwT cy e0 (ad, L, K_bring S ci 0 cl, nu N 2 ci (va_up (N 2 ci) cl (N 1 0 cl))) ++ yw ab cy (va_up (va_up Y 4 (va_up (Y 4) ci 0)) 3 (va_up ((va_up Y 4 (va_up (Y 4) ci 0)) 3) ((6 * ci) + cl) (Y 0 cl + 16 * 1 + 64 * 0))) t D a b) := hD
                          refine to_i (y := nI 0) (er.trans (rfl)) ?_
                          refine lv_iload hx hb dL_drafts_511 (lv_at hl 2 rfl) ?_
                          refine lv_icmp_ne (tgt := 520) hx hb dL_drafts_513 (by decide) (fun h9 => absurd rfl h9) (fun _ => ?_)
                          refine lv_iconst (v := nI 1) hx hb dL_drafts_516 (by decide) ?_
                          refine lv_goto (tgt := 521) hx hb dL_drafts_517 (by decide) ?_
                          obtain ⟨p1, p2, p3, p4, p5⟩ := yz1 Y ci (6 * ci + cl) (Y 0 cl + 16 * 1 + 64 * 0)
                          rw [← hQQ]; exact end_z (u := ((ad, L, K_bring S ci 0 cl, nu N 2 ci (va_up (N 2 ci) cl (N 1 0 cl))), (va_up (va_up Y 4 (va_up (Y 4) ci 0)) 3 (va_up ((va_up Y 4 (va_up (Y 4) ci 0)) 3) ((6 * ci) + cl) (Y 0 cl + 16 * 1 + 64 * 0)), t, D, a, b))) hx hb hr hlocks dL_drafts_521 hK hP hD hS (by rfl) ⟨rfl, ⟨hI, hX⟩, hoc, (by show RZ (K_bring S ci 0 cl) (nu N 2 ci (va_up (N 2 ci) cl (N 1 0 cl))) _ _ _ _ _; exact rz_bring (sd := 0) hR (by omega) (by omega) hcl6 (hdr.mpr c_22) (by decide) (by omega) p1 p2 (p3.trans (by rw [if_pos rfl]; omega)) p4 p5 (zY_up (zY_up hYb _ _ (by decide)) _ _ (by omega)))⟩ (Nat.le_of_ble_eq_true rfl) (Nat.le_of_ble_eq_true rfl)
                        · refine lv_iconst (v := nI 4) hx hb dL_drafts_398 (by decide) ?_
                          refine lv_iconst (v := nI 2) hx hb dL_drafts_399 (by decide) ?_
                          refine lv_iload hx hb dL_drafts_400 (lv_at hl 4 rfl) ?_
                          refine lv_imul hx hb dL_drafts_402 ?_
                          refine to_i (y := nI (2)) (pk_mul _ _) ?_
                          refine lv_iadd hx hb dL_drafts_403 ?_
                          refine to_i (y := nI (6)) (nI_add _ _) ?_
                          refine lv_istore (lv' := [(18, .int (nI 6)), (17, .int (nI 1)), (16, .int (nI it)), (15, .int (nI ((6 * ci) + cl))), (14, .int (nI cl)), (13, .int (nI 1)), (12, .int (nI ci)), (0, .ref oc), (1, .int (nI act)), (2, .int y), (3, .int x), (4, .ref ((ab 0))), (5, .ref ((ab 1))), (6, .ref ((ab 2))), (7, .ref ((ab 3))), (8, .ref ((ab 4))), (9, .ref ((ab 5))), (10, .ref ((ab 6))), (11, .ref ((ab 7)))]) hx hb dL_drafts_404 hl (by decide) rfl (fun ls hl => ?_)
                          refine lv_iload hx hb dL_drafts_406 (lv_at hl 2 rfl) ?_
                          refine lv_iload hx hb dL_drafts_408 (lv_at hl 0 rfl) ?_
                          refine lv_ishr hx hb dL_drafts_410 ?_
                          refine to_i (y := nI (it / 64)) (pk_shrN (by omega) _ 6 (by decide)) ?_
                          refine lv_iconst (v := nI 3) hx hb dL_drafts_411 (by decide) ?_
                          refine lv_iand hx hb dL_drafts_412 ?_
                          refine to_i (y := nI ((it / 64) % 4)) (pk_andN (by omega) 2 (by decide)) ?_
                          refine to_i (y := nI 0) (congrArg nI (by omega)) ?_
                          refine lv_istore (lv' := [(19, .int (nI 0)), (18, .int (nI 6)), (17, .int (nI 1)), (16, .int (nI it)), (15, .int (nI ((6 * ci) + cl))), (14, .int (nI cl)), (13, .int (nI 1)), (12, .int (nI ci)), (0, .ref oc), (1, .int (nI act)), (2, .int y), (3, .int x), (4, .ref ((ab 0))), (5, .ref ((ab 1))), (6, .ref ((ab 2))), (7, .ref ((ab 3))), (8, .ref ((ab 4))), (9, .ref ((ab 5))), (10, .ref ((ab 6))), (11, .ref ((ab 7)))]) hx hb dL_drafts_413 hl (by decide) rfl (fun ls hl => ?_)
                          refine lv_iload hx hb dL_drafts_415 (lv_at hl 3 rfl) ?_
                          refine n_if_ne (tgt := 428) hx hb dL_drafts_417 (by decide) (by omega) (fun h9 => absurd c_23 h9) (fun _ => ?_)
                          refine lv_aload hx hb dL_drafts_420 (lv_at hl 12 rfl) ?_
                          refine lv_iload hx hb dL_drafts_422 (lv_at hl 5 rfl) ?_
                          refine x_iald (f := fun j => nI (Y 0 j)) hx hb hK hP (_ + 0) 0 (app_r rfl) rfl (t := cl) (by omega) (by decide) dL_drafts_424 ?_
                          refine to_i (y := nI (Y 0 cl)) rfl ?_
                          refine lv_goto (tgt := 430) hx hb dL_drafts_425 (by decide) ?_
                          refine lv_istore (lv' := [(16, .int (nI (Y 0 cl))), (19, .int (nI 0)), (18, .int (nI 6)), (17, .int (nI 1)), (15, .int (nI ((6 * ci) + cl))), (14, .int (nI cl)), (13, .int (nI 1)), (12, .int (nI ci)), (0, .ref oc), (1, .int (nI act)), (2, .int y), (3, .int x), (4, .ref ((ab 0))), (5, .ref ((ab 1))), (6, .ref ((ab 2))), (7, .ref ((ab 3))), (8, .ref ((ab 4))), (9, .ref ((ab 5))), (10, .ref ((ab 6))), (11, .ref ((ab 7)))]) hx hb dL_drafts_430 hl (by decide) rfl (fun ls hl => ?_)
                          refine lv_iload hx hb dL_drafts_432 (lv_at hl 0 rfl) ?_
                          refine lv_iconst (v := nI 3) hx hb dL_drafts_434 (by decide) ?_
                          refine lv_iload hx hb dL_drafts_435 (lv_at hl 2 rfl) ?_
                          refine lv_ishl hx hb dL_drafts_437 ?_
                          refine lv_iconst (v := -1) hx hb dL_drafts_438 (by decide) ?_
                          refine lv_ixor hx hb dL_drafts_439 ?_
                          refine lv_iand hx hb dL_drafts_440 ?_
                          refine lv_iload hx hb dL_drafts_441 (lv_at hl 3 rfl) ?_
                          refine lv_iload hx hb dL_drafts_443 (lv_at hl 2 rfl) ?_
                          refine lv_ishl hx hb dL_drafts_445 ?_
                          refine lv_ior hx hb dL_drafts_446 ?_
                          refine to_i (y := nI (Y 0 cl + 16 * 0 + 64 * 1)) (bt_1 (v := Y 0 cl) (m0 := 0) (m1 := 0) (mk := 1) (by omega) (by omega) (by omega) (by omega) (by omega)) ?_
                          refine lv_istore (lv' := [(16, .int (nI (Y 0 cl + 16 * 0 + 64 * 1))), (19, .int (nI 0)), (18, .int (nI 6)), (17, .int (nI 1)), (15, .int (nI ((6 * ci) + cl))), (14, .int (nI cl)), (13, .int (nI 1)), (12, .int (nI ci)), (0, .ref oc), (1, .int (nI act)), (2, .int y), (3, .int x), (4, .ref ((ab 0))), (5, .ref ((ab 1))), (6, .ref ((ab 2))), (7, .ref ((ab 3))), (8, .ref ((ab 4))), (9, .ref ((ab 5))), (10, .ref ((ab 6))), (11, .ref ((ab 7)))]) hx hb dL_drafts_447 hl (by decide) rfl (fun ls hl => ?_)
                          refine lv_iload hx hb dL_drafts_449 (lv_at hl 0 rfl) ?_
                          refine lv_iconst (v := nI 4) hx hb dL_drafts_451 (by decide) ?_
                          refine lv_ishr hx hb dL_drafts_452 ?_
                          refine to_i (y := nI ((Y 0 cl + 16 * 0 + 64 * 1) / 16)) (pk_shrN (by have := hYb 0 cl; omega) _ 4 (by decide)) ?_
                          refine to_i (y := nI 4) (congrArg nI (by omega)) ?_
                          refine lv_istore (lv' := [(20, .int (nI 4)), (16, .int (nI (Y 0 cl + 16 * 0 + 64 * 1))), (19, .int (nI 0)), (18, .int (nI 6)), (17, .int (nI 1)), (15, .int (nI ((6 * ci) + cl))), (14, .int (nI cl)), (13, .int (nI 1)), (12, .int (nI ci)), (0, .ref oc), (1, .int (nI act)), (2, .int y), (3, .int x), (4, .ref ((ab 0))), (5, .ref ((ab 1))), (6, .ref ((ab 2))), (7, .ref ((ab 3))), (8, .ref ((ab 4))), (9, .ref ((ab 5))), (10, .ref ((ab 6))), (11, .ref ((ab 7)))]) hx hb dL_drafts_453 hl (by decide) rfl (fun ls hl => ?_)
                          refine lv_iload hx hb dL_drafts_455 (lv_at hl 2 rfl) ?_
                          refine lv_iload hx hb dL_drafts_457 (lv_at hl 4 rfl) ?_
                          refine lv_icmp_eq (tgt := 468) hx hb dL_drafts_459 (by decide) (fun h9 => absurd h9 (by decide)) (fun _ => ?_)
                          refine lv_aload hx hb dL_drafts_462 (lv_at hl 17 rfl) ?_
                          refine lv_iload hx hb dL_drafts_464 (lv_at hl 8 rfl) ?_
                          refine lv_iconst (v := nI 0) hx hb dL_drafts_466 (by decide) ?_
                          refine x_iast (f := fun j => nI (Y 4 j)) hx hb hK hP hD hS (_ + 4) 0 (app_r rfl) rfl (t := ci) (x := nI 0) (by omega) (by decide) dL_drafts_467 (fun H locs hP hD hS => ?_)
                          rw [app_setr, upd_nI] at hP hD
                          have hP : va_P (dC, dI) vwCl (cw cy e0 ad L S N ++ yw ab cy (va_up Y 4 (va_up (Y 4) ci 0)) t D a b) H := hP
                          have hD : va_D A (cw cy e0 ad L S N ++ yw ab cy (va_up Y 4 (va_up (Y 4) ci 0)) t D a b) := hD
                          refine lv_aload hx hb dL_drafts_468 (lv_at hl 16 rfl) ?_
                          refine lv_iload hx hb dL_drafts_470 (lv_at hl 5 rfl) ?_
                          refine lv_iload hx hb dL_drafts_472 (lv_at hl 0 rfl) ?_
                          refine lv_bipush (v := nI 10) hx hb dL_drafts_474 (by decide) ?_
                          refine lv_icmp_eq (tgt := 492) hx hb dL_drafts_476 (by decide) (fun h9 => absurd h9 (by decide)) (fun _ => ?_)
                          refine lv_iload hx hb dL_drafts_479 (lv_at hl 0 rfl) ?_
                          refine lv_iconst (v := nI 2) hx hb dL_drafts_481 (by decide) ?_
                          refine lv_icmp_eq (tgt := 492) hx hb dL_drafts_482 (by decide) (fun h9 => absurd h9 (by decide)) (fun _ => ?_)
                          refine lv_iload hx hb dL_drafts_485 (lv_at hl 0 rfl) ?_
                          refine lv_bipush (v := nI 8) hx hb dL_drafts_487 (by decide) ?_
                          refine lv_icmp_ne (tgt := 496) hx hb dL_drafts_489 (by decide) (fun _ => ?_) (fun h9 => absurd h9 (by decide))
                          refine lv_iload hx hb dL_drafts_496 (lv_at hl 1 rfl) ?_
                          refine x_iast (f := fun j => nI ((va_up Y 4 (va_up (Y 4) ci 0)) 3 j)) hx hb hK hP hD hS (_ + 3) 0 (app_r rfl) rfl (t := (6 * ci) + cl) (x := nI (Y 0 cl + 16 * 0 + 64 * 1)) (by omega) (by decide) dL_drafts_498 (fun H locs hP hD hS => ?_)
                          rw [app_setr, upd_nI] at hP hD
                          have hP : va_P (dC, dI) vwCl (cw cy e0 ad L S N ++ yw ab cy (va_up (va_up Y 4 (va_up (Y 4) ci 0)) 3 (va_up ((va_up Y 4 (va_up (Y 4) ci 0)) 3) ((6 * ci) + cl) (Y 0 cl + 16 * 0 + 64 * 1))) t D a b) H := hP
                          have hD : va_D A (cw cy e0 ad L S N ++ yw ab cy (va_up (va_up Y 4 (va_up (Y 4) ci 0)) 3 (va_up ((va_up Y 4 (va_up (Y 4) ci 0)) 3) ((6 * ci) + cl) (Y 0 cl + 16 * 0 + 64 * 1))) t D a b) := hD
                          refine lv_aload_n hx hb dL_drafts_499 rfl (lv_at hl 9 rfl) ?_
                          refine lv_iload hx hb dL_drafts_500 (lv_at hl 8 rfl) ?_
                          refine lv_iload hx hb dL_drafts_502 (lv_at hl 7 rfl) ?_
                          refine lv_iload hx hb dL_drafts_504 (lv_at hl 6 rfl) ?_
                          refine lv_iload hx hb dL_drafts_506 (lv_at hl 4 rfl) ?_
                          refine callY_i hP (vx_runSW (As := [.ref oc, .int (nI ci), .int (nI 1), .int (nI cl), .int (nI 1)]) (rest := []) ⟨hx, hb, hml, hown, hts⟩ (qL_mark l dC dI cy e0 mi oc ad L S N H.size (nI ci) (nI 1) (nI cl) (nI 1) hI hX hst hoc) (vx_cwSW 5 hts gL_drafts_L_mark rfl rfl rfl (by decide +kernel) ⟨Nat.le_of_ble_eq_true rfl, Nat.le_of_ble_eq_true rfl⟩) (preLS hK (w_leftP hP) (w_leftD hD) hS hA ham) rfl rfl hl.1 rfl (lv_room (Nat.le_of_ble_eq_true rfl)) dL_drafts_508 ⟨Nat.le_of_ble_eq_true rfl, Nat.le_of_ble_eq_true rfl⟩) hD hS hA (fun rr uc H locs hw hP hD hS => ?_)
                          rw [eci] at hw
                          rw [ecl] at hw
                          rw [ix_nI (show (1 : Nat) < 2 ^ 31 by decide)] at hw
                          rw [if_pos hz] at hw
                          rw [if_pos hz] at hw
                          obtain ⟨er, ad, L, rfl, hI, hX, hoc⟩ := lres_n0 hw ((if_pos (ct_in (by omega) (by omega))).trans ((if_pos ⟨by decide, cl_in (by omega), by decide⟩).trans (if_pos (by rw [eci, ecl]; exact ⟨hdr.mpr c_22, fun q => q.2.elim (by decide) (fun q => c_57 (ey0.trans q))⟩))))
                          have hP : va_P (dC, dI) vwCl (cwT cy e0 (ad, L, K_bring S ci 1 cl, nu N 2 ci (va_up (N 2 ci) cl (N 1 0 cl))) ++ yw ab cy (va_up (va_up Y 4 (va_up (Y 4) ci 0)) 3 (va_up ((va_up Y 4 (va_up (Y 4) ci 0)) 3) ((6 * ci) + cl) (Y 0 cl + 16 * 0 + 64 * 1))) t D a b) H := hP
                          have hD : va_D A (cwT cy e0 (ad, L, K_bring S ci 1 cl, nu N 2 ci (va_up (N 2 ci) cl (N 1 0 cl))) ++ yw ab cy (va_up (va_up Y 4 (va_up (Y 4) ci 0)) 3 (va_up ((va_up Y 4 (va_up (Y 4) ci 0)) 3) ((6 * ci) + cl) (Y 0 cl + 16 * 0 + 64 * 1))) t D a b) := hD
                          refine to_i (y := nI 0) (er.trans (rfl)) ?_
                          refine lv_iload hx hb dL_drafts_511 (lv_at hl 2 rfl) ?_
                          refine lv_icmp_ne (tgt := 520) hx hb dL_drafts_513 (by decide) (fun h9 => absurd rfl h9) (fun _ => ?_)
                          refine lv_iconst (v := nI 1) hx hb dL_drafts_516 (by decide) ?_
                          refine lv_goto (tgt := 521) hx hb dL_drafts_517 (by decide) ?_
                          obtain ⟨p1, p2, p3, p4, p5⟩ := yz1 Y ci (6 * ci + cl) (Y 0 cl + 16 * 0 + 64 * 1)
                          rw [← hQQ]; exact end_z (u := ((ad, L, K_bring S ci 1 cl, nu N 2 ci (va_up (N 2 ci) cl (N 1 0 cl))), (va_up (va_up Y 4 (va_up (Y 4) ci 0)) 3 (va_up ((va_up Y 4 (va_up (Y 4) ci 0)) 3) ((6 * ci) + cl) (Y 0 cl + 16 * 0 + 64 * 1)), t, D, a, b))) hx hb hr hlocks dL_drafts_521 hK hP hD hS (by rfl) ⟨rfl, ⟨hI, hX⟩, hoc, (by show RZ (K_bring S ci 1 cl) (nu N 2 ci (va_up (N 2 ci) cl (N 1 0 cl))) _ _ _ _ _; exact rz_bring (sd := 1) hR (by omega) (by omega) hcl6 (hdr.mpr c_22) (by decide) (by omega) p1 p2 (p3.trans (by rw [if_neg (by decide)]; omega)) p4 p5 (zY_up (zY_up hYb _ _ (by decide)) _ _ (by omega)))⟩ (Nat.le_of_ble_eq_true rfl) (Nat.le_of_ble_eq_true rfl)
                    · refine lv_aload_n hx hb dL_drafts_375 rfl (lv_at hl 6 rfl) ?_
                      refine lv_iload hx hb dL_drafts_376 (lv_at hl 5 rfl) ?_
                      refine lv_iload hx hb dL_drafts_378 (lv_at hl 4 rfl) ?_
                      refine lv_iload hx hb dL_drafts_380 (lv_at hl 3 rfl) ?_
                      refine lv_iload hx hb dL_drafts_382 (lv_at hl 0 rfl) ?_
                      refine callY_i hP (vx_runSW (As := [.ref oc, .int (nI ci), .int (nI sd), .int (nI cl), .int (nI mk)]) (rest := []) ⟨hx, hb, hml, hown, hts⟩ (qL_mark l dC dI cy e0 mi oc ad L S N H.size (nI ci) (nI sd) (nI cl) (nI mk) hI hX hst hoc) (vx_cwSW 5 hts gL_drafts_L_mark rfl rfl rfl (by decide +kernel) ⟨Nat.le_of_ble_eq_true rfl, Nat.le_of_ble_eq_true rfl⟩) (preLS hK (w_leftP hP) (w_leftD hD) hS hA ham) rfl rfl hl.1 rfl (lv_room (Nat.le_of_ble_eq_true rfl)) dL_drafts_384 ⟨Nat.le_of_ble_eq_true rfl, Nat.le_of_ble_eq_true rfl⟩) hD hS hA (fun rr uc H locs hw hP hD hS => ?_)
                      obtain ⟨rfl, ad, L, rfl, hI, hX, hoc⟩ := lres_n3 hw ((if_pos (ct_in (by omega) (by omega))).trans ((if_pos ⟨sd_in hsd, cl_in (by omega), mk_in hmk⟩).trans (if_neg (by rw [eci, ecl]; exact fun q => q.2 ⟨ezi.mp (hit.trans c_23), Or.inr (ey0.symm.trans c_57)⟩))))
                      have hP : va_P (dC, dI) vwCl (cw cy e0 ad L S N ++ yw ab cy Y t D a b) H := hP
                      have hD : va_D A (cw cy e0 ad L S N ++ yw ab cy Y t D a b) := hD
                      refine lv_bipush (v := -73) hx hb dL_drafts_387 (by decide) ?_
                      refine lv_icmp_ne (tgt := 396) hx hb dL_drafts_389 (by decide) (fun h9 => absurd rfl h9) (fun _ => ?_)
                      refine lv_iconst (v := nI 1) hx hb dL_drafts_392 (by decide) ?_
                      refine lv_goto (tgt := 397) hx hb dL_drafts_393 (by decide) ?_
                      rw [← hQQ]; exact end_z (u := ((ad, L, S, N), (Y, t, D, a, b))) hx hb hr hlocks dL_drafts_397 hK hP hD hS (by rfl) ⟨rfl, ⟨hI, hX⟩, hoc, hR⟩ (Nat.le_of_ble_eq_true rfl) (Nat.le_of_ble_eq_true rfl)
            refine lv_if_ne (tgt := 261) hx hb dL_drafts_254 (by decide) (fun c_68 => ?_) (fun c_68 => ?_)
            · refine lv_iconst (v := nI 1) hx hb dL_drafts_261 (by decide) ?_
              exact J262 1 (Or.inr rfl) H locs hP hD hS
            · refine lv_iconst (v := nI 2) hx hb dL_drafts_257 (by decide) ?_
              refine lv_goto (tgt := 262) hx hb dL_drafts_258 (by decide) ?_
              exact J262 2 (Or.inl rfl) H locs hP hD hS
        · refine lv_iload hx hb dL_drafts_113 (lv_at hl 2 rfl) ?_
          refine lv_aload hx hb dL_drafts_115 (lv_at hl 14 rfl) ?_
          refine lv_iconst (v := nI 1) hx hb dL_drafts_117 (by decide) ?_
          refine x_iald (f := gf D a b) hx hb hK hP (_ + 7) 0 (app_r rfl) rfl (t := 1) (by decide) (by decide) dL_drafts_118 ?_
          refine to_i (y := nI a) rfl ?_
          refine lv_icmp_eq (tgt := 127) hx hb dL_drafts_119 (by decide) (fun _ => ?_) (fun h9 => absurd rfl h9)
          refine lv_aload_n hx hb dL_drafts_127 rfl (lv_at hl 3 rfl) ?_
          refine lv_iload hx hb dL_drafts_128 (lv_at hl 2 rfl) ?_
          refine lv_iconst (v := nI 2) hx hb dL_drafts_130 (by decide) ?_
          refine lv_iload hx hb dL_drafts_131 (lv_at hl 0 rfl) ?_
          refine lv_iconst (v := nI 1) hx hb dL_drafts_133 (by decide) ?_
          refine callY_i hP (vx_runSW (As := [.ref oc, .int (nI a), .int (nI 2), .int (nI cl), .int (nI 1)]) (rest := []) ⟨hx, hb, hml, hown, hts⟩ (qL_mark l dC dI cy e0 mi oc ad L S N H.size (nI a) (nI 2) (nI cl) (nI 1) hI hX hst hoc) (vx_cwSW 5 hts gL_drafts_L_mark rfl rfl rfl (by decide +kernel) ⟨Nat.le_of_ble_eq_true rfl, Nat.le_of_ble_eq_true rfl⟩) (preLS hK (w_leftP hP) (w_leftD hD) hS hA ham) rfl rfl hl.1 rfl (lv_room (Nat.le_of_ble_eq_true rfl)) dL_drafts_134 ⟨Nat.le_of_ble_eq_true rfl, Nat.le_of_ble_eq_true rfl⟩) hD hS hA (fun rr uc H locs hw hP hD hS => ?_)
          obtain ⟨rfl, ad, L, rfl, hI, hX, hoc⟩ := lres_n1 hw (if_neg (ct_no (by omega) (by omega)))
          have hP : va_P (dC, dI) vwCl (cw cy e0 ad L S N ++ yw ab cy Y t D a b) H := hP
          have hD : va_D A (cw cy e0 ad L S N ++ yw ab cy Y t D a b) := hD
          refine lv_bipush (v := -71) hx hb dL_drafts_137 (by decide) ?_
          refine lv_icmp_ne (tgt := 225) hx hb dL_drafts_139 (by decide) (fun h9 => absurd rfl h9) (fun _ => ?_)
          refine lv_aload_n hx hb dL_drafts_142 rfl (lv_at hl 3 rfl) ?_
          refine lv_aload hx hb dL_drafts_143 (lv_at hl 14 rfl) ?_
          refine lv_iconst (v := nI 1) hx hb dL_drafts_145 (by decide) ?_
          refine x_iald (f := gf D a b) hx hb hK hP (_ + 7) 0 (app_r rfl) rfl (t := 1) (by decide) (by decide) dL_drafts_146 ?_
          refine to_i (y := nI a) rfl ?_
          refine lv_iconst (v := nI 0) hx hb dL_drafts_147 (by decide) ?_
          refine lv_bipush (v := nI 10) hx hb dL_drafts_148 (by decide) ?_
          refine callY_i hP (vx_runSW (As := [.ref oc, .int (nI a), .int (nI 0), .int (nI 10)]) (rest := []) ⟨hx, hb, hml, hown, hts⟩ (qL_renew l dC dI cy e0 mi oc ad L S N H.size (nI a) (nI 0) (nI 10) hI hX hst hoc) (vx_cwSW 4 hts gL_drafts_L_renew rfl rfl rfl (by decide +kernel) ⟨Nat.le_of_ble_eq_true rfl, Nat.le_of_ble_eq_true rfl⟩) (preLS hK (w_leftP hP) (w_leftD hD) hS hA ham) rfl rfl hl.1 rfl (lv_room (Nat.le_of_ble_eq_true rfl)) dL_drafts_150 ⟨Nat.le_of_ble_eq_true rfl, Nat.le_of_ble_eq_true rfl⟩) hD hS hA (fun rr uc H locs hw hP hD hS => ?_)
          obtain ⟨rfl, ad, L, rfl, hI, hX, hoc⟩ := lres_n1 hw (if_neg (ct_no (by omega) (by omega)))
          have hP : va_P (dC, dI) vwCl (cw cy e0 ad L S N ++ yw ab cy Y t D a b) H := hP
          have hD : va_D A (cw cy e0 ad L S N ++ yw ab cy Y t D a b) := hD
          refine lv_bipush (v := -71) hx hb dL_drafts_153 (by decide) ?_
          refine lv_icmp_ne (tgt := 225) hx hb dL_drafts_155 (by decide) (fun h9 => absurd rfl h9) (fun _ => ?_)
          refine lv_aload_n hx hb dL_drafts_158 rfl (lv_at hl 3 rfl) ?_
          refine lv_aload hx hb dL_drafts_159 (lv_at hl 14 rfl) ?_
          refine lv_iconst (v := nI 1) hx hb dL_drafts_161 (by decide) ?_
          refine x_iald (f := gf D a b) hx hb hK hP (_ + 7) 0 (app_r rfl) rfl (t := 1) (by decide) (by decide) dL_drafts_162 ?_
          refine to_i (y := nI a) rfl ?_
          refine lv_iconst (v := nI 2) hx hb dL_drafts_163 (by decide) ?_
          refine callY_i hP (vx_runSW (As := [.ref oc, .int (nI a), .int (nI 2)]) (rest := []) ⟨hx, hb, hml, hown, hts⟩ (qL_sign l dC dI cy e0 mi oc ad L S N H.size (nI a) (nI 2) hI hX (fun i hi hd => by have := rz_room hR hN hi hd; omega) hst hoc) (vx_cwSW 3 hts gL_drafts_L_sign rfl rfl rfl (by decide +kernel) ⟨Nat.le_of_ble_eq_true rfl, Nat.le_of_ble_eq_true rfl⟩) (preLS hK (w_leftP hP) (w_leftD hD) hS hA ham) rfl rfl hl.1 rfl (lv_room (Nat.le_of_ble_eq_true rfl)) dL_drafts_164 ⟨Nat.le_of_ble_eq_true rfl, Nat.le_of_ble_eq_true rfl⟩) hD hS hA (fun rr uc H locs hw hP hD hS => ?_)
          obtain ⟨rfl, ad, L, rfl, hI, hX, hoc⟩ := lres_n1 hw (if_neg (ct_no (by omega) (by omega)))
          have hP : va_P (dC, dI) vwCl (cw cy e0 ad L S N ++ yw ab cy Y t D a b) H := hP
          have hD : va_D A (cw cy e0 ad L S N ++ yw ab cy Y t D a b) := hD
          refine lv_bipush (v := -71) hx hb dL_drafts_167 (by decide) ?_
          refine lv_icmp_ne (tgt := 225) hx hb dL_drafts_169 (by decide) (fun h9 => absurd rfl h9) (fun _ => ?_)
          refine lv_aload_n hx hb dL_drafts_172 rfl (lv_at hl 3 rfl) ?_
          refine lv_iconst (v := -1) hx hb dL_drafts_173 (by decide) ?_
          refine lv_bipush (v := nI 10) hx hb dL_drafts_174 (by decide) ?_
          refine callY_i hP (vx_runSW (As := [.ref oc, .int ((-1)), .int (nI 10)]) (rest := []) ⟨hx, hb, hml, hown, hts⟩ (qL_version l dC dI cy e0 mi oc ad L S N H.size ((-1)) (nI 10) hI hX hst hoc) (vx_cwSW 3 hts gL_drafts_L_version rfl rfl rfl (by decide +kernel) ⟨Nat.le_of_ble_eq_true rfl, Nat.le_of_ble_eq_true rfl⟩) (preLS hK (w_leftP hP) (w_leftD hD) hS hA ham) rfl rfl hl.1 rfl (lv_room (Nat.le_of_ble_eq_true rfl)) dL_drafts_176 ⟨Nat.le_of_ble_eq_true rfl, Nat.le_of_ble_eq_true rfl⟩) hD hS hA (fun rr uc H locs hw hP hD hS => ?_)
          obtain ⟨rfl, ad, L, rfl, hI, hX, hoc⟩ := lres_n1 hw (if_neg ct_m1)
          have hP : va_P (dC, dI) vwCl (cw cy e0 ad L S N ++ yw ab cy Y t D a b) H := hP
          have hD : va_D A (cw cy e0 ad L S N ++ yw ab cy Y t D a b) := hD
          refine lv_bipush (v := -71) hx hb dL_drafts_179 (by decide) ?_
          refine lv_icmp_ne (tgt := 225) hx hb dL_drafts_181 (by decide) (fun h9 => absurd rfl h9) (fun _ => ?_)
          refine lv_aload_n hx hb dL_drafts_184 rfl (lv_at hl 3 rfl) ?_
          refine lv_aload hx hb dL_drafts_185 (lv_at hl 14 rfl) ?_
          refine lv_iconst (v := nI 1) hx hb dL_drafts_187 (by decide) ?_
          refine x_iald (f := gf D a b) hx hb hK hP (_ + 7) 0 (app_r rfl) rfl (t := 1) (by decide) (by decide) dL_drafts_188 ?_
          refine to_i (y := nI a) rfl ?_
          refine callY_i hP (vx_runSW (As := [.ref oc, .int (nI a)]) (rest := []) ⟨hx, hb, hml, hown, hts⟩ (qL_offered l dC dI cy e0 mi oc ad L S N H.size (nI a) hI hX hst hoc) (vx_cwSW 2 hts gL_drafts_L_offered rfl rfl rfl (by decide +kernel) ⟨Nat.le_of_ble_eq_true rfl, Nat.le_of_ble_eq_true rfl⟩) (preLS hK (w_leftP hP) (w_leftD hD) hS hA ham) rfl rfl hl.1 rfl (lv_room (Nat.le_of_ble_eq_true rfl)) dL_drafts_189 ⟨Nat.le_of_ble_eq_true rfl, Nat.le_of_ble_eq_true rfl⟩) hD hS hA (fun rr uc H locs hw hP hD hS => ?_)
          obtain ⟨rfl, ad, L, rfl, hI, hX, hoc⟩ := lres_n1 hw (if_neg (ct_no (by omega) (by omega)))
          have hP : va_P (dC, dI) vwCl (cw cy e0 ad L S N ++ yw ab cy Y t D a b) H := hP
          have hD : va_D A (cw cy e0 ad L S N ++ yw ab cy Y t D a b) := hD
          refine lv_bipush (v := -71) hx hb dL_drafts_192 (by decide) ?_
          refine lv_icmp_ne (tgt := 225) hx hb dL_drafts_194 (by decide) (fun h9 => absurd rfl h9) (fun _ => ?_)
          refine lv_aload_n hx hb dL_drafts_197 rfl (lv_at hl 3 rfl) ?_
          refine lv_iconst (v := -1) hx hb dL_drafts_198 (by decide) ?_
          refine callY_i hP (vx_runSW (As := [.ref oc, .int ((-1))]) (rest := []) ⟨hx, hb, hml, hown, hts⟩ (qL_whyNot l dC dI cy e0 mi oc ad L S N H.size ((-1)) hI hX hst hoc) (vx_cwSW 2 hts gL_drafts_L_whyNot rfl rfl rfl (by decide +kernel) ⟨Nat.le_of_ble_eq_true rfl, Nat.le_of_ble_eq_true rfl⟩) (preLS hK (w_leftP hP) (w_leftD hD) hS hA ham) rfl rfl hl.1 rfl (lv_room (Nat.le_of_ble_eq_true rfl)) dL_drafts_199 ⟨Nat.le_of_ble_eq_true rfl, Nat.le_of_ble_eq_true rfl⟩) hD hS hA (fun rr uc H locs hw hP hD hS => ?_)
          obtain ⟨rfl, ad, L, rfl, hI, hX, hoc⟩ := lres_n1 hw (if_neg ct_m1)
          have hP : va_P (dC, dI) vwCl (cw cy e0 ad L S N ++ yw ab cy Y t D a b) H := hP
          have hD : va_D A (cw cy e0 ad L S N ++ yw ab cy Y t D a b) := hD
          refine lv_bipush (v := -71) hx hb dL_drafts_202 (by decide) ?_
          refine lv_icmp_ne (tgt := 225) hx hb dL_drafts_204 (by decide) (fun h9 => absurd rfl h9) (fun _ => ?_)
          refine lv_aload_n hx hb dL_drafts_207 rfl (lv_at hl 3 rfl) ?_
          refine lv_aload hx hb dL_drafts_208 (lv_at hl 14 rfl) ?_
          refine lv_iconst (v := nI 1) hx hb dL_drafts_210 (by decide) ?_
          refine x_iald (f := gf D a b) hx hb hK hP (_ + 7) 0 (app_r rfl) rfl (t := 1) (by decide) (by decide) dL_drafts_211 ?_
          refine to_i (y := nI a) rfl ?_
          refine lv_iconst (v := nI 2) hx hb dL_drafts_212 (by decide) ?_
          refine callY_i hP (vx_runSW (As := [.ref oc, .int (nI a), .int (nI 2)]) (rest := []) ⟨hx, hb, hml, hown, hts⟩ (qL_owes l dC dI cy e0 mi oc ad L S N H.size (nI a) (nI 2) hI hX hst hoc) (vx_cwSW 3 hts gL_drafts_L_owes rfl rfl rfl (by decide +kernel) ⟨Nat.le_of_ble_eq_true rfl, Nat.le_of_ble_eq_true rfl⟩) (preLS hK (w_leftP hP) (w_leftD hD) hS hA ham) rfl rfl hl.1 rfl (lv_room (Nat.le_of_ble_eq_true rfl)) dL_drafts_213 ⟨Nat.le_of_ble_eq_true rfl, Nat.le_of_ble_eq_true rfl⟩) hD hS hA (fun rr uc H locs hw hP hD hS => ?_)
          obtain ⟨rfl, ad, L, rfl, hI, hX, hoc⟩ := lres_n1 hw (if_neg (ct_no (by omega) (by omega)))
          have hP : va_P (dC, dI) vwCl (cw cy e0 ad L S N ++ yw ab cy Y t D a b) H := hP
          have hD : va_D A (cw cy e0 ad L S N ++ yw ab cy Y t D a b) := hD
          refine lv_bipush (v := -71) hx hb dL_drafts_216 (by decide) ?_
          refine lv_icmp_ne (tgt := 225) hx hb dL_drafts_218 (by decide) (fun h9 => absurd rfl h9) (fun _ => ?_)
          refine lv_iconst (v := nI 1) hx hb dL_drafts_221 (by decide) ?_
          refine lv_goto (tgt := 226) hx hb dL_drafts_222 (by decide) ?_
          rw [← hQQ]; exact end_z (u := ((ad, L, S, N), (Y, t, D, a, b))) hx hb hr hlocks dL_drafts_226 hK hP hD hS (by rfl) ⟨rfl, ⟨hI, hX⟩, hoc, hR⟩ (Nat.le_of_ble_eq_true rfl) (Nat.le_of_ble_eq_true rfl)
        · refine lv_iload hx hb dL_drafts_113 (lv_at hl 2 rfl) ?_
          refine lv_aload hx hb dL_drafts_115 (lv_at hl 14 rfl) ?_
          refine lv_iconst (v := nI 1) hx hb dL_drafts_117 (by decide) ?_
          refine x_iald (f := gf D a b) hx hb hK hP (_ + 7) 0 (app_r rfl) rfl (t := 1) (by decide) (by decide) dL_drafts_118 ?_
          refine to_i (y := nI a) rfl ?_
          refine lv_icmp_eq (tgt := 127) hx hb dL_drafts_119 (by decide) (fun h9 => absurd h9 (m1_ne (by omega))) (fun _ => ?_)
          refine lv_iload hx hb dL_drafts_122 (lv_at hl 2 rfl) ?_
          refine lv_if_ge (tgt := 227) hx hb dL_drafts_124 (by decide) (fun h9 => absurd h9 (by decide)) (fun _ => ?_)
          refine lv_aload_n hx hb dL_drafts_127 rfl (lv_at hl 3 rfl) ?_
          refine lv_iload hx hb dL_drafts_128 (lv_at hl 2 rfl) ?_
          refine lv_iconst (v := nI 2) hx hb dL_drafts_130 (by decide) ?_
          refine lv_iload hx hb dL_drafts_131 (lv_at hl 0 rfl) ?_
          refine lv_iconst (v := nI 1) hx hb dL_drafts_133 (by decide) ?_
          refine callY_i hP (vx_runSW (As := [.ref oc, .int ((-1)), .int (nI 2), .int (nI cl), .int (nI 1)]) (rest := []) ⟨hx, hb, hml, hown, hts⟩ (qL_mark l dC dI cy e0 mi oc ad L S N H.size ((-1)) (nI 2) (nI cl) (nI 1) hI hX hst hoc) (vx_cwSW 5 hts gL_drafts_L_mark rfl rfl rfl (by decide +kernel) ⟨Nat.le_of_ble_eq_true rfl, Nat.le_of_ble_eq_true rfl⟩) (preLS hK (w_leftP hP) (w_leftD hD) hS hA ham) rfl rfl hl.1 rfl (lv_room (Nat.le_of_ble_eq_true rfl)) dL_drafts_134 ⟨Nat.le_of_ble_eq_true rfl, Nat.le_of_ble_eq_true rfl⟩) hD hS hA (fun rr uc H locs hw hP hD hS => ?_)
          obtain ⟨rfl, ad, L, rfl, hI, hX, hoc⟩ := lres_n1 hw (if_neg (ct_m1))
          have hP : va_P (dC, dI) vwCl (cw cy e0 ad L S N ++ yw ab cy Y t D a b) H := hP
          have hD : va_D A (cw cy e0 ad L S N ++ yw ab cy Y t D a b) := hD
          refine lv_bipush (v := -71) hx hb dL_drafts_137 (by decide) ?_
          refine lv_icmp_ne (tgt := 225) hx hb dL_drafts_139 (by decide) (fun h9 => absurd rfl h9) (fun _ => ?_)
          refine lv_aload_n hx hb dL_drafts_142 rfl (lv_at hl 3 rfl) ?_
          refine lv_aload hx hb dL_drafts_143 (lv_at hl 14 rfl) ?_
          refine lv_iconst (v := nI 1) hx hb dL_drafts_145 (by decide) ?_
          refine x_iald (f := gf D a b) hx hb hK hP (_ + 7) 0 (app_r rfl) rfl (t := 1) (by decide) (by decide) dL_drafts_146 ?_
          refine to_i (y := nI a) rfl ?_
          refine lv_iconst (v := nI 0) hx hb dL_drafts_147 (by decide) ?_
          refine lv_bipush (v := nI 10) hx hb dL_drafts_148 (by decide) ?_
          refine callY_i hP (vx_runSW (As := [.ref oc, .int (nI a), .int (nI 0), .int (nI 10)]) (rest := []) ⟨hx, hb, hml, hown, hts⟩ (qL_renew l dC dI cy e0 mi oc ad L S N H.size (nI a) (nI 0) (nI 10) hI hX hst hoc) (vx_cwSW 4 hts gL_drafts_L_renew rfl rfl rfl (by decide +kernel) ⟨Nat.le_of_ble_eq_true rfl, Nat.le_of_ble_eq_true rfl⟩) (preLS hK (w_leftP hP) (w_leftD hD) hS hA ham) rfl rfl hl.1 rfl (lv_room (Nat.le_of_ble_eq_true rfl)) dL_drafts_150 ⟨Nat.le_of_ble_eq_true rfl, Nat.le_of_ble_eq_true rfl⟩) hD hS hA (fun rr uc H locs hw hP hD hS => ?_)
          obtain ⟨rfl, ad, L, rfl, hI, hX, hoc⟩ := lres_n1 hw (if_neg (ct_no (by omega) (by omega)))
          have hP : va_P (dC, dI) vwCl (cw cy e0 ad L S N ++ yw ab cy Y t D a b) H := hP
          have hD : va_D A (cw cy e0 ad L S N ++ yw ab cy Y t D a b) := hD
          refine lv_bipush (v := -71) hx hb dL_drafts_153 (by decide) ?_
          refine lv_icmp_ne (tgt := 225) hx hb dL_drafts_155 (by decide) (fun h9 => absurd rfl h9) (fun _ => ?_)
          refine lv_aload_n hx hb dL_drafts_158 rfl (lv_at hl 3 rfl) ?_
          refine lv_aload hx hb dL_drafts_159 (lv_at hl 14 rfl) ?_
          refine lv_iconst (v := nI 1) hx hb dL_drafts_161 (by decide) ?_
          refine x_iald (f := gf D a b) hx hb hK hP (_ + 7) 0 (app_r rfl) rfl (t := 1) (by decide) (by decide) dL_drafts_162 ?_
          refine to_i (y := nI a) rfl ?_
          refine lv_iconst (v := nI 2) hx hb dL_drafts_163 (by decide) ?_
          refine callY_i hP (vx_runSW (As := [.ref oc, .int (nI a), .int (nI 2)]) (rest := []) ⟨hx, hb, hml, hown, hts⟩ (qL_sign l dC dI cy e0 mi oc ad L S N H.size (nI a) (nI 2) hI hX (fun i hi hd => by have := rz_room hR hN hi hd; omega) hst hoc) (vx_cwSW 3 hts gL_drafts_L_sign rfl rfl rfl (by decide +kernel) ⟨Nat.le_of_ble_eq_true rfl, Nat.le_of_ble_eq_true rfl⟩) (preLS hK (w_leftP hP) (w_leftD hD) hS hA ham) rfl rfl hl.1 rfl (lv_room (Nat.le_of_ble_eq_true rfl)) dL_drafts_164 ⟨Nat.le_of_ble_eq_true rfl, Nat.le_of_ble_eq_true rfl⟩) hD hS hA (fun rr uc H locs hw hP hD hS => ?_)
          obtain ⟨rfl, ad, L, rfl, hI, hX, hoc⟩ := lres_n1 hw (if_neg (ct_no (by omega) (by omega)))
          have hP : va_P (dC, dI) vwCl (cw cy e0 ad L S N ++ yw ab cy Y t D a b) H := hP
          have hD : va_D A (cw cy e0 ad L S N ++ yw ab cy Y t D a b) := hD
          refine lv_bipush (v := -71) hx hb dL_drafts_167 (by decide) ?_
          refine lv_icmp_ne (tgt := 225) hx hb dL_drafts_169 (by decide) (fun h9 => absurd rfl h9) (fun _ => ?_)
          refine lv_aload_n hx hb dL_drafts_172 rfl (lv_at hl 3 rfl) ?_
          refine lv_iconst (v := -1) hx hb dL_drafts_173 (by decide) ?_
          refine lv_bipush (v := nI 10) hx hb dL_drafts_174 (by decide) ?_
          refine callY_i hP (vx_runSW (As := [.ref oc, .int ((-1)), .int (nI 10)]) (rest := []) ⟨hx, hb, hml, hown, hts⟩ (qL_version l dC dI cy e0 mi oc ad L S N H.size ((-1)) (nI 10) hI hX hst hoc) (vx_cwSW 3 hts gL_drafts_L_version rfl rfl rfl (by decide +kernel) ⟨Nat.le_of_ble_eq_true rfl, Nat.le_of_ble_eq_true rfl⟩) (preLS hK (w_leftP hP) (w_leftD hD) hS hA ham) rfl rfl hl.1 rfl (lv_room (Nat.le_of_ble_eq_true rfl)) dL_drafts_176 ⟨Nat.le_of_ble_eq_true rfl, Nat.le_of_ble_eq_true rfl⟩) hD hS hA (fun rr uc H locs hw hP hD hS => ?_)
          obtain ⟨rfl, ad, L, rfl, hI, hX, hoc⟩ := lres_n1 hw (if_neg ct_m1)
          have hP : va_P (dC, dI) vwCl (cw cy e0 ad L S N ++ yw ab cy Y t D a b) H := hP
          have hD : va_D A (cw cy e0 ad L S N ++ yw ab cy Y t D a b) := hD
          refine lv_bipush (v := -71) hx hb dL_drafts_179 (by decide) ?_
          refine lv_icmp_ne (tgt := 225) hx hb dL_drafts_181 (by decide) (fun h9 => absurd rfl h9) (fun _ => ?_)
          refine lv_aload_n hx hb dL_drafts_184 rfl (lv_at hl 3 rfl) ?_
          refine lv_aload hx hb dL_drafts_185 (lv_at hl 14 rfl) ?_
          refine lv_iconst (v := nI 1) hx hb dL_drafts_187 (by decide) ?_
          refine x_iald (f := gf D a b) hx hb hK hP (_ + 7) 0 (app_r rfl) rfl (t := 1) (by decide) (by decide) dL_drafts_188 ?_
          refine to_i (y := nI a) rfl ?_
          refine callY_i hP (vx_runSW (As := [.ref oc, .int (nI a)]) (rest := []) ⟨hx, hb, hml, hown, hts⟩ (qL_offered l dC dI cy e0 mi oc ad L S N H.size (nI a) hI hX hst hoc) (vx_cwSW 2 hts gL_drafts_L_offered rfl rfl rfl (by decide +kernel) ⟨Nat.le_of_ble_eq_true rfl, Nat.le_of_ble_eq_true rfl⟩) (preLS hK (w_leftP hP) (w_leftD hD) hS hA ham) rfl rfl hl.1 rfl (lv_room (Nat.le_of_ble_eq_true rfl)) dL_drafts_189 ⟨Nat.le_of_ble_eq_true rfl, Nat.le_of_ble_eq_true rfl⟩) hD hS hA (fun rr uc H locs hw hP hD hS => ?_)
          obtain ⟨rfl, ad, L, rfl, hI, hX, hoc⟩ := lres_n1 hw (if_neg (ct_no (by omega) (by omega)))
          have hP : va_P (dC, dI) vwCl (cw cy e0 ad L S N ++ yw ab cy Y t D a b) H := hP
          have hD : va_D A (cw cy e0 ad L S N ++ yw ab cy Y t D a b) := hD
          refine lv_bipush (v := -71) hx hb dL_drafts_192 (by decide) ?_
          refine lv_icmp_ne (tgt := 225) hx hb dL_drafts_194 (by decide) (fun h9 => absurd rfl h9) (fun _ => ?_)
          refine lv_aload_n hx hb dL_drafts_197 rfl (lv_at hl 3 rfl) ?_
          refine lv_iconst (v := -1) hx hb dL_drafts_198 (by decide) ?_
          refine callY_i hP (vx_runSW (As := [.ref oc, .int ((-1))]) (rest := []) ⟨hx, hb, hml, hown, hts⟩ (qL_whyNot l dC dI cy e0 mi oc ad L S N H.size ((-1)) hI hX hst hoc) (vx_cwSW 2 hts gL_drafts_L_whyNot rfl rfl rfl (by decide +kernel) ⟨Nat.le_of_ble_eq_true rfl, Nat.le_of_ble_eq_true rfl⟩) (preLS hK (w_leftP hP) (w_leftD hD) hS hA ham) rfl rfl hl.1 rfl (lv_room (Nat.le_of_ble_eq_true rfl)) dL_drafts_199 ⟨Nat.le_of_ble_eq_true rfl, Nat.le_of_ble_eq_true rfl⟩) hD hS hA (fun rr uc H locs hw hP hD hS => ?_)
          obtain ⟨rfl, ad, L, rfl, hI, hX, hoc⟩ := lres_n1 hw (if_neg ct_m1)
          have hP : va_P (dC, dI) vwCl (cw cy e0 ad L S N ++ yw ab cy Y t D a b) H := hP
          have hD : va_D A (cw cy e0 ad L S N ++ yw ab cy Y t D a b) := hD
          refine lv_bipush (v := -71) hx hb dL_drafts_202 (by decide) ?_
          refine lv_icmp_ne (tgt := 225) hx hb dL_drafts_204 (by decide) (fun h9 => absurd rfl h9) (fun _ => ?_)
          refine lv_aload_n hx hb dL_drafts_207 rfl (lv_at hl 3 rfl) ?_
          refine lv_aload hx hb dL_drafts_208 (lv_at hl 14 rfl) ?_
          refine lv_iconst (v := nI 1) hx hb dL_drafts_210 (by decide) ?_
          refine x_iald (f := gf D a b) hx hb hK hP (_ + 7) 0 (app_r rfl) rfl (t := 1) (by decide) (by decide) dL_drafts_211 ?_
          refine to_i (y := nI a) rfl ?_
          refine lv_iconst (v := nI 2) hx hb dL_drafts_212 (by decide) ?_
          refine callY_i hP (vx_runSW (As := [.ref oc, .int (nI a), .int (nI 2)]) (rest := []) ⟨hx, hb, hml, hown, hts⟩ (qL_owes l dC dI cy e0 mi oc ad L S N H.size (nI a) (nI 2) hI hX hst hoc) (vx_cwSW 3 hts gL_drafts_L_owes rfl rfl rfl (by decide +kernel) ⟨Nat.le_of_ble_eq_true rfl, Nat.le_of_ble_eq_true rfl⟩) (preLS hK (w_leftP hP) (w_leftD hD) hS hA ham) rfl rfl hl.1 rfl (lv_room (Nat.le_of_ble_eq_true rfl)) dL_drafts_213 ⟨Nat.le_of_ble_eq_true rfl, Nat.le_of_ble_eq_true rfl⟩) hD hS hA (fun rr uc H locs hw hP hD hS => ?_)
          obtain ⟨rfl, ad, L, rfl, hI, hX, hoc⟩ := lres_n1 hw (if_neg (ct_no (by omega) (by omega)))
          have hP : va_P (dC, dI) vwCl (cw cy e0 ad L S N ++ yw ab cy Y t D a b) H := hP
          have hD : va_D A (cw cy e0 ad L S N ++ yw ab cy Y t D a b) := hD
          refine lv_bipush (v := -71) hx hb dL_drafts_216 (by decide) ?_
          refine lv_icmp_ne (tgt := 225) hx hb dL_drafts_218 (by decide) (fun h9 => absurd rfl h9) (fun _ => ?_)
          refine lv_iconst (v := nI 1) hx hb dL_drafts_221 (by decide) ?_
          refine lv_goto (tgt := 226) hx hb dL_drafts_222 (by decide) ?_
          rw [← hQQ]; exact end_z (u := ((ad, L, S, N), (Y, t, D, a, b))) hx hb hr hlocks dL_drafts_226 hK hP hD hS (by rfl) ⟨rfl, ⟨hI, hX⟩, hoc, hR⟩ (Nat.le_of_ble_eq_true rfl) (Nat.le_of_ble_eq_true rfl)
      · refine lv_aload hx hb dL_drafts_62 (lv_at hl 14 rfl) ?_
        refine lv_iconst (v := nI 1) hx hb dL_drafts_64 (by decide) ?_
        refine x_iald (f := gf D a b) hx hb hK hP (_ + 7) 0 (app_r rfl) rfl (t := 1) (by decide) (by decide) dL_drafts_65 ?_
        refine to_i (y := nI a) rfl ?_
        refine lv_bipush (v := nI 10) hx hb dL_drafts_66 (by decide) ?_
        refine n_ne (tgt := 86) hx hb dL_drafts_68 (by decide) (by omega) (by omega) (fun c_69 => ?_) (fun c_69 => ?_)
        · refine lv_aload hx hb dL_drafts_86 (lv_at hl 14 rfl) ?_
          refine lv_iconst (v := nI 1) hx hb dL_drafts_88 (by decide) ?_
          refine lv_dup2_11 hx hb dL_drafts_89 rfl rfl ?_
          refine x_iald (f := gf D a b) hx hb hK hP (_ + 7) 0 (app_r rfl) rfl (t := 1) (by decide) (by decide) dL_drafts_90 ?_
          refine to_i (y := nI a) rfl ?_
          refine lv_iconst (v := nI 1) hx hb dL_drafts_91 (by decide) ?_
          refine lv_iadd hx hb dL_drafts_92 ?_
          refine to_i (y := nI (a + 1)) (nI_add _ _) ?_
          refine x_iast (f := gf D a b) hx hb hK hP hD hS (_ + 7) 0 (app_r rfl) rfl (t := 1) (x := (nI (a + 1))) (by decide) (by decide) dL_drafts_93 (fun H locs hP hD hS => ?_)
          rw [app_setr, gf_1] at hP hD
          have hP : va_P (dC, dI) vwCl (cw cy e0 ad L S N ++ yw ab cy Y t D (a + 1) b) H := hP
          have hD : va_D A (cw cy e0 ad L S N ++ yw ab cy Y t D (a + 1) b) := hD
          refine lv_aload_n hx hb dL_drafts_94 rfl (lv_at hl 3 rfl) ?_
          refine callY_i hP (vx_runSW (As := [.ref oc]) (rest := []) ⟨hx, hb, hml, hown, hts⟩ (qL_begin l dC dI cy e0 mi oc ad L S N H.size  hI hX hst hoc) (vx_cwSW 1 hts gL_drafts_L_begin rfl rfl rfl (by decide +kernel) ⟨Nat.le_of_ble_eq_true rfl, Nat.le_of_ble_eq_true rfl⟩) (preLS hK (w_leftP hP) (w_leftD hD) hS hA ham) rfl rfl hl.1 rfl (lv_room (Nat.le_of_ble_eq_true rfl)) dL_drafts_95 ⟨Nat.le_of_ble_eq_true rfl, Nat.le_of_ble_eq_true rfl⟩) hD hS hA (fun rr uc H locs hw hP hD hS => ?_)
          obtain ⟨er, ad, L, rfl, hI, hX, hoc⟩ := lres_n0 hw (if_pos (by omega))
          have hP : va_P (dC, dI) vwCl (cwT cy e0 (ad, L, S_beg S (N 0 0 0), N_beg N (N 0 0 0)) ++ yw ab cy Y t D (a + 1) b) H := hP
          have hD : va_D A (cwT cy e0 (ad, L, S_beg S (N 0 0 0), N_beg N (N 0 0 0)) ++ yw ab cy Y t D (a + 1) b) := hD
          refine to_i (y := nI ((a + 1) - 1)) (er.trans (congrArg nI (by omega))) ?_
          refine lv_aload hx hb dL_drafts_98 (lv_at hl 14 rfl) ?_
          refine lv_iconst (v := nI 1) hx hb dL_drafts_100 (by decide) ?_
          refine x_iald (f := gf D (a + 1) b) hx hb hK hP (_ + 7) 0 (app_r rfl) rfl (t := 1) (by decide) (by decide) dL_drafts_101 ?_
          refine to_i (y := nI (a + 1)) rfl ?_
          refine lv_iconst (v := nI 1) hx hb dL_drafts_102 (by decide) ?_
          refine lv_isub hx hb dL_drafts_103 ?_
          refine to_i (y := nI ((a + 1) - 1)) (pk_sub (by omega)) ?_
          refine lv_icmp_ne (tgt := 111) hx hb dL_drafts_104 (by decide) (fun h9 => absurd rfl h9) (fun _ => ?_)
          refine lv_iconst (v := nI 1) hx hb dL_drafts_107 (by decide) ?_
          refine lv_goto (tgt := 112) hx hb dL_drafts_108 (by decide) ?_
          rw [← hQQ]; exact end_z (u := ((ad, L, S_beg S (N 0 0 0), N_beg N (N 0 0 0)), (Y, t, D, a + 1, b))) hx hb hr hlocks dL_drafts_112 hK hP hD hS (by rfl) ⟨rfl, ⟨hI, hX⟩, hoc, rz_begin hR (by omega)⟩ (Nat.le_of_ble_eq_true rfl) (Nat.le_of_ble_eq_true rfl)
        · refine lv_aload_n hx hb dL_drafts_71 rfl (lv_at hl 3 rfl) ?_
          refine callY_i hP (vx_runSW (As := [.ref oc]) (rest := []) ⟨hx, hb, hml, hown, hts⟩ (qL_begin l dC dI cy e0 mi oc ad L S N H.size  hI hX hst hoc) (vx_cwSW 1 hts gL_drafts_L_begin rfl rfl rfl (by decide +kernel) ⟨Nat.le_of_ble_eq_true rfl, Nat.le_of_ble_eq_true rfl⟩) (preLS hK (w_leftP hP) (w_leftD hD) hS hA ham) rfl rfl hl.1 rfl (lv_room (Nat.le_of_ble_eq_true rfl)) dL_drafts_72 ⟨Nat.le_of_ble_eq_true rfl, Nat.le_of_ble_eq_true rfl⟩) hD hS hA (fun rr uc H locs hw hP hD hS => ?_)
          obtain ⟨rfl, ad, L, rfl, hI, hX, hoc⟩ := lres_n1 hw (if_neg (by omega))
          have hP : va_P (dC, dI) vwCl (cw cy e0 ad L S N ++ yw ab cy Y t D a b) H := hP
          have hD : va_D A (cw cy e0 ad L S N ++ yw ab cy Y t D a b) := hD
          refine lv_bipush (v := -73) hx hb dL_drafts_75 (by decide) ?_
          refine lv_icmp_ne (tgt := 84) hx hb dL_drafts_77 (by decide) (fun h9 => absurd rfl h9) (fun _ => ?_)
          refine lv_iconst (v := nI 1) hx hb dL_drafts_80 (by decide) ?_
          refine lv_goto (tgt := 85) hx hb dL_drafts_81 (by decide) ?_
          rw [← hQQ]; exact end_z (u := ((ad, L, S, N), (Y, t, D, a, b))) hx hb hr hlocks dL_drafts_85 hK hP hD hS (by rfl) ⟨rfl, ⟨hI, hX⟩, hoc, hR⟩ (Nat.le_of_ble_eq_true rfl) (Nat.le_of_ble_eq_true rfl)
    refine lv_if_ne (tgt := 52) hx hb dL_drafts_44 (by decide) (fun c_70 => ?_) (fun c_70 => ?_)
    · refine lv_iconst (v := nI 3) hx hb dL_drafts_52 (by decide) ?_
      exact J53 3 (Or.inr rfl) H locs hP hD hS
    · refine lv_bipush (v := nI 6) hx hb dL_drafts_47 (by decide) ?_
      refine lv_goto (tgt := 53) hx hb dL_drafts_49 (by decide) ?_
      exact J53 6 (Or.inl rfl) H locs hP hD hS
  refine lv_if_ne (tgt := 23) hx hb dL_drafts_4 (by decide) (fun c_71 => ?_) (fun c_71 => ?_)
  · refine lv_aload hx hb dL_drafts_23 (lv_at hl 11 rfl) ?_
    refine lv_iconst (v := nI 1) hx hb dL_drafts_25 (by decide) ?_
    refine x_iald (f := gf D a b) hx hb hK hP (_ + 7) 0 (app_r rfl) rfl (t := 1) (by decide) (by decide) dL_drafts_26 ?_
    refine to_i (y := nI a) rfl ?_
    refine lv_iconst (v := nI 1) hx hb dL_drafts_27 (by decide) ?_
    refine lv_isub hx hb dL_drafts_28 ?_
    exact J29 ((nI a) - (nI 1)) (am1 a) H locs hP hD hS
  · refine lv_iload_n hx hb dL_drafts_7 rfl (lv_at hl 2 rfl) ?_
    refine lv_bipush (v := nI 7) hx hb dL_drafts_8 (by decide) ?_
    refine lv_ishr hx hb dL_drafts_10 ?_
    refine lv_aload hx hb dL_drafts_11 (lv_at hl 11 rfl) ?_
    refine lv_iconst (v := nI 1) hx hb dL_drafts_13 (by decide) ?_
    refine x_iald (f := gf D a b) hx hb hK hP (_ + 7) 0 (app_r rfl) rfl (t := 1) (by decide) (by decide) dL_drafts_14 ?_
    refine to_i (y := nI a) rfl ?_
    refine lv_iconst (v := nI 1) hx hb dL_drafts_15 (by decide) ?_
    refine lv_iadd hx hb dL_drafts_16 ?_
    refine to_i (y := nI (a + 1)) (nI_add _ _) ?_
    refine call_i (va_runS (As := [.int (y >>> ((nI 7) &&& 31)), .int (nI (a + 1))]) (rest := []) ⟨hx, hb, hml, hown, hts⟩ (qL_low l dC dI cy (cw cy e0 ad L S N ++ yw ab cy Y t D a b) H.size (y >>> ((nI 7) &&& 31)) (a + 1) (by omega) (by omega)) (va_cwS 2 hts gL_drafts_L_low rfl rfl rfl (by decide +kernel) ⟨Nat.le_of_ble_eq_true rfl, Nat.le_of_ble_eq_true rfl⟩) (preS hK hP hD) rfl rfl hl.1 rfl (lv_room (Nat.le_of_ble_eq_true rfl)) dL_drafts_17 ⟨Nat.le_of_ble_eq_true rfl, Nat.le_of_ble_eq_true rfl⟩) hD hS hA (fun rr uu H locs hw hP hD hS => ?_)
    obtain ⟨kc, hkc, rfl⟩ := hw
    have hP : va_P (dC, dI) vwCl (cw cy e0 ad L S N ++ yw ab cy Y t D a b) H := hP
    have hD : va_D A (cw cy e0 ad L S N ++ yw ab cy Y t D a b) := hD
    refine lv_goto (tgt := 29) hx hb dL_drafts_20 (by decide) ?_
    exact J29 (nI kc) (Or.inl ⟨kc, hkc, rfl⟩) H locs hP hD hS

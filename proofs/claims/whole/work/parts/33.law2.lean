abbrev LU : Type := CT × (Nat → Int64)
abbrev lwU (cy : Nat → ClassId) (e0 oa : Nat) (u : LU) : va_W := cwT cy e0 u.1 ++ [(oa, .inl (cy 5, 1, .inr (.inl u.2)))]
theorem updL_0 (f : Nat → Int64) (x : Int64) : vp_updL f 0 x 0 = x := by simp [vp_updL]

set_option maxHeartbeats 4000000 in
set_option maxRecDepth 100000 in
theorem qL_issue (l : Launch) (dC : Nat → ClassId) (dI : Nat → Nat → Nat) (cy : Nat → ClassId) (e0 mi oa : Nat) (ad : Lc → Nat) (L : List Lc) (S : SS) (N : NN) (f0 : Nat → Int64) (sz : Nat) (a o d k z : Int32) (hI : okC L N) (hX : okX L N)  (hst : l.stackTraces = false) : Met l yL_issue wsL_issue ({ frames := 8, cells := 8, slots := 64, locals := 136 }) (va_Pc [.ref (ad (10, 0)), .int a, .int o, .int d, .int k, .int z, .ref oa] (wPreL (dC, dI) (tyL cy) e0 mi (cw cy e0 ad L S N ++ [(oa, .inl (cy 5, 1, .inr (.inl (f0))))]) sz)) (QI (dC, dI) (tyL cy) (fun (r : Int32) (u : LU) => r = nI (V_issue N a o d k z) ∧ (V_issue N a o d k z = 0 → (u.2 0 = (nI (N 1 0 (ix a) + 1)).toInt64 ∧ u.1.2.2 = (S_iss S (9 * ix a + N 1 0 (ix a)) d k z, N_iss N (ix a) (ix o)))) ∧ (¬ V_issue N a o d k z = 0 → u.1.2.2 = (S, N)) ∧ okU u.1 ∧ u.1.1 (10, 0) = ad (10, 0)) (lwU cy e0 oa) (va_A (cw cy e0 ad L S N ++ [(oa, .inl (cy 5, 1, .inr (.inl (f0))))]) sz)) 8 64 (va_A (cw cy e0 ad L S N ++ [(oa, .inl (cy 5, 1, .inr (.inl (f0))))]) sz) := by
  refine enL (cc := cL_issue) (maxL := 8) (ret := (some .int)) (hh := [(0, 16, 19, 13), (0, 16, 23, 15)]) (own := RL) (lv := [(0, .ref (ad (10, 0))), (1, .int a), (2, .int o), (3, .int d), (4, .int k), (5, .int z), (6, .ref oa)]) (by decide) rfl rfl (Nat.le_of_ble_eq_true rfl) rfl ?_
  intro p e s m below meth c ls A H locs hx hb hr hts hown hlocks hml hin hsz hK hP hD hS hA hl ham htab
  generalize hQQ : MQ below _ _ s _ _ A = QQ
  have lk0 : (Cond.classLink RL 13 "java/lang/IllegalArgumentException").before (([.ref (ad (10, 0)), .int a, .int o, .int d, .int k, .int z, .ref oa] : List Value).toArray) s = true := hts _ (List.mem_of_getElem? (i := 1) rfl)
  have lk1 : (Cond.classLink RL 15 "java/lang/IllegalStateException").before (([.ref (ad (10, 0)), .int a, .int o, .int d, .int k, .int z, .ref oa] : List Value).toArray) s = true := hts _ (List.mem_of_getElem? (i := 2) rfl)
  refine lv_aload hx hb dL_issue_0 (lv_at hl 6 rfl) ?_
  refine lv_iconst (v := nI 0) hx hb dL_issue_2 (by decide) ?_
  refine lv_aload_n hx hb dL_issue_3 rfl (lv_at hl 0 rfl) ?_
  refine lv_iload_n hx hb dL_issue_4 rfl (lv_at hl 1 rfl) ?_
  refine lv_iload_n hx hb dL_issue_5 rfl (lv_at hl 2 rfl) ?_
  refine lv_iload_n hx hb dL_issue_6 rfl (lv_at hl 3 rfl) ?_
  refine lv_iload hx hb dL_issue_7 (lv_at hl 4 rfl) ?_
  refine lv_iload hx hb dL_issue_9 (lv_at hl 5 rfl) ?_
  obtain ⟨hMF, hI0⟩ := (⟨hI.1.2.2.2.1, hI⟩ : _ ∧ okC L N)
  obtain ⟨z10, hz10⟩ := pl_get (ad := ad) (f := cc cy e0 ad S N) (hMF 10 (by decide))
  have hP0 := w_leftP hP
  have hD0 := w_leftD hD
  refine callY_ix hP (vx_runV (As := [.int a, .int o, .int d, .int k, .int z]) (rest := [.int (nI 0), .ref oa]) ⟨hx, hb, hml, hown, hts⟩ (qX3_issue l dC dI cy e0 mi ad L S N H.size a o d k z hI0 hX hst) (cwV 5 hts gL_issue_X3_issue rfl rfl rfl (by decide +kernel) ⟨Nat.le_of_ble_eq_true rfl, Nat.le_of_ble_eq_true rfl⟩) (preXV hK hP0 hD0 hS hA ham.1 (w_recv (ci := 4) (q0 := z10) hK hP0 hz10 rfl)) rfl rfl hl.1 rfl (lv_room (Nat.le_of_ble_eq_true rfl)) dL_issue_11 ⟨Nat.le_of_ble_eq_true rfl, Nat.le_of_ble_eq_true rfl⟩) hD hS hA (fun E ce q9 H locs hpx hP hS hc1 hc2 hc3 => ?_) (fun rr uc H locs hw hP hD hS => ?_)
  · rcases hpx with ⟨hv, rfl⟩ | ⟨hv, rfl⟩
    · refine vx_catch (name := "java/lang/IllegalArgumentException") hown [] ⟨0, 16, 19, 13⟩ [⟨0, 16, 23, 15⟩] (by rw [htab]; rfl) (fun z hz => absurd hz (List.not_mem_nil)) rfl (by decide : (13 : Nat) ≠ 0) lk0 (va_Nw.use rfl (ham.1.2.2.2.2.2.1 ("java/lang/IllegalArgumentException", "java/lang/IllegalArgumentException") (by decide))) hc1 hc2 hc3 ?_
      refine lv_astore (lv' := [(7, .ref q9), (0, .ref (ad (10, 0))), (1, .int a), (2, .int o), (3, .int d), (4, .int k), (5, .int z), (6, .ref oa)]) hx hb dL_issue_19 hl (by decide) rfl (fun ls hl => ?_)
      refine lv_iconst (v := nI 1) hx hb dL_issue_21 (by decide) ?_
      rw [← hQQ]; exact end_i (u := ((ad, L, S, N), f0)) hx hb hr hlocks dL_issue_22 hK hP hD hS ⟨by rw [hv], fun h => absurd (hv.symm.trans h) (by decide), fun _ => rfl, ⟨hI, hX⟩, rfl⟩ (Nat.le_of_ble_eq_true rfl) (Nat.le_of_ble_eq_true rfl)
    · refine vx_catch (name := "java/lang/IllegalStateException") hown [⟨0, 16, 19, 13⟩] ⟨0, 16, 23, 15⟩ [] (by rw [htab]; rfl) (fun z hz => by rw [List.mem_singleton.mp hz]; exact Or.inr ⟨(by decide : (13 : Nat) ≠ 0), "java/lang/IllegalArgumentException", lk0, ham.2 ("java/lang/IllegalStateException", "java/lang/IllegalArgumentException") (by decide)⟩) rfl (by decide : (15 : Nat) ≠ 0) lk1 (va_Nw.use rfl (ham.1.2.2.2.2.2.1 ("java/lang/IllegalStateException", "java/lang/IllegalStateException") (by decide))) hc1 hc2 hc3 ?_
      refine lv_astore (lv' := [(7, .ref q9), (0, .ref (ad (10, 0))), (1, .int a), (2, .int o), (3, .int d), (4, .int k), (5, .int z), (6, .ref oa)]) hx hb dL_issue_23 hl (by decide) rfl (fun ls hl => ?_)
      refine lv_iconst (v := nI 2) hx hb dL_issue_25 (by decide) ?_
      rw [← hQQ]; exact end_i (u := ((ad, L, S, N), f0)) hx hb hr hlocks dL_issue_26 hK hP hD hS ⟨by rw [hv], fun h => absurd (hv.symm.trans h) (by decide), fun _ => rfl, ⟨hI, hX⟩, rfl⟩ (Nat.le_of_ble_eq_true rfl) (Nat.le_of_ble_eq_true rfl)
  · obtain ⟨hv, rfl, hu, hok, had⟩ := hw
    have hP : va_P (dC, dI) vwCl (cwT cy e0 uc ++ [(oa, .inl (cy 5, 1, .inr (.inl (f0))))]) H := hP
    have hD : va_D A (cwT cy e0 uc ++ [(oa, .inl (cy 5, 1, .inr (.inl (f0))))]) := hD
    refine lv_i2l hx hb dL_issue_14 rfl ?_
    refine va_last (f := f0) hx hb hK hP hD hS ((cwT cy e0 uc).length + 0) 5 (app_r rfl) rfl (vp_in_nI (by decide) (by decide)) dL_issue_15 (fun H locs hP hD hS => ?_)
    rw [nI_clamp (by decide), app_setr] at hP hD
    have hP : va_P (dC, dI) vwCl (cwT cy e0 uc ++ [(oa, .inl (cy 5, 1, .inr (.inl (vp_updL f0 0 ((nI (N 1 0 (ix a) + 1)).toInt64)))))]) H := hP
    have hD : va_D A (cwT cy e0 uc ++ [(oa, .inl (cy 5, 1, .inr (.inl (vp_updL f0 0 ((nI (N 1 0 (ix a) + 1)).toInt64)))))]) := hD
    refine lv_goto (tgt := 27) hx hb dL_issue_16 (by decide) ?_
    refine lv_iconst (v := nI 0) hx hb dL_issue_27 (by decide) ?_
    rw [← hQQ]; exact end_i (u := (uc, vp_updL f0 0 ((nI (N 1 0 (ix a) + 1)).toInt64))) hx hb hr hlocks dL_issue_28 hK hP hD hS ⟨by rw [hv], fun _ => ⟨updL_0 f0 _, hu⟩, fun h => absurd hv h, hok, had⟩ (Nat.le_of_ble_eq_true rfl) (Nat.le_of_ble_eq_true rfl)

set_option maxHeartbeats 4000000 in
set_option maxRecDepth 100000 in
theorem qL_relate (l : Launch) (dC : Nat → ClassId) (dI : Nat → Nat → Nat) (cy : Nat → ClassId) (e0 mi oa : Nat) (ad : Lc → Nat) (L : List Lc) (S : SS) (N : NN) (f0 : Nat → Int64) (sz : Nat) (a n f : Int32) (hI : okC L N) (hX : okX L N)  (hst : l.stackTraces = false) : Met l yL_relate wsL_relate ({ frames := 8, cells := 3, slots := 18, locals := 134 }) (va_Pc [.ref (ad (10, 0)), .int a, .int n, .int f] (wPreL (dC, dI) (tyL cy) e0 mi (cw cy e0 ad L S N ++ [(oa, .inl (cy 5, 1, .inr (.inl (f0))))]) sz)) (QI (dC, dI) (tyL cy) (fun (r : Int32) (u : LU) => r = nI (V_relate a n f) ∧ (V_relate a n f = 0 → u.1.2.2 = (su (su S 1 0 (upd (S 1 0) (ix a) n)) 2 0 (upd (S 2 0) (ix a) f), N)) ∧ (¬ V_relate a n f = 0 → u.1.2.2 = (S, N)) ∧ okU u.1 ∧ u.1.1 (10, 0) = ad (10, 0)) (lwU cy e0 oa) (va_A (cw cy e0 ad L S N ++ [(oa, .inl (cy 5, 1, .inr (.inl (f0))))]) sz)) 3 18 (va_A (cw cy e0 ad L S N ++ [(oa, .inl (cy 5, 1, .inr (.inl (f0))))]) sz) := by
  refine enL (cc := cL_relate) (maxL := 5) (ret := (some .int)) (hh := [(0, 7, 10, 13)]) (own := RL) (lv := [(0, .ref (ad (10, 0))), (1, .int a), (2, .int n), (3, .int f)]) (by decide) rfl rfl (Nat.le_of_ble_eq_true rfl) rfl ?_
  intro p e s m below meth c ls A H locs hx hb hr hts hown hlocks hml hin hsz hK hP hD hS hA hl ham htab
  generalize hQQ : MQ below _ _ s _ _ A = QQ
  have lk0 : (Cond.classLink RL 13 "java/lang/IllegalArgumentException").before (([.ref (ad (10, 0)), .int a, .int n, .int f] : List Value).toArray) s = true := hts _ (List.mem_of_getElem? (i := 1) rfl)
  refine lv_aload_n hx hb dL_relate_0 rfl (lv_at hl 0 rfl) ?_
  refine lv_iload_n hx hb dL_relate_1 rfl (lv_at hl 1 rfl) ?_
  refine lv_iload_n hx hb dL_relate_2 rfl (lv_at hl 2 rfl) ?_
  refine lv_iload_n hx hb dL_relate_3 rfl (lv_at hl 3 rfl) ?_
  obtain ⟨hMF, hI0⟩ := (⟨hI.1.2.2.2.1, hI⟩ : _ ∧ okC L N)
  obtain ⟨z10, hz10⟩ := pl_get (ad := ad) (f := cc cy e0 ad S N) (hMF 10 (by decide))
  have hP0 := w_leftP hP
  have hD0 := w_leftD hD
  refine callY_vx hP (vx_runV (As := [.int a, .int n, .int f]) (rest := []) ⟨hx, hb, hml, hown, hts⟩ (qX3_relate l dC dI cy e0 mi ad L S N H.size a n f hI0  hst) (cwV 3 hts gL_relate_X3_relate rfl rfl rfl (by decide +kernel) ⟨Nat.le_of_ble_eq_true rfl, Nat.le_of_ble_eq_true rfl⟩) (preXV hK hP0 hD0 hS hA ham.1 (w_recv (ci := 4) (q0 := z10) hK hP0 hz10 rfl)) rfl rfl hl.1 rfl (lv_room (Nat.le_of_ble_eq_true rfl)) dL_relate_4 ⟨Nat.le_of_ble_eq_true rfl, Nat.le_of_ble_eq_true rfl⟩) hD hS hA (fun E ce q9 H locs hpx hP hS hc1 hc2 hc3 => ?_) (fun uc H locs hw hP hD hS => ?_)
  · obtain ⟨hv, rfl⟩ := hpx
    refine vx_catch (name := "java/lang/IllegalArgumentException") hown [] ⟨0, 7, 10, 13⟩ [] (by rw [htab]; rfl) (fun z hz => absurd hz (List.not_mem_nil)) rfl (by decide : (13 : Nat) ≠ 0) lk0 (va_Nw.use rfl (ham.1.2.2.2.2.2.1 ("java/lang/IllegalArgumentException", "java/lang/IllegalArgumentException") (by decide))) hc1 hc2 hc3 ?_
    refine lv_astore (lv' := [(4, .ref q9), (0, .ref (ad (10, 0))), (1, .int a), (2, .int n), (3, .int f)]) hx hb dL_relate_10 hl (by decide) rfl (fun ls hl => ?_)
    refine lv_iconst (v := nI 1) hx hb dL_relate_12 (by decide) ?_
    rw [← hQQ]; exact end_i (u := ((ad, L, S, N), f0)) hx hb hr hlocks dL_relate_13 hK hP hD hS ⟨by rw [hv], fun h => absurd (hv.symm.trans h) (by decide), fun _ => rfl, ⟨hI, hX⟩, rfl⟩ (Nat.le_of_ble_eq_true rfl) (Nat.le_of_ble_eq_true rfl)
  · obtain ⟨hv, hu⟩ := hw
    have hP : va_P (dC, dI) vwCl (cwU cy e0 ad L uc ++ [(oa, .inl (cy 5, 1, .inr (.inl (f0))))]) H := hP
    have hD : va_D A (cwU cy e0 ad L uc ++ [(oa, .inl (cy 5, 1, .inr (.inl (f0))))]) := hD
    refine lv_goto (tgt := 14) hx hb dL_relate_7 (by decide) ?_
    refine lv_iconst (v := nI 0) hx hb dL_relate_14 (by decide) ?_
    rw [← hQQ]; exact end_i (u := ((ad, L, uc), f0)) hx hb hr hlocks dL_relate_15 hK hP hD hS ⟨by rw [hv], fun _ => hu, fun h => absurd hv h, (by
    rw [show ((ad, L, uc) : CT) = (ad, L, (su (su S 1 0 (upd (S 1 0) (ix a) n)) 2 0 (upd (S 2 0) (ix a) f), N)) by rw [hu]]
    exact ⟨hI0, hX⟩), rfl⟩ (Nat.le_of_ble_eq_true rfl) (Nat.le_of_ble_eq_true rfl)

set_option maxHeartbeats 4000000 in
set_option maxRecDepth 100000 in
theorem qL_latest (l : Launch) (dC : Nat → ClassId) (dI : Nat → Nat → Nat) (cy : Nat → ClassId) (e0 mi oa : Nat) (ad : Lc → Nat) (L : List Lc) (S : SS) (N : NN) (f0 : Nat → Int64) (sz : Nat) (a : Int32) (hI : okC L N) (hX : okX L N)  (hst : l.stackTraces = false) : Met l yL_latest wsL_latest ({ frames := 8, cells := 1, slots := 6, locals := 131 }) (va_Pc [.ref (ad (10, 0)), .int a, .ref oa] (wPreL (dC, dI) (tyL cy) e0 mi (cw cy e0 ad L S N ++ [(oa, .inl (cy 5, 1, .inr (.inl (f0))))]) sz)) (QI (dC, dI) (tyL cy) (fun (r : Int32) (u : LU) => r = nI (V_latest a) ∧ (V_latest a = 0 → (u.2 0 = (nI (N 1 0 (ix a))).toInt64 ∧ u.1.2.2 = (S, N))) ∧ (¬ V_latest a = 0 → u.1.2.2 = (S, N)) ∧ okU u.1 ∧ u.1.1 (10, 0) = ad (10, 0)) (lwU cy e0 oa) (va_A (cw cy e0 ad L S N ++ [(oa, .inl (cy 5, 1, .inr (.inl (f0))))]) sz)) 1 6 (va_A (cw cy e0 ad L S N ++ [(oa, .inl (cy 5, 1, .inr (.inl (f0))))]) sz) := by
  refine enL (cc := cL_latest) (maxL := 4) (ret := (some .int)) (hh := [(0, 9, 12, 13)]) (own := RL) (lv := [(0, .ref (ad (10, 0))), (1, .int a), (2, .ref oa)]) (by decide) rfl rfl (Nat.le_of_ble_eq_true rfl) rfl ?_
  intro p e s m below meth c ls A H locs hx hb hr hts hown hlocks hml hin hsz hK hP hD hS hA hl ham htab
  generalize hQQ : MQ below _ _ s _ _ A = QQ
  have lk0 : (Cond.classLink RL 13 "java/lang/IllegalArgumentException").before (([.ref (ad (10, 0)), .int a, .ref oa] : List Value).toArray) s = true := hts _ (List.mem_of_getElem? (i := 1) rfl)
  refine lv_aload_n hx hb dL_latest_0 rfl (lv_at hl 2 rfl) ?_
  refine lv_iconst (v := nI 0) hx hb dL_latest_1 (by decide) ?_
  refine lv_aload_n hx hb dL_latest_2 rfl (lv_at hl 0 rfl) ?_
  refine lv_iload_n hx hb dL_latest_3 rfl (lv_at hl 1 rfl) ?_
  obtain ⟨hMF, hI0⟩ := (⟨hI.1.2.2.2.1, hI⟩ : _ ∧ okC L N)
  obtain ⟨z10, hz10⟩ := pl_get (ad := ad) (f := cc cy e0 ad S N) (hMF 10 (by decide))
  have hP0 := w_leftP hP
  have hD0 := w_leftD hD
  refine callY_ix hP (vx_runV (As := [.int a]) (rest := [.int (nI 0), .ref oa]) ⟨hx, hb, hml, hown, hts⟩ (qX3_latest l dC dI cy e0 mi ad L S N H.size a hI0  hst) (cwV 1 hts gL_latest_X3_latest rfl rfl rfl (by decide +kernel) ⟨Nat.le_of_ble_eq_true rfl, Nat.le_of_ble_eq_true rfl⟩) (preXV hK hP0 hD0 hS hA ham.1 (w_recv (ci := 4) (q0 := z10) hK hP0 hz10 rfl)) rfl rfl hl.1 rfl (lv_room (Nat.le_of_ble_eq_true rfl)) dL_latest_4 ⟨Nat.le_of_ble_eq_true rfl, Nat.le_of_ble_eq_true rfl⟩) hD hS hA (fun E ce q9 H locs hpx hP hS hc1 hc2 hc3 => ?_) (fun rr uc H locs hw hP hD hS => ?_)
  · obtain ⟨hv, rfl⟩ := hpx
    refine vx_catch (name := "java/lang/IllegalArgumentException") hown [] ⟨0, 9, 12, 13⟩ [] (by rw [htab]; rfl) (fun z hz => absurd hz (List.not_mem_nil)) rfl (by decide : (13 : Nat) ≠ 0) lk0 (va_Nw.use rfl (ham.1.2.2.2.2.2.1 ("java/lang/IllegalArgumentException", "java/lang/IllegalArgumentException") (by decide))) hc1 hc2 hc3 ?_
    refine lv_astore_n (lv' := [(3, .ref q9), (0, .ref (ad (10, 0))), (1, .int a), (2, .ref oa)]) hx hb dL_latest_12 rfl hl (by decide) rfl (fun ls hl => ?_)
    refine lv_iconst (v := nI 1) hx hb dL_latest_13 (by decide) ?_
    rw [← hQQ]; exact end_i (u := ((ad, L, S, N), f0)) hx hb hr hlocks dL_latest_14 hK hP hD hS ⟨by rw [hv], fun h => absurd (hv.symm.trans h) (by decide), fun _ => rfl, ⟨hI, hX⟩, rfl⟩ (Nat.le_of_ble_eq_true rfl) (Nat.le_of_ble_eq_true rfl)
  · obtain ⟨hv, rfl, hu⟩ := hw
    have hP : va_P (dC, dI) vwCl (cwU cy e0 ad L uc ++ [(oa, .inl (cy 5, 1, .inr (.inl (f0))))]) H := hP
    have hD : va_D A (cwU cy e0 ad L uc ++ [(oa, .inl (cy 5, 1, .inr (.inl (f0))))]) := hD
    refine lv_i2l hx hb dL_latest_7 rfl ?_
    refine va_last (f := f0) hx hb hK hP hD hS ((cwU cy e0 ad L uc).length + 0) 5 (app_r rfl) rfl (vp_in_nI (by decide) (by decide)) dL_latest_8 (fun H locs hP hD hS => ?_)
    rw [nI_clamp (by decide), app_setr] at hP hD
    have hP : va_P (dC, dI) vwCl (cwU cy e0 ad L uc ++ [(oa, .inl (cy 5, 1, .inr (.inl (vp_updL f0 0 ((nI (N 1 0 (ix a))).toInt64)))))]) H := hP
    have hD : va_D A (cwU cy e0 ad L uc ++ [(oa, .inl (cy 5, 1, .inr (.inl (vp_updL f0 0 ((nI (N 1 0 (ix a))).toInt64)))))]) := hD
    refine lv_goto (tgt := 15) hx hb dL_latest_9 (by decide) ?_
    refine lv_iconst (v := nI 0) hx hb dL_latest_15 (by decide) ?_
    rw [← hQQ]; exact end_i (u := ((ad, L, uc), vp_updL f0 0 ((nI (N 1 0 (ix a))).toInt64))) hx hb hr hlocks dL_latest_16 hK hP hD hS ⟨by rw [hv], fun _ => ⟨updL_0 f0 _, hu⟩, fun h => absurd hv h, (by
    rw [show ((ad, L, uc) : CT) = (ad, L, (S, N)) by rw [hu]]
    exact ⟨hI0, hX⟩), rfl⟩ (Nat.le_of_ble_eq_true rfl) (Nat.le_of_ble_eq_true rfl)

set_option maxHeartbeats 4000000 in
set_option maxRecDepth 100000 in
theorem qL_begin (l : Launch) (dC : Nat → ClassId) (dI : Nat → Nat → Nat) (cy : Nat → ClassId) (e0 mi oa : Nat) (ad : Lc → Nat) (L : List Lc) (S : SS) (N : NN) (f0 : Nat → Int64) (sz : Nat)  (hI : okC L N) (hX : okX L N)  (hst : l.stackTraces = false) : Met l yL_begin wsL_begin ({ frames := 9, cells := 9, slots := 500, locals := 232 }) (va_Pc [.ref (ad (10, 0)), .ref oa] (wPreL (dC, dI) (tyL cy) e0 mi (cw cy e0 ad L S N ++ [(oa, .inl (cy 5, 1, .inr (.inl (f0))))]) sz)) (QI (dC, dI) (tyL cy) (fun (r : Int32) (u : LU) => r = nI (V_begin N) ∧ (V_begin N = 0 → (u.2 0 = (nI (N 0 0 0)).toInt64 ∧ u.1.2.2 = (S_beg S (N 0 0 0), N_beg N (N 0 0 0)))) ∧ (¬ V_begin N = 0 → u.1.2.2 = (S, N)) ∧ okU u.1 ∧ u.1.1 (10, 0) = ad (10, 0)) (lwU cy e0 oa) (va_A (cw cy e0 ad L S N ++ [(oa, .inl (cy 5, 1, .inr (.inl (f0))))]) sz)) 9 500 (va_A (cw cy e0 ad L S N ++ [(oa, .inl (cy 5, 1, .inr (.inl (f0))))]) sz) := by
  refine enL (cc := cL_begin) (maxL := 3) (ret := (some .int)) (hh := [(0, 8, 11, 15)]) (own := RL) (lv := [(0, .ref (ad (10, 0))), (1, .ref oa)]) (by decide) rfl rfl (Nat.le_of_ble_eq_true rfl) rfl ?_
  intro p e s m below meth c ls A H locs hx hb hr hts hown hlocks hml hin hsz hK hP hD hS hA hl ham htab
  generalize hQQ : MQ below _ _ s _ _ A = QQ
  have lk0 : (Cond.classLink RL 15 "java/lang/IllegalStateException").before (([.ref (ad (10, 0)), .ref oa] : List Value).toArray) s = true := hts _ (List.mem_of_getElem? (i := 1) rfl)
  refine lv_aload_n hx hb dL_begin_0 rfl (lv_at hl 1 rfl) ?_
  refine lv_iconst (v := nI 0) hx hb dL_begin_1 (by decide) ?_
  refine lv_aload_n hx hb dL_begin_2 rfl (lv_at hl 0 rfl) ?_
  obtain ⟨hMF, hI0⟩ := (⟨hI.1.2.2.2.1, hI⟩ : _ ∧ okC L N)
  obtain ⟨z10, hz10⟩ := pl_get (ad := ad) (f := cc cy e0 ad S N) (hMF 10 (by decide))
  have hP0 := w_leftP hP
  have hD0 := w_leftD hD
  refine callY_ix hP (vx_runV (As := []) (rest := [.int (nI 0), .ref oa]) ⟨hx, hb, hml, hown, hts⟩ (qX3_begin l dC dI cy e0 mi ad L S N H.size  hI0 hX hst) (cwV 0 hts gL_begin_X3_begin rfl rfl rfl (by decide +kernel) ⟨Nat.le_of_ble_eq_true rfl, Nat.le_of_ble_eq_true rfl⟩) (preXV hK hP0 hD0 hS hA ham.1 (w_recv (ci := 4) (q0 := z10) hK hP0 hz10 rfl)) rfl rfl hl.1 rfl (lv_room (Nat.le_of_ble_eq_true rfl)) dL_begin_3 ⟨Nat.le_of_ble_eq_true rfl, Nat.le_of_ble_eq_true rfl⟩) hD hS hA (fun E ce q9 H locs hpx hP hS hc1 hc2 hc3 => ?_) (fun rr uc H locs hw hP hD hS => ?_)
  · obtain ⟨hv, rfl⟩ := hpx
    refine vx_catch (name := "java/lang/IllegalStateException") hown [] ⟨0, 8, 11, 15⟩ [] (by rw [htab]; rfl) (fun z hz => absurd hz (List.not_mem_nil)) rfl (by decide : (15 : Nat) ≠ 0) lk0 (va_Nw.use rfl (ham.1.2.2.2.2.2.1 ("java/lang/IllegalStateException", "java/lang/IllegalStateException") (by decide))) hc1 hc2 hc3 ?_
    refine lv_astore_n (lv' := [(2, .ref q9), (0, .ref (ad (10, 0))), (1, .ref oa)]) hx hb dL_begin_11 rfl hl (by decide) rfl (fun ls hl => ?_)
    refine lv_iconst (v := nI 1) hx hb dL_begin_12 (by decide) ?_
    rw [← hQQ]; exact end_i (u := ((ad, L, S, N), f0)) hx hb hr hlocks dL_begin_13 hK hP hD hS ⟨by rw [hv], fun h => absurd (hv.symm.trans h) (by decide), fun _ => rfl, ⟨hI, hX⟩, rfl⟩ (Nat.le_of_ble_eq_true rfl) (Nat.le_of_ble_eq_true rfl)
  · obtain ⟨hv, rfl, hu, hok, had⟩ := hw
    have hP : va_P (dC, dI) vwCl (cwT cy e0 uc ++ [(oa, .inl (cy 5, 1, .inr (.inl (f0))))]) H := hP
    have hD : va_D A (cwT cy e0 uc ++ [(oa, .inl (cy 5, 1, .inr (.inl (f0))))]) := hD
    refine lv_i2l hx hb dL_begin_6 rfl ?_
    refine va_last (f := f0) hx hb hK hP hD hS ((cwT cy e0 uc).length + 0) 5 (app_r rfl) rfl (vp_in_nI (by decide) (by decide)) dL_begin_7 (fun H locs hP hD hS => ?_)
    rw [nI_clamp (by decide), app_setr] at hP hD
    have hP : va_P (dC, dI) vwCl (cwT cy e0 uc ++ [(oa, .inl (cy 5, 1, .inr (.inl (vp_updL f0 0 ((nI (N 0 0 0)).toInt64)))))]) H := hP
    have hD : va_D A (cwT cy e0 uc ++ [(oa, .inl (cy 5, 1, .inr (.inl (vp_updL f0 0 ((nI (N 0 0 0)).toInt64)))))]) := hD
    refine lv_goto (tgt := 14) hx hb dL_begin_8 (by decide) ?_
    refine lv_iconst (v := nI 0) hx hb dL_begin_14 (by decide) ?_
    rw [← hQQ]; exact end_i (u := (uc, vp_updL f0 0 ((nI (N 0 0 0)).toInt64))) hx hb hr hlocks dL_begin_15 hK hP hD hS ⟨by rw [hv], fun _ => ⟨updL_0 f0 _, hu⟩, fun h => absurd hv h, hok, had⟩ (Nat.le_of_ble_eq_true rfl) (Nat.le_of_ble_eq_true rfl)

set_option maxHeartbeats 4000000 in
set_option maxRecDepth 100000 in
theorem qL_mark (l : Launch) (dC : Nat → ClassId) (dI : Nat → Nat → Nat) (cy : Nat → ClassId) (e0 mi oa : Nat) (ad : Lc → Nat) (L : List Lc) (S : SS) (N : NN) (f0 : Nat → Int64) (sz : Nat) (a b d mk : Int32) (hI : okC L N) (hX : okX L N)  (hst : l.stackTraces = false) : Met l yL_mark wsL_mark ({ frames := 8, cells := 6, slots := 36, locals := 137 }) (va_Pc [.ref (ad (10, 0)), .int a, .int b, .int d, .int mk, .ref oa] (wPreL (dC, dI) (tyL cy) e0 mi (cw cy e0 ad L S N ++ [(oa, .inl (cy 5, 1, .inr (.inl (f0))))]) sz)) (QI (dC, dI) (tyL cy) (fun (r : Int32) (u : LU) => r = nI (V_mark S N a b d mk) ∧ (V_mark S N a b d mk = 0 → (u.2 0 = ((if N 2 (ix a) (ix d) = 0 then nI 0 else K_mk S (ix a) (ix b) (ix d))).toInt64 ∧ u.1.2.2 = (if N 2 (ix a) (ix d) = 0 then (K_bring S (ix a) (ix b) (ix d), nu N 2 (ix a) (va_up (N 2 (ix a)) (ix d) (N 1 0 (ix d)))) else K_change S N (ix a) (ix b) (ix d) mk))) ∧ (¬ V_mark S N a b d mk = 0 → u.1.2.2 = (S, N)) ∧ okU u.1 ∧ u.1.1 (10, 0) = ad (10, 0)) (lwU cy e0 oa) (va_A (cw cy e0 ad L S N ++ [(oa, .inl (cy 5, 1, .inr (.inl (f0))))]) sz)) 6 36 (va_A (cw cy e0 ad L S N ++ [(oa, .inl (cy 5, 1, .inr (.inl (f0))))]) sz) := by
  refine enL (cc := cL_mark) (maxL := 7) (ret := (some .int)) (hh := [(0, 14, 17, 33), (0, 14, 21, 13), (0, 14, 25, 15)]) (own := RL) (lv := [(0, .ref (ad (10, 0))), (1, .int a), (2, .int b), (3, .int d), (4, .int mk), (5, .ref oa)]) (by decide) rfl rfl (Nat.le_of_ble_eq_true rfl) rfl ?_
  intro p e s m below meth c ls A H locs hx hb hr hts hown hlocks hml hin hsz hK hP hD hS hA hl ham htab
  generalize hQQ : MQ below _ _ s _ _ A = QQ
  have lk0 : (Cond.classLink RL 33 "java/lang/IndexOutOfBoundsException").before (([.ref (ad (10, 0)), .int a, .int b, .int d, .int mk, .ref oa] : List Value).toArray) s = true := hts _ (List.mem_of_getElem? (i := 1) rfl)
  have lk1 : (Cond.classLink RL 13 "java/lang/IllegalArgumentException").before (([.ref (ad (10, 0)), .int a, .int b, .int d, .int mk, .ref oa] : List Value).toArray) s = true := hts _ (List.mem_of_getElem? (i := 2) rfl)
  have lk2 : (Cond.classLink RL 15 "java/lang/IllegalStateException").before (([.ref (ad (10, 0)), .int a, .int b, .int d, .int mk, .ref oa] : List Value).toArray) s = true := hts _ (List.mem_of_getElem? (i := 3) rfl)
  refine lv_aload hx hb dL_mark_0 (lv_at hl 5 rfl) ?_
  refine lv_iconst (v := nI 0) hx hb dL_mark_2 (by decide) ?_
  refine lv_aload_n hx hb dL_mark_3 rfl (lv_at hl 0 rfl) ?_
  refine lv_iload_n hx hb dL_mark_4 rfl (lv_at hl 1 rfl) ?_
  refine lv_iload_n hx hb dL_mark_5 rfl (lv_at hl 2 rfl) ?_
  refine lv_iload_n hx hb dL_mark_6 rfl (lv_at hl 3 rfl) ?_
  refine lv_iload hx hb dL_mark_7 (lv_at hl 4 rfl) ?_
  obtain ⟨hMF, hI0⟩ := (⟨hI.1.2.2.2.1, hI⟩ : _ ∧ okC L N)
  obtain ⟨z10, hz10⟩ := pl_get (ad := ad) (f := cc cy e0 ad S N) (hMF 10 (by decide))
  have hP0 := w_leftP hP
  have hD0 := w_leftD hD
  refine callY_ix hP (vx_runV (As := [.int a, .int b, .int d, .int mk]) (rest := [.int (nI 0), .ref oa]) ⟨hx, hb, hml, hown, hts⟩ (qX3_mark l dC dI cy e0 mi ad L S N H.size a b d mk hI0  hst) (cwV 4 hts gL_mark_X3_mark rfl rfl rfl (by decide +kernel) ⟨Nat.le_of_ble_eq_true rfl, Nat.le_of_ble_eq_true rfl⟩) (preXV hK hP0 hD0 hS hA ham.1 (w_recv (ci := 4) (q0 := z10) hK hP0 hz10 rfl)) rfl rfl hl.1 rfl (lv_room (Nat.le_of_ble_eq_true rfl)) dL_mark_9 ⟨Nat.le_of_ble_eq_true rfl, Nat.le_of_ble_eq_true rfl⟩) hD hS hA (fun E ce q9 H locs hpx hP hS hc1 hc2 hc3 => ?_) (fun rr uc H locs hw hP hD hS => ?_)
  · rcases hpx with ⟨hv, rfl⟩ | ⟨hv, rfl⟩ | ⟨hv, rfl⟩
    · refine vx_catch (name := "java/lang/IndexOutOfBoundsException") hown [] ⟨0, 14, 17, 33⟩ [⟨0, 14, 21, 13⟩, ⟨0, 14, 25, 15⟩] (by rw [htab]; rfl) (fun z hz => absurd hz (List.not_mem_nil)) rfl (by decide : (33 : Nat) ≠ 0) lk0 (va_Nw.use rfl (ham.1.2.2.2.2.2.1 ("java/lang/IndexOutOfBoundsException", "java/lang/IndexOutOfBoundsException") (by decide))) hc1 hc2 hc3 ?_
      refine lv_astore (lv' := [(6, .ref q9), (0, .ref (ad (10, 0))), (1, .int a), (2, .int b), (3, .int d), (4, .int mk), (5, .ref oa)]) hx hb dL_mark_17 hl (by decide) rfl (fun ls hl => ?_)
      refine lv_iconst (v := nI 1) hx hb dL_mark_19 (by decide) ?_
      rw [← hQQ]; exact end_i (u := ((ad, L, S, N), f0)) hx hb hr hlocks dL_mark_20 hK hP hD hS ⟨by rw [hv], fun h => absurd (hv.symm.trans h) (by decide), fun _ => rfl, ⟨hI, hX⟩, rfl⟩ (Nat.le_of_ble_eq_true rfl) (Nat.le_of_ble_eq_true rfl)
    · refine vx_catch (name := "java/lang/IllegalArgumentException") hown [⟨0, 14, 17, 33⟩] ⟨0, 14, 21, 13⟩ [⟨0, 14, 25, 15⟩] (by rw [htab]; rfl) (fun z hz => by rw [List.mem_singleton.mp hz]; exact Or.inr ⟨(by decide : (33 : Nat) ≠ 0), "java/lang/IndexOutOfBoundsException", lk0, ham.2 ("java/lang/IllegalArgumentException", "java/lang/IndexOutOfBoundsException") (by decide)⟩) rfl (by decide : (13 : Nat) ≠ 0) lk1 (va_Nw.use rfl (ham.1.2.2.2.2.2.1 ("java/lang/IllegalArgumentException", "java/lang/IllegalArgumentException") (by decide))) hc1 hc2 hc3 ?_
      refine lv_astore (lv' := [(6, .ref q9), (0, .ref (ad (10, 0))), (1, .int a), (2, .int b), (3, .int d), (4, .int mk), (5, .ref oa)]) hx hb dL_mark_21 hl (by decide) rfl (fun ls hl => ?_)
      refine lv_iconst (v := nI 2) hx hb dL_mark_23 (by decide) ?_
      rw [← hQQ]; exact end_i (u := ((ad, L, S, N), f0)) hx hb hr hlocks dL_mark_24 hK hP hD hS ⟨by rw [hv], fun h => absurd (hv.symm.trans h) (by decide), fun _ => rfl, ⟨hI, hX⟩, rfl⟩ (Nat.le_of_ble_eq_true rfl) (Nat.le_of_ble_eq_true rfl)
    · refine vx_catch (name := "java/lang/IllegalStateException") hown [⟨0, 14, 17, 33⟩, ⟨0, 14, 21, 13⟩] ⟨0, 14, 25, 15⟩ [] (by rw [htab]; rfl) (fun z hz => by
        rcases List.mem_cons.mp hz with h | h
        · rw [h]; exact Or.inr ⟨(by decide : (33 : Nat) ≠ 0), "java/lang/IndexOutOfBoundsException", lk0, ham.2 ("java/lang/IllegalStateException", "java/lang/IndexOutOfBoundsException") (by decide)⟩
        · rw [List.mem_singleton.mp h]; exact Or.inr ⟨(by decide : (13 : Nat) ≠ 0), "java/lang/IllegalArgumentException", lk1, ham.2 ("java/lang/IllegalStateException", "java/lang/IllegalArgumentException") (by decide)⟩) rfl (by decide : (15 : Nat) ≠ 0) lk2 (va_Nw.use rfl (ham.1.2.2.2.2.2.1 ("java/lang/IllegalStateException", "java/lang/IllegalStateException") (by decide))) hc1 hc2 hc3 ?_
      refine lv_astore (lv' := [(6, .ref q9), (0, .ref (ad (10, 0))), (1, .int a), (2, .int b), (3, .int d), (4, .int mk), (5, .ref oa)]) hx hb dL_mark_25 hl (by decide) rfl (fun ls hl => ?_)
      refine lv_iconst (v := nI 3) hx hb dL_mark_27 (by decide) ?_
      rw [← hQQ]; exact end_i (u := ((ad, L, S, N), f0)) hx hb hr hlocks dL_mark_28 hK hP hD hS ⟨by rw [hv], fun h => absurd (hv.symm.trans h) (by decide), fun _ => rfl, ⟨hI, hX⟩, rfl⟩ (Nat.le_of_ble_eq_true rfl) (Nat.le_of_ble_eq_true rfl)
  · obtain ⟨hv, rfl, hu⟩ := hw
    have hP : va_P (dC, dI) vwCl (cwU cy e0 ad L uc ++ [(oa, .inl (cy 5, 1, .inr (.inl (f0))))]) H := hP
    have hD : va_D A (cwU cy e0 ad L uc ++ [(oa, .inl (cy 5, 1, .inr (.inl (f0))))]) := hD
    refine lv_i2l hx hb dL_mark_12 rfl ?_
    refine va_last (f := f0) hx hb hK hP hD hS ((cwU cy e0 ad L uc).length + 0) 5 (app_r rfl) rfl (vp_in_nI (by decide) (by decide)) dL_mark_13 (fun H locs hP hD hS => ?_)
    rw [nI_clamp (by decide), app_setr] at hP hD
    have hP : va_P (dC, dI) vwCl (cwU cy e0 ad L uc ++ [(oa, .inl (cy 5, 1, .inr (.inl (vp_updL f0 0 (((if N 2 (ix a) (ix d) = 0 then nI 0 else K_mk S (ix a) (ix b) (ix d))).toInt64)))))]) H := hP
    have hD : va_D A (cwU cy e0 ad L uc ++ [(oa, .inl (cy 5, 1, .inr (.inl (vp_updL f0 0 (((if N 2 (ix a) (ix d) = 0 then nI 0 else K_mk S (ix a) (ix b) (ix d))).toInt64)))))]) := hD
    refine lv_goto (tgt := 29) hx hb dL_mark_14 (by decide) ?_
    refine lv_iconst (v := nI 0) hx hb dL_mark_29 (by decide) ?_
    rw [← hQQ]; exact end_i (u := ((ad, L, uc), vp_updL f0 0 (((if N 2 (ix a) (ix d) = 0 then nI 0 else K_mk S (ix a) (ix b) (ix d))).toInt64))) hx hb hr hlocks dL_mark_30 hK hP hD hS ⟨by rw [hv], fun _ => ⟨updL_0 f0 _, hu⟩, fun h => absurd hv h, (by
    rw [show ((ad, L, uc) : CT) = (ad, L, (if N 2 (ix a) (ix d) = 0 then (K_bring S (ix a) (ix b) (ix d), nu N 2 (ix a) (va_up (N 2 (ix a)) (ix d) (N 1 0 (ix d)))) else K_change S N (ix a) (ix b) (ix d) mk)) by rw [hu]]
    exact (by
    split
    · exact okU_item hI0 hX (Nat.le_refl _)
    · unfold K_change
      split
      · exact ⟨hI0, hX⟩
      · split
        · exact okU_item hI0 hX (Nat.zero_le _)
        · exact ⟨hI0, hX⟩)), rfl⟩ (Nat.le_of_ble_eq_true rfl) (Nat.le_of_ble_eq_true rfl)

set_option maxHeartbeats 4000000 in
set_option maxRecDepth 100000 in
theorem qL_renew (l : Launch) (dC : Nat → ClassId) (dI : Nat → Nat → Nat) (cy : Nat → ClassId) (e0 mi oa : Nat) (ad : Lc → Nat) (L : List Lc) (S : SS) (N : NN) (f0 : Nat → Int64) (sz : Nat) (a b d : Int32) (hI : okC L N) (hX : okX L N)  (hst : l.stackTraces = false) : Met l yL_renew wsL_renew ({ frames := 8, cells := 5, slots := 30, locals := 136 }) (va_Pc [.ref (ad (10, 0)), .int a, .int b, .int d, .ref oa] (wPreL (dC, dI) (tyL cy) e0 mi (cw cy e0 ad L S N ++ [(oa, .inl (cy 5, 1, .inr (.inl (f0))))]) sz)) (QI (dC, dI) (tyL cy) (fun (r : Int32) (u : LU) => r = nI (V_renew S N a b d) ∧ (V_renew S N a b d = 0 → (u.2 0 = (nI (N 2 (ix a) (ix d))).toInt64 ∧ u.1.2.2 = (K_bring S (ix a) (ix b) (ix d), nu N 2 (ix a) (va_up (N 2 (ix a)) (ix d) (N 1 0 (ix d)))))) ∧ (¬ V_renew S N a b d = 0 → u.1.2.2 = (S, N)) ∧ okU u.1 ∧ u.1.1 (10, 0) = ad (10, 0)) (lwU cy e0 oa) (va_A (cw cy e0 ad L S N ++ [(oa, .inl (cy 5, 1, .inr (.inl (f0))))]) sz)) 5 30 (va_A (cw cy e0 ad L S N ++ [(oa, .inl (cy 5, 1, .inr (.inl (f0))))]) sz) := by
  refine enL (cc := cL_renew) (maxL := 6) (ret := (some .int)) (hh := [(0, 12, 15, 33), (0, 12, 19, 13), (0, 12, 23, 15)]) (own := RL) (lv := [(0, .ref (ad (10, 0))), (1, .int a), (2, .int b), (3, .int d), (4, .ref oa)]) (by decide) rfl rfl (Nat.le_of_ble_eq_true rfl) rfl ?_
  intro p e s m below meth c ls A H locs hx hb hr hts hown hlocks hml hin hsz hK hP hD hS hA hl ham htab
  generalize hQQ : MQ below _ _ s _ _ A = QQ
  have lk0 : (Cond.classLink RL 33 "java/lang/IndexOutOfBoundsException").before (([.ref (ad (10, 0)), .int a, .int b, .int d, .ref oa] : List Value).toArray) s = true := hts _ (List.mem_of_getElem? (i := 1) rfl)
  have lk1 : (Cond.classLink RL 13 "java/lang/IllegalArgumentException").before (([.ref (ad (10, 0)), .int a, .int b, .int d, .ref oa] : List Value).toArray) s = true := hts _ (List.mem_of_getElem? (i := 2) rfl)
  have lk2 : (Cond.classLink RL 15 "java/lang/IllegalStateException").before (([.ref (ad (10, 0)), .int a, .int b, .int d, .ref oa] : List Value).toArray) s = true := hts _ (List.mem_of_getElem? (i := 3) rfl)
  refine lv_aload hx hb dL_renew_0 (lv_at hl 4 rfl) ?_
  refine lv_iconst (v := nI 0) hx hb dL_renew_2 (by decide) ?_
  refine lv_aload_n hx hb dL_renew_3 rfl (lv_at hl 0 rfl) ?_
  refine lv_iload_n hx hb dL_renew_4 rfl (lv_at hl 1 rfl) ?_
  refine lv_iload_n hx hb dL_renew_5 rfl (lv_at hl 2 rfl) ?_
  refine lv_iload_n hx hb dL_renew_6 rfl (lv_at hl 3 rfl) ?_
  obtain ⟨hMF, hI0⟩ := (⟨hI.1.2.2.2.1, hI⟩ : _ ∧ okC L N)
  obtain ⟨z10, hz10⟩ := pl_get (ad := ad) (f := cc cy e0 ad S N) (hMF 10 (by decide))
  have hP0 := w_leftP hP
  have hD0 := w_leftD hD
  refine callY_ix hP (vx_runV (As := [.int a, .int b, .int d]) (rest := [.int (nI 0), .ref oa]) ⟨hx, hb, hml, hown, hts⟩ (qX3_renew l dC dI cy e0 mi ad L S N H.size a b d hI0  hst) (cwV 3 hts gL_renew_X3_renew rfl rfl rfl (by decide +kernel) ⟨Nat.le_of_ble_eq_true rfl, Nat.le_of_ble_eq_true rfl⟩) (preXV hK hP0 hD0 hS hA ham.1 (w_recv (ci := 4) (q0 := z10) hK hP0 hz10 rfl)) rfl rfl hl.1 rfl (lv_room (Nat.le_of_ble_eq_true rfl)) dL_renew_7 ⟨Nat.le_of_ble_eq_true rfl, Nat.le_of_ble_eq_true rfl⟩) hD hS hA (fun E ce q9 H locs hpx hP hS hc1 hc2 hc3 => ?_) (fun rr uc H locs hw hP hD hS => ?_)
  · rcases hpx with ⟨hv, rfl⟩ | ⟨hv, rfl⟩ | ⟨hv, rfl⟩
    · refine vx_catch (name := "java/lang/IndexOutOfBoundsException") hown [] ⟨0, 12, 15, 33⟩ [⟨0, 12, 19, 13⟩, ⟨0, 12, 23, 15⟩] (by rw [htab]; rfl) (fun z hz => absurd hz (List.not_mem_nil)) rfl (by decide : (33 : Nat) ≠ 0) lk0 (va_Nw.use rfl (ham.1.2.2.2.2.2.1 ("java/lang/IndexOutOfBoundsException", "java/lang/IndexOutOfBoundsException") (by decide))) hc1 hc2 hc3 ?_
      refine lv_astore (lv' := [(5, .ref q9), (0, .ref (ad (10, 0))), (1, .int a), (2, .int b), (3, .int d), (4, .ref oa)]) hx hb dL_renew_15 hl (by decide) rfl (fun ls hl => ?_)
      refine lv_iconst (v := nI 1) hx hb dL_renew_17 (by decide) ?_
      rw [← hQQ]; exact end_i (u := ((ad, L, S, N), f0)) hx hb hr hlocks dL_renew_18 hK hP hD hS ⟨by rw [hv], fun h => absurd (hv.symm.trans h) (by decide), fun _ => rfl, ⟨hI, hX⟩, rfl⟩ (Nat.le_of_ble_eq_true rfl) (Nat.le_of_ble_eq_true rfl)
    · refine vx_catch (name := "java/lang/IllegalArgumentException") hown [⟨0, 12, 15, 33⟩] ⟨0, 12, 19, 13⟩ [⟨0, 12, 23, 15⟩] (by rw [htab]; rfl) (fun z hz => by rw [List.mem_singleton.mp hz]; exact Or.inr ⟨(by decide : (33 : Nat) ≠ 0), "java/lang/IndexOutOfBoundsException", lk0, ham.2 ("java/lang/IllegalArgumentException", "java/lang/IndexOutOfBoundsException") (by decide)⟩) rfl (by decide : (13 : Nat) ≠ 0) lk1 (va_Nw.use rfl (ham.1.2.2.2.2.2.1 ("java/lang/IllegalArgumentException", "java/lang/IllegalArgumentException") (by decide))) hc1 hc2 hc3 ?_
      refine lv_astore (lv' := [(5, .ref q9), (0, .ref (ad (10, 0))), (1, .int a), (2, .int b), (3, .int d), (4, .ref oa)]) hx hb dL_renew_19 hl (by decide) rfl (fun ls hl => ?_)
      refine lv_iconst (v := nI 2) hx hb dL_renew_21 (by decide) ?_
      rw [← hQQ]; exact end_i (u := ((ad, L, S, N), f0)) hx hb hr hlocks dL_renew_22 hK hP hD hS ⟨by rw [hv], fun h => absurd (hv.symm.trans h) (by decide), fun _ => rfl, ⟨hI, hX⟩, rfl⟩ (Nat.le_of_ble_eq_true rfl) (Nat.le_of_ble_eq_true rfl)
    · refine vx_catch (name := "java/lang/IllegalStateException") hown [⟨0, 12, 15, 33⟩, ⟨0, 12, 19, 13⟩] ⟨0, 12, 23, 15⟩ [] (by rw [htab]; rfl) (fun z hz => by
        rcases List.mem_cons.mp hz with h | h
        · rw [h]; exact Or.inr ⟨(by decide : (33 : Nat) ≠ 0), "java/lang/IndexOutOfBoundsException", lk0, ham.2 ("java/lang/IllegalStateException", "java/lang/IndexOutOfBoundsException") (by decide)⟩
        · rw [List.mem_singleton.mp h]; exact Or.inr ⟨(by decide : (13 : Nat) ≠ 0), "java/lang/IllegalArgumentException", lk1, ham.2 ("java/lang/IllegalStateException", "java/lang/IllegalArgumentException") (by decide)⟩) rfl (by decide : (15 : Nat) ≠ 0) lk2 (va_Nw.use rfl (ham.1.2.2.2.2.2.1 ("java/lang/IllegalStateException", "java/lang/IllegalStateException") (by decide))) hc1 hc2 hc3 ?_
      refine lv_astore (lv' := [(5, .ref q9), (0, .ref (ad (10, 0))), (1, .int a), (2, .int b), (3, .int d), (4, .ref oa)]) hx hb dL_renew_23 hl (by decide) rfl (fun ls hl => ?_)
      refine lv_iconst (v := nI 3) hx hb dL_renew_25 (by decide) ?_
      rw [← hQQ]; exact end_i (u := ((ad, L, S, N), f0)) hx hb hr hlocks dL_renew_26 hK hP hD hS ⟨by rw [hv], fun h => absurd (hv.symm.trans h) (by decide), fun _ => rfl, ⟨hI, hX⟩, rfl⟩ (Nat.le_of_ble_eq_true rfl) (Nat.le_of_ble_eq_true rfl)
  · obtain ⟨hv, rfl, hu⟩ := hw
    have hP : va_P (dC, dI) vwCl (cwU cy e0 ad L uc ++ [(oa, .inl (cy 5, 1, .inr (.inl (f0))))]) H := hP
    have hD : va_D A (cwU cy e0 ad L uc ++ [(oa, .inl (cy 5, 1, .inr (.inl (f0))))]) := hD
    refine lv_i2l hx hb dL_renew_10 rfl ?_
    refine va_last (f := f0) hx hb hK hP hD hS ((cwU cy e0 ad L uc).length + 0) 5 (app_r rfl) rfl (vp_in_nI (by decide) (by decide)) dL_renew_11 (fun H locs hP hD hS => ?_)
    rw [nI_clamp (by decide), app_setr] at hP hD
    have hP : va_P (dC, dI) vwCl (cwU cy e0 ad L uc ++ [(oa, .inl (cy 5, 1, .inr (.inl (vp_updL f0 0 ((nI (N 2 (ix a) (ix d))).toInt64)))))]) H := hP
    have hD : va_D A (cwU cy e0 ad L uc ++ [(oa, .inl (cy 5, 1, .inr (.inl (vp_updL f0 0 ((nI (N 2 (ix a) (ix d))).toInt64)))))]) := hD
    refine lv_goto (tgt := 27) hx hb dL_renew_12 (by decide) ?_
    refine lv_iconst (v := nI 0) hx hb dL_renew_27 (by decide) ?_
    rw [← hQQ]; exact end_i (u := ((ad, L, uc), vp_updL f0 0 ((nI (N 2 (ix a) (ix d))).toInt64))) hx hb hr hlocks dL_renew_28 hK hP hD hS ⟨by rw [hv], fun _ => ⟨updL_0 f0 _, hu⟩, fun h => absurd hv h, (by
    rw [show ((ad, L, uc) : CT) = (ad, L, (K_bring S (ix a) (ix b) (ix d), nu N 2 (ix a) (va_up (N 2 (ix a)) (ix d) (N 1 0 (ix d))))) by rw [hu]]
    exact (okU_item hI0 hX (Nat.le_refl _))), rfl⟩ (Nat.le_of_ble_eq_true rfl) (Nat.le_of_ble_eq_true rfl)

set_option maxHeartbeats 4000000 in
set_option maxRecDepth 100000 in
theorem qL_version (l : Launch) (dC : Nat → ClassId) (dI : Nat → Nat → Nat) (cy : Nat → ClassId) (e0 mi oa : Nat) (ad : Lc → Nat) (L : List Lc) (S : SS) (N : NN) (f0 : Nat → Int64) (sz : Nat) (a d : Int32) (hI : okC L N) (hX : okX L N)  (hst : l.stackTraces = false) : Met l yL_version wsL_version ({ frames := 8, cells := 2, slots := 12, locals := 134 }) (va_Pc [.ref (ad (10, 0)), .int a, .int d, .ref oa] (wPreL (dC, dI) (tyL cy) e0 mi (cw cy e0 ad L S N ++ [(oa, .inl (cy 5, 1, .inr (.inl (f0))))]) sz)) (QI (dC, dI) (tyL cy) (fun (r : Int32) (u : LU) => r = nI (V_version N a d) ∧ (V_version N a d = 0 → (u.2 0 = (nI (N 2 (ix a) (ix d))).toInt64 ∧ u.1.2.2 = (S, N))) ∧ (¬ V_version N a d = 0 → u.1.2.2 = (S, N)) ∧ okU u.1 ∧ u.1.1 (10, 0) = ad (10, 0)) (lwU cy e0 oa) (va_A (cw cy e0 ad L S N ++ [(oa, .inl (cy 5, 1, .inr (.inl (f0))))]) sz)) 2 12 (va_A (cw cy e0 ad L S N ++ [(oa, .inl (cy 5, 1, .inr (.inl (f0))))]) sz) := by
  refine enL (cc := cL_version) (maxL := 5) (ret := (some .int)) (hh := [(0, 10, 13, 33), (0, 10, 17, 13)]) (own := RL) (lv := [(0, .ref (ad (10, 0))), (1, .int a), (2, .int d), (3, .ref oa)]) (by decide) rfl rfl (Nat.le_of_ble_eq_true rfl) rfl ?_
  intro p e s m below meth c ls A H locs hx hb hr hts hown hlocks hml hin hsz hK hP hD hS hA hl ham htab
  generalize hQQ : MQ below _ _ s _ _ A = QQ
  have lk0 : (Cond.classLink RL 33 "java/lang/IndexOutOfBoundsException").before (([.ref (ad (10, 0)), .int a, .int d, .ref oa] : List Value).toArray) s = true := hts _ (List.mem_of_getElem? (i := 1) rfl)
  have lk1 : (Cond.classLink RL 13 "java/lang/IllegalArgumentException").before (([.ref (ad (10, 0)), .int a, .int d, .ref oa] : List Value).toArray) s = true := hts _ (List.mem_of_getElem? (i := 2) rfl)
  refine lv_aload_n hx hb dL_version_0 rfl (lv_at hl 3 rfl) ?_
  refine lv_iconst (v := nI 0) hx hb dL_version_1 (by decide) ?_
  refine lv_aload_n hx hb dL_version_2 rfl (lv_at hl 0 rfl) ?_
  refine lv_iload_n hx hb dL_version_3 rfl (lv_at hl 1 rfl) ?_
  refine lv_iload_n hx hb dL_version_4 rfl (lv_at hl 2 rfl) ?_
  obtain ⟨hMF, hI0⟩ := (⟨hI.1.2.2.2.1, hI⟩ : _ ∧ okC L N)
  obtain ⟨z10, hz10⟩ := pl_get (ad := ad) (f := cc cy e0 ad S N) (hMF 10 (by decide))
  have hP0 := w_leftP hP
  have hD0 := w_leftD hD
  refine callY_ix hP (vx_runV (As := [.int a, .int d]) (rest := [.int (nI 0), .ref oa]) ⟨hx, hb, hml, hown, hts⟩ (qX3_version l dC dI cy e0 mi ad L S N H.size a d hI0  hst) (cwV 2 hts gL_version_X3_version rfl rfl rfl (by decide +kernel) ⟨Nat.le_of_ble_eq_true rfl, Nat.le_of_ble_eq_true rfl⟩) (preXV hK hP0 hD0 hS hA ham.1 (w_recv (ci := 4) (q0 := z10) hK hP0 hz10 rfl)) rfl rfl hl.1 rfl (lv_room (Nat.le_of_ble_eq_true rfl)) dL_version_5 ⟨Nat.le_of_ble_eq_true rfl, Nat.le_of_ble_eq_true rfl⟩) hD hS hA (fun E ce q9 H locs hpx hP hS hc1 hc2 hc3 => ?_) (fun rr uc H locs hw hP hD hS => ?_)
  · rcases hpx with ⟨hv, rfl⟩ | ⟨hv, rfl⟩
    · refine vx_catch (name := "java/lang/IndexOutOfBoundsException") hown [] ⟨0, 10, 13, 33⟩ [⟨0, 10, 17, 13⟩] (by rw [htab]; rfl) (fun z hz => absurd hz (List.not_mem_nil)) rfl (by decide : (33 : Nat) ≠ 0) lk0 (va_Nw.use rfl (ham.1.2.2.2.2.2.1 ("java/lang/IndexOutOfBoundsException", "java/lang/IndexOutOfBoundsException") (by decide))) hc1 hc2 hc3 ?_
      refine lv_astore (lv' := [(4, .ref q9), (0, .ref (ad (10, 0))), (1, .int a), (2, .int d), (3, .ref oa)]) hx hb dL_version_13 hl (by decide) rfl (fun ls hl => ?_)
      refine lv_iconst (v := nI 1) hx hb dL_version_15 (by decide) ?_
      rw [← hQQ]; exact end_i (u := ((ad, L, S, N), f0)) hx hb hr hlocks dL_version_16 hK hP hD hS ⟨by rw [hv], fun h => absurd (hv.symm.trans h) (by decide), fun _ => rfl, ⟨hI, hX⟩, rfl⟩ (Nat.le_of_ble_eq_true rfl) (Nat.le_of_ble_eq_true rfl)
    · refine vx_catch (name := "java/lang/IllegalArgumentException") hown [⟨0, 10, 13, 33⟩] ⟨0, 10, 17, 13⟩ [] (by rw [htab]; rfl) (fun z hz => by rw [List.mem_singleton.mp hz]; exact Or.inr ⟨(by decide : (33 : Nat) ≠ 0), "java/lang/IndexOutOfBoundsException", lk0, ham.2 ("java/lang/IllegalArgumentException", "java/lang/IndexOutOfBoundsException") (by decide)⟩) rfl (by decide : (13 : Nat) ≠ 0) lk1 (va_Nw.use rfl (ham.1.2.2.2.2.2.1 ("java/lang/IllegalArgumentException", "java/lang/IllegalArgumentException") (by decide))) hc1 hc2 hc3 ?_
      refine lv_astore (lv' := [(4, .ref q9), (0, .ref (ad (10, 0))), (1, .int a), (2, .int d), (3, .ref oa)]) hx hb dL_version_17 hl (by decide) rfl (fun ls hl => ?_)
      refine lv_iconst (v := nI 2) hx hb dL_version_19 (by decide) ?_
      rw [← hQQ]; exact end_i (u := ((ad, L, S, N), f0)) hx hb hr hlocks dL_version_20 hK hP hD hS ⟨by rw [hv], fun h => absurd (hv.symm.trans h) (by decide), fun _ => rfl, ⟨hI, hX⟩, rfl⟩ (Nat.le_of_ble_eq_true rfl) (Nat.le_of_ble_eq_true rfl)
  · obtain ⟨hv, rfl, hu⟩ := hw
    have hP : va_P (dC, dI) vwCl (cwU cy e0 ad L uc ++ [(oa, .inl (cy 5, 1, .inr (.inl (f0))))]) H := hP
    have hD : va_D A (cwU cy e0 ad L uc ++ [(oa, .inl (cy 5, 1, .inr (.inl (f0))))]) := hD
    refine lv_i2l hx hb dL_version_8 rfl ?_
    refine va_last (f := f0) hx hb hK hP hD hS ((cwU cy e0 ad L uc).length + 0) 5 (app_r rfl) rfl (vp_in_nI (by decide) (by decide)) dL_version_9 (fun H locs hP hD hS => ?_)
    rw [nI_clamp (by decide), app_setr] at hP hD
    have hP : va_P (dC, dI) vwCl (cwU cy e0 ad L uc ++ [(oa, .inl (cy 5, 1, .inr (.inl (vp_updL f0 0 ((nI (N 2 (ix a) (ix d))).toInt64)))))]) H := hP
    have hD : va_D A (cwU cy e0 ad L uc ++ [(oa, .inl (cy 5, 1, .inr (.inl (vp_updL f0 0 ((nI (N 2 (ix a) (ix d))).toInt64)))))]) := hD
    refine lv_goto (tgt := 21) hx hb dL_version_10 (by decide) ?_
    refine lv_iconst (v := nI 0) hx hb dL_version_21 (by decide) ?_
    rw [← hQQ]; exact end_i (u := ((ad, L, uc), vp_updL f0 0 ((nI (N 2 (ix a) (ix d))).toInt64))) hx hb hr hlocks dL_version_22 hK hP hD hS ⟨by rw [hv], fun _ => ⟨updL_0 f0 _, hu⟩, fun h => absurd hv h, (by
    rw [show ((ad, L, uc) : CT) = (ad, L, (S, N)) by rw [hu]]
    exact ⟨hI0, hX⟩), rfl⟩ (Nat.le_of_ble_eq_true rfl) (Nat.le_of_ble_eq_true rfl)

set_option maxHeartbeats 4000000 in
set_option maxRecDepth 100000 in
theorem qL_offered (l : Launch) (dC : Nat → ClassId) (dI : Nat → Nat → Nat) (cy : Nat → ClassId) (e0 mi oa : Nat) (ad : Lc → Nat) (L : List Lc) (S : SS) (N : NN) (f0 : Nat → Int64) (sz : Nat) (a : Int32) (hI : okC L N) (hX : okX L N)  (hst : l.stackTraces = false) : Met l yL_offered wsL_offered ({ frames := 8, cells := 1, slots := 6, locals := 135 }) (va_Pc [.ref (ad (10, 0)), .int a, .ref oa] (wPreL (dC, dI) (tyL cy) e0 mi (cw cy e0 ad L S N ++ [(oa, .inl (cy 5, 1, .inr (.inl (f0))))]) sz)) (QI (dC, dI) (tyL cy) (fun (r : Int32) (u : LU) => r = nI (V_at N 0 a) ∧ (V_at N 0 a = 0 → (u.2 0 = ((if isDr S (ix a) then nI (K_off N (ix a) 10) else nI 0)).toInt64 ∧ u.1.2.2 = (S, N))) ∧ (¬ V_at N 0 a = 0 → u.1.2.2 = (S, N)) ∧ okU u.1 ∧ u.1.1 (10, 0) = ad (10, 0)) (lwU cy e0 oa) (va_A (cw cy e0 ad L S N ++ [(oa, .inl (cy 5, 1, .inr (.inl (f0))))]) sz)) 1 6 (va_A (cw cy e0 ad L S N ++ [(oa, .inl (cy 5, 1, .inr (.inl (f0))))]) sz) := by
  refine enL (cc := cL_offered) (maxL := 4) (ret := (some .int)) (hh := [(0, 9, 12, 33)]) (own := RL) (lv := [(0, .ref (ad (10, 0))), (1, .int a), (2, .ref oa)]) (by decide) rfl rfl (Nat.le_of_ble_eq_true rfl) rfl ?_
  intro p e s m below meth c ls A H locs hx hb hr hts hown hlocks hml hin hsz hK hP hD hS hA hl ham htab
  generalize hQQ : MQ below _ _ s _ _ A = QQ
  have lk0 : (Cond.classLink RL 33 "java/lang/IndexOutOfBoundsException").before (([.ref (ad (10, 0)), .int a, .ref oa] : List Value).toArray) s = true := hts _ (List.mem_of_getElem? (i := 1) rfl)
  refine lv_aload_n hx hb dL_offered_0 rfl (lv_at hl 2 rfl) ?_
  refine lv_iconst (v := nI 0) hx hb dL_offered_1 (by decide) ?_
  refine lv_aload_n hx hb dL_offered_2 rfl (lv_at hl 0 rfl) ?_
  refine lv_iload_n hx hb dL_offered_3 rfl (lv_at hl 1 rfl) ?_
  obtain ⟨hMF, hI0⟩ := (⟨hI.1.2.2.2.1, hI⟩ : _ ∧ okC L N)
  obtain ⟨z10, hz10⟩ := pl_get (ad := ad) (f := cc cy e0 ad S N) (hMF 10 (by decide))
  have hP0 := w_leftP hP
  have hD0 := w_leftD hD
  refine callY_ix hP (vx_runV (As := [.int a]) (rest := [.int (nI 0), .ref oa]) ⟨hx, hb, hml, hown, hts⟩ (qX3_offered l dC dI cy e0 mi ad L S N H.size a hI0  hst) (cwV 1 hts gL_offered_X3_offered rfl rfl rfl (by decide +kernel) ⟨Nat.le_of_ble_eq_true rfl, Nat.le_of_ble_eq_true rfl⟩) (preXV hK hP0 hD0 hS hA ham.1 (w_recv (ci := 4) (q0 := z10) hK hP0 hz10 rfl)) rfl rfl hl.1 rfl (lv_room (Nat.le_of_ble_eq_true rfl)) dL_offered_4 ⟨Nat.le_of_ble_eq_true rfl, Nat.le_of_ble_eq_true rfl⟩) hD hS hA (fun E ce q9 H locs hpx hP hS hc1 hc2 hc3 => ?_) (fun rr uc H locs hw hP hD hS => ?_)
  · obtain ⟨hv, rfl⟩ := hpx
    refine vx_catch (name := "java/lang/IndexOutOfBoundsException") hown [] ⟨0, 9, 12, 33⟩ [] (by rw [htab]; rfl) (fun z hz => absurd hz (List.not_mem_nil)) rfl (by decide : (33 : Nat) ≠ 0) lk0 (va_Nw.use rfl (ham.1.2.2.2.2.2.1 ("java/lang/IndexOutOfBoundsException", "java/lang/IndexOutOfBoundsException") (by decide))) hc1 hc2 hc3 ?_
    refine lv_astore_n (lv' := [(3, .ref q9), (0, .ref (ad (10, 0))), (1, .int a), (2, .ref oa)]) hx hb dL_offered_12 rfl hl (by decide) rfl (fun ls hl => ?_)
    refine lv_iconst (v := nI 1) hx hb dL_offered_13 (by decide) ?_
    rw [← hQQ]; exact end_i (u := ((ad, L, S, N), f0)) hx hb hr hlocks dL_offered_14 hK hP hD hS ⟨by rw [hv], fun h => absurd (hv.symm.trans h) (by decide), fun _ => rfl, ⟨hI, hX⟩, rfl⟩ (Nat.le_of_ble_eq_true rfl) (Nat.le_of_ble_eq_true rfl)
  · obtain ⟨hv, rfl, hu⟩ := hw
    have hP : va_P (dC, dI) vwCl (cwU cy e0 ad L uc ++ [(oa, .inl (cy 5, 1, .inr (.inl (f0))))]) H := hP
    have hD : va_D A (cwU cy e0 ad L uc ++ [(oa, .inl (cy 5, 1, .inr (.inl (f0))))]) := hD
    refine lv_i2l hx hb dL_offered_7 rfl ?_
    refine va_last (f := f0) hx hb hK hP hD hS ((cwU cy e0 ad L uc).length + 0) 5 (app_r rfl) rfl (vp_in_nI (by decide) (by decide)) dL_offered_8 (fun H locs hP hD hS => ?_)
    rw [nI_clamp (by decide), app_setr] at hP hD
    have hP : va_P (dC, dI) vwCl (cwU cy e0 ad L uc ++ [(oa, .inl (cy 5, 1, .inr (.inl (vp_updL f0 0 (((if isDr S (ix a) then nI (K_off N (ix a) 10) else nI 0)).toInt64)))))]) H := hP
    have hD : va_D A (cwU cy e0 ad L uc ++ [(oa, .inl (cy 5, 1, .inr (.inl (vp_updL f0 0 (((if isDr S (ix a) then nI (K_off N (ix a) 10) else nI 0)).toInt64)))))]) := hD
    refine lv_goto (tgt := 15) hx hb dL_offered_9 (by decide) ?_
    refine lv_iconst (v := nI 0) hx hb dL_offered_15 (by decide) ?_
    rw [← hQQ]; exact end_i (u := ((ad, L, uc), vp_updL f0 0 (((if isDr S (ix a) then nI (K_off N (ix a) 10) else nI 0)).toInt64))) hx hb hr hlocks dL_offered_16 hK hP hD hS ⟨by rw [hv], fun _ => ⟨updL_0 f0 _, hu⟩, fun h => absurd hv h, (by
    rw [show ((ad, L, uc) : CT) = (ad, L, (S, N)) by rw [hu]]
    exact ⟨hI0, hX⟩), rfl⟩ (Nat.le_of_ble_eq_true rfl) (Nat.le_of_ble_eq_true rfl)

set_option maxHeartbeats 4000000 in
set_option maxRecDepth 100000 in
theorem qL_whyNot (l : Launch) (dC : Nat → ClassId) (dI : Nat → Nat → Nat) (cy : Nat → ClassId) (e0 mi oa : Nat) (ad : Lc → Nat) (L : List Lc) (S : SS) (N : NN) (f0 : Nat → Int64) (sz : Nat) (a : Int32) (hI : okC L N) (hX : okX L N)  (hst : l.stackTraces = false) : Met l yL_whyNot wsL_whyNot ({ frames := 8, cells := 1, slots := 6, locals := 132 }) (va_Pc [.ref (ad (10, 0)), .int a, .ref oa] (wPreL (dC, dI) (tyL cy) e0 mi (cw cy e0 ad L S N ++ [(oa, .inl (cy 5, 1, .inr (.inl (f0))))]) sz)) (QI (dC, dI) (tyL cy) (fun (r : Int32) (u : LU) => r = nI (V_at N 0 a) ∧ (V_at N 0 a = 0 → (u.2 0 = (nI (K_obst S N (ix a))).toInt64 ∧ u.1.2.2 = (S, N))) ∧ (¬ V_at N 0 a = 0 → u.1.2.2 = (S, N)) ∧ okU u.1 ∧ u.1.1 (10, 0) = ad (10, 0)) (lwU cy e0 oa) (va_A (cw cy e0 ad L S N ++ [(oa, .inl (cy 5, 1, .inr (.inl (f0))))]) sz)) 1 6 (va_A (cw cy e0 ad L S N ++ [(oa, .inl (cy 5, 1, .inr (.inl (f0))))]) sz) := by
  refine enL (cc := cL_whyNot) (maxL := 4) (ret := (some .int)) (hh := [(0, 9, 12, 33)]) (own := RL) (lv := [(0, .ref (ad (10, 0))), (1, .int a), (2, .ref oa)]) (by decide) rfl rfl (Nat.le_of_ble_eq_true rfl) rfl ?_
  intro p e s m below meth c ls A H locs hx hb hr hts hown hlocks hml hin hsz hK hP hD hS hA hl ham htab
  generalize hQQ : MQ below _ _ s _ _ A = QQ
  have lk0 : (Cond.classLink RL 33 "java/lang/IndexOutOfBoundsException").before (([.ref (ad (10, 0)), .int a, .ref oa] : List Value).toArray) s = true := hts _ (List.mem_of_getElem? (i := 1) rfl)
  refine lv_aload_n hx hb dL_whyNot_0 rfl (lv_at hl 2 rfl) ?_
  refine lv_iconst (v := nI 0) hx hb dL_whyNot_1 (by decide) ?_
  refine lv_aload_n hx hb dL_whyNot_2 rfl (lv_at hl 0 rfl) ?_
  refine lv_iload_n hx hb dL_whyNot_3 rfl (lv_at hl 1 rfl) ?_
  obtain ⟨hMF, hI0⟩ := (⟨hI.1.2.2.2.1, hI⟩ : _ ∧ okC L N)
  obtain ⟨z10, hz10⟩ := pl_get (ad := ad) (f := cc cy e0 ad S N) (hMF 10 (by decide))
  have hP0 := w_leftP hP
  have hD0 := w_leftD hD
  refine callY_ix hP (vx_runV (As := [.int a]) (rest := [.int (nI 0), .ref oa]) ⟨hx, hb, hml, hown, hts⟩ (qX3_whyNot l dC dI cy e0 mi ad L S N H.size a hI0  hst) (cwV 1 hts gL_whyNot_X3_whyNot rfl rfl rfl (by decide +kernel) ⟨Nat.le_of_ble_eq_true rfl, Nat.le_of_ble_eq_true rfl⟩) (preXV hK hP0 hD0 hS hA ham.1 (w_recv (ci := 4) (q0 := z10) hK hP0 hz10 rfl)) rfl rfl hl.1 rfl (lv_room (Nat.le_of_ble_eq_true rfl)) dL_whyNot_4 ⟨Nat.le_of_ble_eq_true rfl, Nat.le_of_ble_eq_true rfl⟩) hD hS hA (fun E ce q9 H locs hpx hP hS hc1 hc2 hc3 => ?_) (fun rr uc H locs hw hP hD hS => ?_)
  · obtain ⟨hv, rfl⟩ := hpx
    refine vx_catch (name := "java/lang/IndexOutOfBoundsException") hown [] ⟨0, 9, 12, 33⟩ [] (by rw [htab]; rfl) (fun z hz => absurd hz (List.not_mem_nil)) rfl (by decide : (33 : Nat) ≠ 0) lk0 (va_Nw.use rfl (ham.1.2.2.2.2.2.1 ("java/lang/IndexOutOfBoundsException", "java/lang/IndexOutOfBoundsException") (by decide))) hc1 hc2 hc3 ?_
    refine lv_astore_n (lv' := [(3, .ref q9), (0, .ref (ad (10, 0))), (1, .int a), (2, .ref oa)]) hx hb dL_whyNot_12 rfl hl (by decide) rfl (fun ls hl => ?_)
    refine lv_iconst (v := nI 1) hx hb dL_whyNot_13 (by decide) ?_
    rw [← hQQ]; exact end_i (u := ((ad, L, S, N), f0)) hx hb hr hlocks dL_whyNot_14 hK hP hD hS ⟨by rw [hv], fun h => absurd (hv.symm.trans h) (by decide), fun _ => rfl, ⟨hI, hX⟩, rfl⟩ (Nat.le_of_ble_eq_true rfl) (Nat.le_of_ble_eq_true rfl)
  · obtain ⟨hv, rfl, hu⟩ := hw
    have hP : va_P (dC, dI) vwCl (cwU cy e0 ad L uc ++ [(oa, .inl (cy 5, 1, .inr (.inl (f0))))]) H := hP
    have hD : va_D A (cwU cy e0 ad L uc ++ [(oa, .inl (cy 5, 1, .inr (.inl (f0))))]) := hD
    refine lv_i2l hx hb dL_whyNot_7 rfl ?_
    refine va_last (f := f0) hx hb hK hP hD hS ((cwU cy e0 ad L uc).length + 0) 5 (app_r rfl) rfl (vp_in_nI (by decide) (by decide)) dL_whyNot_8 (fun H locs hP hD hS => ?_)
    rw [nI_clamp (by decide), app_setr] at hP hD
    have hP : va_P (dC, dI) vwCl (cwU cy e0 ad L uc ++ [(oa, .inl (cy 5, 1, .inr (.inl (vp_updL f0 0 ((nI (K_obst S N (ix a))).toInt64)))))]) H := hP
    have hD : va_D A (cwU cy e0 ad L uc ++ [(oa, .inl (cy 5, 1, .inr (.inl (vp_updL f0 0 ((nI (K_obst S N (ix a))).toInt64)))))]) := hD
    refine lv_goto (tgt := 15) hx hb dL_whyNot_9 (by decide) ?_
    refine lv_iconst (v := nI 0) hx hb dL_whyNot_15 (by decide) ?_
    rw [← hQQ]; exact end_i (u := ((ad, L, uc), vp_updL f0 0 ((nI (K_obst S N (ix a))).toInt64))) hx hb hr hlocks dL_whyNot_16 hK hP hD hS ⟨by rw [hv], fun _ => ⟨updL_0 f0 _, hu⟩, fun h => absurd hv h, (by
    rw [show ((ad, L, uc) : CT) = (ad, L, (S, N)) by rw [hu]]
    exact ⟨hI0, hX⟩), rfl⟩ (Nat.le_of_ble_eq_true rfl) (Nat.le_of_ble_eq_true rfl)

set_option maxHeartbeats 4000000 in
set_option maxRecDepth 100000 in
theorem qL_sign (l : Launch) (dC : Nat → ClassId) (dI : Nat → Nat → Nat) (cy : Nat → ClassId) (e0 mi oa : Nat) (ad : Lc → Nat) (L : List Lc) (S : SS) (N : NN) (f0 : Nat → Int64) (sz : Nat) (a b : Int32) (hI : okC L N) (hX : okX L N) (hDr : ∀ i, i < N 0 0 0 → isDr S i → N 5 0 0 + 10 ≤ 100) (hst : l.stackTraces = false) : Met l yL_sign wsL_sign ({ frames := 10, cells := 23, slots := 4060, locals := 258 }) (va_Pc [.ref (ad (10, 0)), .int a, .int b, .ref oa] (wPreL (dC, dI) (tyL cy) e0 mi (cw cy e0 ad L S N ++ [(oa, .inl (cy 5, 1, .inr (.inl (f0))))]) sz)) (QI (dC, dI) (tyL cy) (fun (r : Int32) (u : LU) => r = nI (V_sign S N a b) ∧ (V_sign S N a b = 0 → (u.2 0 = ((if isDr (S_sgn S (ix a) (ix b)) (ix a) then nI 0 else nI (K_made (S_sgn S (ix a) (ix b)) N (ix a) 10))).toInt64 ∧ u.1.2.2 = (if isDr (S_sgn S (ix a) (ix b)) (ix a) then ((S_sgn S (ix a) (ix b)), N) else K_mkD (S_sgn S (ix a) (ix b)) N (ix a) 10))) ∧ (¬ V_sign S N a b = 0 → u.1.2.2 = (S, N)) ∧ okU u.1 ∧ u.1.1 (10, 0) = ad (10, 0)) (lwU cy e0 oa) (va_A (cw cy e0 ad L S N ++ [(oa, .inl (cy 5, 1, .inr (.inl (f0))))]) sz)) 23 4060 (va_A (cw cy e0 ad L S N ++ [(oa, .inl (cy 5, 1, .inr (.inl (f0))))]) sz) := by
  refine enL (cc := cL_sign) (maxL := 5) (ret := (some .int)) (hh := [(0, 10, 13, 33), (0, 10, 17, 13), (0, 10, 21, 15)]) (own := RL) (lv := [(0, .ref (ad (10, 0))), (1, .int a), (2, .int b), (3, .ref oa)]) (by decide) rfl rfl (Nat.le_of_ble_eq_true rfl) rfl ?_
  intro p e s m below meth c ls A H locs hx hb hr hts hown hlocks hml hin hsz hK hP hD hS hA hl ham htab
  generalize hQQ : MQ below _ _ s _ _ A = QQ
  have lk0 : (Cond.classLink RL 33 "java/lang/IndexOutOfBoundsException").before (([.ref (ad (10, 0)), .int a, .int b, .ref oa] : List Value).toArray) s = true := hts _ (List.mem_of_getElem? (i := 1) rfl)
  have lk1 : (Cond.classLink RL 13 "java/lang/IllegalArgumentException").before (([.ref (ad (10, 0)), .int a, .int b, .ref oa] : List Value).toArray) s = true := hts _ (List.mem_of_getElem? (i := 2) rfl)
  have lk2 : (Cond.classLink RL 15 "java/lang/IllegalStateException").before (([.ref (ad (10, 0)), .int a, .int b, .ref oa] : List Value).toArray) s = true := hts _ (List.mem_of_getElem? (i := 3) rfl)
  refine lv_aload_n hx hb dL_sign_0 rfl (lv_at hl 3 rfl) ?_
  refine lv_iconst (v := nI 0) hx hb dL_sign_1 (by decide) ?_
  refine lv_aload_n hx hb dL_sign_2 rfl (lv_at hl 0 rfl) ?_
  refine lv_iload_n hx hb dL_sign_3 rfl (lv_at hl 1 rfl) ?_
  refine lv_iload_n hx hb dL_sign_4 rfl (lv_at hl 2 rfl) ?_
  obtain ⟨hMF, hI0⟩ := (⟨hI.1.2.2.2.1, hI⟩ : _ ∧ okC L N)
  obtain ⟨z10, hz10⟩ := pl_get (ad := ad) (f := cc cy e0 ad S N) (hMF 10 (by decide))
  have hP0 := w_leftP hP
  have hD0 := w_leftD hD
  refine callY_ix hP (vx_runV (As := [.int a, .int b]) (rest := [.int (nI 0), .ref oa]) ⟨hx, hb, hml, hown, hts⟩ (qX3_sign l dC dI cy e0 mi ad L S N H.size a b hI0 hX hDr hst) (cwV 2 hts gL_sign_X3_sign rfl rfl rfl (by decide +kernel) ⟨Nat.le_of_ble_eq_true rfl, Nat.le_of_ble_eq_true rfl⟩) (preXV hK hP0 hD0 hS hA ham.1 (w_recv (ci := 4) (q0 := z10) hK hP0 hz10 rfl)) rfl rfl hl.1 rfl (lv_room (Nat.le_of_ble_eq_true rfl)) dL_sign_5 ⟨Nat.le_of_ble_eq_true rfl, Nat.le_of_ble_eq_true rfl⟩) hD hS hA (fun E ce q9 H locs hpx hP hS hc1 hc2 hc3 => ?_) (fun rr uc H locs hw hP hD hS => ?_)
  · rcases hpx with ⟨hv, rfl⟩ | ⟨hv, rfl⟩ | ⟨hv, rfl⟩
    · refine vx_catch (name := "java/lang/IndexOutOfBoundsException") hown [] ⟨0, 10, 13, 33⟩ [⟨0, 10, 17, 13⟩, ⟨0, 10, 21, 15⟩] (by rw [htab]; rfl) (fun z hz => absurd hz (List.not_mem_nil)) rfl (by decide : (33 : Nat) ≠ 0) lk0 (va_Nw.use rfl (ham.1.2.2.2.2.2.1 ("java/lang/IndexOutOfBoundsException", "java/lang/IndexOutOfBoundsException") (by decide))) hc1 hc2 hc3 ?_
      refine lv_astore (lv' := [(4, .ref q9), (0, .ref (ad (10, 0))), (1, .int a), (2, .int b), (3, .ref oa)]) hx hb dL_sign_13 hl (by decide) rfl (fun ls hl => ?_)
      refine lv_iconst (v := nI 1) hx hb dL_sign_15 (by decide) ?_
      rw [← hQQ]; exact end_i (u := ((ad, L, S, N), f0)) hx hb hr hlocks dL_sign_16 hK hP hD hS ⟨by rw [hv], fun h => absurd (hv.symm.trans h) (by decide), fun _ => rfl, ⟨hI, hX⟩, rfl⟩ (Nat.le_of_ble_eq_true rfl) (Nat.le_of_ble_eq_true rfl)
    · refine vx_catch (name := "java/lang/IllegalArgumentException") hown [⟨0, 10, 13, 33⟩] ⟨0, 10, 17, 13⟩ [⟨0, 10, 21, 15⟩] (by rw [htab]; rfl) (fun z hz => by rw [List.mem_singleton.mp hz]; exact Or.inr ⟨(by decide : (33 : Nat) ≠ 0), "java/lang/IndexOutOfBoundsException", lk0, ham.2 ("java/lang/IllegalArgumentException", "java/lang/IndexOutOfBoundsException") (by decide)⟩) rfl (by decide : (13 : Nat) ≠ 0) lk1 (va_Nw.use rfl (ham.1.2.2.2.2.2.1 ("java/lang/IllegalArgumentException", "java/lang/IllegalArgumentException") (by decide))) hc1 hc2 hc3 ?_
      refine lv_astore (lv' := [(4, .ref q9), (0, .ref (ad (10, 0))), (1, .int a), (2, .int b), (3, .ref oa)]) hx hb dL_sign_17 hl (by decide) rfl (fun ls hl => ?_)
      refine lv_iconst (v := nI 2) hx hb dL_sign_19 (by decide) ?_
      rw [← hQQ]; exact end_i (u := ((ad, L, S, N), f0)) hx hb hr hlocks dL_sign_20 hK hP hD hS ⟨by rw [hv], fun h => absurd (hv.symm.trans h) (by decide), fun _ => rfl, ⟨hI, hX⟩, rfl⟩ (Nat.le_of_ble_eq_true rfl) (Nat.le_of_ble_eq_true rfl)
    · refine vx_catch (name := "java/lang/IllegalStateException") hown [⟨0, 10, 13, 33⟩, ⟨0, 10, 17, 13⟩] ⟨0, 10, 21, 15⟩ [] (by rw [htab]; rfl) (fun z hz => by
        rcases List.mem_cons.mp hz with h | h
        · rw [h]; exact Or.inr ⟨(by decide : (33 : Nat) ≠ 0), "java/lang/IndexOutOfBoundsException", lk0, ham.2 ("java/lang/IllegalStateException", "java/lang/IndexOutOfBoundsException") (by decide)⟩
        · rw [List.mem_singleton.mp h]; exact Or.inr ⟨(by decide : (13 : Nat) ≠ 0), "java/lang/IllegalArgumentException", lk1, ham.2 ("java/lang/IllegalStateException", "java/lang/IllegalArgumentException") (by decide)⟩) rfl (by decide : (15 : Nat) ≠ 0) lk2 (va_Nw.use rfl (ham.1.2.2.2.2.2.1 ("java/lang/IllegalStateException", "java/lang/IllegalStateException") (by decide))) hc1 hc2 hc3 ?_
      refine lv_astore (lv' := [(4, .ref q9), (0, .ref (ad (10, 0))), (1, .int a), (2, .int b), (3, .ref oa)]) hx hb dL_sign_21 hl (by decide) rfl (fun ls hl => ?_)
      refine lv_iconst (v := nI 3) hx hb dL_sign_23 (by decide) ?_
      rw [← hQQ]; exact end_i (u := ((ad, L, S, N), f0)) hx hb hr hlocks dL_sign_24 hK hP hD hS ⟨by rw [hv], fun h => absurd (hv.symm.trans h) (by decide), fun _ => rfl, ⟨hI, hX⟩, rfl⟩ (Nat.le_of_ble_eq_true rfl) (Nat.le_of_ble_eq_true rfl)
  · obtain ⟨hv, rfl, hu, hok, had⟩ := hw
    have hP : va_P (dC, dI) vwCl (cwT cy e0 uc ++ [(oa, .inl (cy 5, 1, .inr (.inl (f0))))]) H := hP
    have hD : va_D A (cwT cy e0 uc ++ [(oa, .inl (cy 5, 1, .inr (.inl (f0))))]) := hD
    refine lv_i2l hx hb dL_sign_8 rfl ?_
    refine va_last (f := f0) hx hb hK hP hD hS ((cwT cy e0 uc).length + 0) 5 (app_r rfl) rfl (vp_in_nI (by decide) (by decide)) dL_sign_9 (fun H locs hP hD hS => ?_)
    rw [nI_clamp (by decide), app_setr] at hP hD
    have hP : va_P (dC, dI) vwCl (cwT cy e0 uc ++ [(oa, .inl (cy 5, 1, .inr (.inl (vp_updL f0 0 (((if isDr (S_sgn S (ix a) (ix b)) (ix a) then nI 0 else nI (K_made (S_sgn S (ix a) (ix b)) N (ix a) 10))).toInt64)))))]) H := hP
    have hD : va_D A (cwT cy e0 uc ++ [(oa, .inl (cy 5, 1, .inr (.inl (vp_updL f0 0 (((if isDr (S_sgn S (ix a) (ix b)) (ix a) then nI 0 else nI (K_made (S_sgn S (ix a) (ix b)) N (ix a) 10))).toInt64)))))]) := hD
    refine lv_goto (tgt := 25) hx hb dL_sign_10 (by decide) ?_
    refine lv_iconst (v := nI 0) hx hb dL_sign_25 (by decide) ?_
    rw [← hQQ]; exact end_i (u := (uc, vp_updL f0 0 (((if isDr (S_sgn S (ix a) (ix b)) (ix a) then nI 0 else nI (K_made (S_sgn S (ix a) (ix b)) N (ix a) 10))).toInt64))) hx hb hr hlocks dL_sign_26 hK hP hD hS ⟨by rw [hv], fun _ => ⟨updL_0 f0 _, hu⟩, fun h => absurd hv h, hok, had⟩ (Nat.le_of_ble_eq_true rfl) (Nat.le_of_ble_eq_true rfl)

set_option maxHeartbeats 4000000 in
set_option maxRecDepth 100000 in
theorem qL_pass (l : Launch) (dC : Nat → ClassId) (dI : Nat → Nat → Nat) (cy : Nat → ClassId) (e0 mi oa : Nat) (ad : Lc → Nat) (L : List Lc) (S : SS) (N : NN) (f0 : Nat → Int64) (sz : Nat) (a : Int32) (hI : okC L N) (hX : okX L N)  (hst : l.stackTraces = false) : Met l yL_pass wsL_pass ({ frames := 7, cells := 2, slots := 12, locals := 113 }) (va_Pc [.ref (ad (10, 0)), .int a, .ref oa] (wPreL (dC, dI) (tyL cy) e0 mi (cw cy e0 ad L S N ++ [(oa, .inl (cy 5, 1, .inr (.inl (f0))))]) sz)) (QI (dC, dI) (tyL cy) (fun (r : Int32) (u : LU) => r = nI (V_pass S a) ∧ (V_pass S a = 0 → (u.2 0 = (nI (K_passN S N (ix a))).toInt64 ∧ u.1.2.2 = (K_passS S N (ix a), N))) ∧ (¬ V_pass S a = 0 → u.1.2.2 = (S, N)) ∧ okU u.1 ∧ u.1.1 (10, 0) = ad (10, 0)) (lwU cy e0 oa) (va_A (cw cy e0 ad L S N ++ [(oa, .inl (cy 5, 1, .inr (.inl (f0))))]) sz)) 2 12 (va_A (cw cy e0 ad L S N ++ [(oa, .inl (cy 5, 1, .inr (.inl (f0))))]) sz) := by
  refine enL (cc := cL_pass) (maxL := 4) (ret := (some .int)) (hh := [(0, 9, 12, 13), (0, 9, 15, 15)]) (own := RL) (lv := [(0, .ref (ad (10, 0))), (1, .int a), (2, .ref oa)]) (by decide) rfl rfl (Nat.le_of_ble_eq_true rfl) rfl ?_
  intro p e s m below meth c ls A H locs hx hb hr hts hown hlocks hml hin hsz hK hP hD hS hA hl ham htab
  generalize hQQ : MQ below _ _ s _ _ A = QQ
  have lk0 : (Cond.classLink RL 13 "java/lang/IllegalArgumentException").before (([.ref (ad (10, 0)), .int a, .ref oa] : List Value).toArray) s = true := hts _ (List.mem_of_getElem? (i := 1) rfl)
  have lk1 : (Cond.classLink RL 15 "java/lang/IllegalStateException").before (([.ref (ad (10, 0)), .int a, .ref oa] : List Value).toArray) s = true := hts _ (List.mem_of_getElem? (i := 2) rfl)
  refine lv_aload_n hx hb dL_pass_0 rfl (lv_at hl 2 rfl) ?_
  refine lv_iconst (v := nI 0) hx hb dL_pass_1 (by decide) ?_
  refine lv_aload_n hx hb dL_pass_2 rfl (lv_at hl 0 rfl) ?_
  refine lv_iload_n hx hb dL_pass_3 rfl (lv_at hl 1 rfl) ?_
  obtain ⟨hMF, hI0⟩ := (⟨hI.1.2.2.2.1, hI⟩ : _ ∧ okC L N)
  obtain ⟨z10, hz10⟩ := pl_get (ad := ad) (f := cc cy e0 ad S N) (hMF 10 (by decide))
  have hP0 := w_leftP hP
  have hD0 := w_leftD hD
  refine callY_ix hP (vx_runV (As := [.int a]) (rest := [.int (nI 0), .ref oa]) ⟨hx, hb, hml, hown, hts⟩ (qX3_pass l dC dI cy e0 mi ad L S N H.size a hI0  hst) (cwV 1 hts gL_pass_X3_pass rfl rfl rfl (by decide +kernel) ⟨Nat.le_of_ble_eq_true rfl, Nat.le_of_ble_eq_true rfl⟩) (preXV hK hP0 hD0 hS hA ham.1 (w_recv (ci := 4) (q0 := z10) hK hP0 hz10 rfl)) rfl rfl hl.1 rfl (lv_room (Nat.le_of_ble_eq_true rfl)) dL_pass_4 ⟨Nat.le_of_ble_eq_true rfl, Nat.le_of_ble_eq_true rfl⟩) hD hS hA (fun E ce q9 H locs hpx hP hS hc1 hc2 hc3 => ?_) (fun rr uc H locs hw hP hD hS => ?_)
  · rcases hpx with ⟨hv, rfl⟩ | ⟨hv, rfl⟩
    · refine vx_catch (name := "java/lang/IllegalArgumentException") hown [] ⟨0, 9, 12, 13⟩ [⟨0, 9, 15, 15⟩] (by rw [htab]; rfl) (fun z hz => absurd hz (List.not_mem_nil)) rfl (by decide : (13 : Nat) ≠ 0) lk0 (va_Nw.use rfl (ham.1.2.2.2.2.2.1 ("java/lang/IllegalArgumentException", "java/lang/IllegalArgumentException") (by decide))) hc1 hc2 hc3 ?_
      refine lv_astore_n (lv' := [(3, .ref q9), (0, .ref (ad (10, 0))), (1, .int a), (2, .ref oa)]) hx hb dL_pass_12 rfl hl (by decide) rfl (fun ls hl => ?_)
      refine lv_iconst (v := nI 1) hx hb dL_pass_13 (by decide) ?_
      rw [← hQQ]; exact end_i (u := ((ad, L, S, N), f0)) hx hb hr hlocks dL_pass_14 hK hP hD hS ⟨by rw [hv], fun h => absurd (hv.symm.trans h) (by decide), fun _ => rfl, ⟨hI, hX⟩, rfl⟩ (Nat.le_of_ble_eq_true rfl) (Nat.le_of_ble_eq_true rfl)
    · refine vx_catch (name := "java/lang/IllegalStateException") hown [⟨0, 9, 12, 13⟩] ⟨0, 9, 15, 15⟩ [] (by rw [htab]; rfl) (fun z hz => by rw [List.mem_singleton.mp hz]; exact Or.inr ⟨(by decide : (13 : Nat) ≠ 0), "java/lang/IllegalArgumentException", lk0, ham.2 ("java/lang/IllegalStateException", "java/lang/IllegalArgumentException") (by decide)⟩) rfl (by decide : (15 : Nat) ≠ 0) lk1 (va_Nw.use rfl (ham.1.2.2.2.2.2.1 ("java/lang/IllegalStateException", "java/lang/IllegalStateException") (by decide))) hc1 hc2 hc3 ?_
      refine lv_astore_n (lv' := [(3, .ref q9), (0, .ref (ad (10, 0))), (1, .int a), (2, .ref oa)]) hx hb dL_pass_15 rfl hl (by decide) rfl (fun ls hl => ?_)
      refine lv_iconst (v := nI 2) hx hb dL_pass_16 (by decide) ?_
      rw [← hQQ]; exact end_i (u := ((ad, L, S, N), f0)) hx hb hr hlocks dL_pass_17 hK hP hD hS ⟨by rw [hv], fun h => absurd (hv.symm.trans h) (by decide), fun _ => rfl, ⟨hI, hX⟩, rfl⟩ (Nat.le_of_ble_eq_true rfl) (Nat.le_of_ble_eq_true rfl)
  · obtain ⟨hv, rfl, hu⟩ := hw
    have hP : va_P (dC, dI) vwCl (cwU cy e0 ad L uc ++ [(oa, .inl (cy 5, 1, .inr (.inl (f0))))]) H := hP
    have hD : va_D A (cwU cy e0 ad L uc ++ [(oa, .inl (cy 5, 1, .inr (.inl (f0))))]) := hD
    refine lv_i2l hx hb dL_pass_7 rfl ?_
    refine va_last (f := f0) hx hb hK hP hD hS ((cwU cy e0 ad L uc).length + 0) 5 (app_r rfl) rfl (vp_in_nI (by decide) (by decide)) dL_pass_8 (fun H locs hP hD hS => ?_)
    rw [nI_clamp (by decide), app_setr] at hP hD
    have hP : va_P (dC, dI) vwCl (cwU cy e0 ad L uc ++ [(oa, .inl (cy 5, 1, .inr (.inl (vp_updL f0 0 ((nI (K_passN S N (ix a))).toInt64)))))]) H := hP
    have hD : va_D A (cwU cy e0 ad L uc ++ [(oa, .inl (cy 5, 1, .inr (.inl (vp_updL f0 0 ((nI (K_passN S N (ix a))).toInt64)))))]) := hD
    refine lv_goto (tgt := 18) hx hb dL_pass_9 (by decide) ?_
    refine lv_iconst (v := nI 0) hx hb dL_pass_18 (by decide) ?_
    rw [← hQQ]; exact end_i (u := ((ad, L, uc), vp_updL f0 0 ((nI (K_passN S N (ix a))).toInt64))) hx hb hr hlocks dL_pass_19 hK hP hD hS ⟨by rw [hv], fun _ => ⟨updL_0 f0 _, hu⟩, fun h => absurd hv h, (by
    rw [show ((ad, L, uc) : CT) = (ad, L, (K_passS S N (ix a), N)) by rw [hu]]
    exact ⟨hI0, hX⟩), rfl⟩ (Nat.le_of_ble_eq_true rfl) (Nat.le_of_ble_eq_true rfl)

set_option maxHeartbeats 4000000 in
set_option maxRecDepth 100000 in
theorem qL_state (l : Launch) (dC : Nat → ClassId) (dI : Nat → Nat → Nat) (cy : Nat → ClassId) (e0 mi oa : Nat) (ad : Lc → Nat) (L : List Lc) (S : SS) (N : NN) (f0 : Nat → Int64) (sz : Nat) (a : Int32) (hI : okC L N) (hX : okX L N)  (hst : l.stackTraces = false) : Met l yL_state wsL_state ({ frames := 8, cells := 1, slots := 6, locals := 132 }) (va_Pc [.ref (ad (10, 0)), .int a, .ref oa] (wPreL (dC, dI) (tyL cy) e0 mi (cw cy e0 ad L S N ++ [(oa, .inl (cy 5, 1, .inr (.inl (f0))))]) sz)) (QI (dC, dI) (tyL cy) (fun (r : Int32) (u : LU) => r = nI (V_at N 5 a) ∧ (V_at N 5 a = 0 → (u.2 0 = (S 9 (ix a) 0).toInt64 ∧ u.1.2.2 = (S, N))) ∧ (¬ V_at N 5 a = 0 → u.1.2.2 = (S, N)) ∧ okU u.1 ∧ u.1.1 (10, 0) = ad (10, 0)) (lwU cy e0 oa) (va_A (cw cy e0 ad L S N ++ [(oa, .inl (cy 5, 1, .inr (.inl (f0))))]) sz)) 1 6 (va_A (cw cy e0 ad L S N ++ [(oa, .inl (cy 5, 1, .inr (.inl (f0))))]) sz) := by
  refine enL (cc := cL_state) (maxL := 4) (ret := (some .int)) (hh := [(0, 9, 12, 33)]) (own := RL) (lv := [(0, .ref (ad (10, 0))), (1, .int a), (2, .ref oa)]) (by decide) rfl rfl (Nat.le_of_ble_eq_true rfl) rfl ?_
  intro p e s m below meth c ls A H locs hx hb hr hts hown hlocks hml hin hsz hK hP hD hS hA hl ham htab
  generalize hQQ : MQ below _ _ s _ _ A = QQ
  have lk0 : (Cond.classLink RL 33 "java/lang/IndexOutOfBoundsException").before (([.ref (ad (10, 0)), .int a, .ref oa] : List Value).toArray) s = true := hts _ (List.mem_of_getElem? (i := 1) rfl)
  refine lv_aload_n hx hb dL_state_0 rfl (lv_at hl 2 rfl) ?_
  refine lv_iconst (v := nI 0) hx hb dL_state_1 (by decide) ?_
  refine lv_aload_n hx hb dL_state_2 rfl (lv_at hl 0 rfl) ?_
  refine lv_iload_n hx hb dL_state_3 rfl (lv_at hl 1 rfl) ?_
  obtain ⟨hMF, hI0⟩ := (⟨hI.1.2.2.2.1, hI⟩ : _ ∧ okC L N)
  obtain ⟨z10, hz10⟩ := pl_get (ad := ad) (f := cc cy e0 ad S N) (hMF 10 (by decide))
  have hP0 := w_leftP hP
  have hD0 := w_leftD hD
  refine callY_ix hP (vx_runV (As := [.int a]) (rest := [.int (nI 0), .ref oa]) ⟨hx, hb, hml, hown, hts⟩ (qX3_state l dC dI cy e0 mi ad L S N H.size a hI0  hst) (cwV 1 hts gL_state_X3_state rfl rfl rfl (by decide +kernel) ⟨Nat.le_of_ble_eq_true rfl, Nat.le_of_ble_eq_true rfl⟩) (preXV hK hP0 hD0 hS hA ham.1 (w_recv (ci := 4) (q0 := z10) hK hP0 hz10 rfl)) rfl rfl hl.1 rfl (lv_room (Nat.le_of_ble_eq_true rfl)) dL_state_4 ⟨Nat.le_of_ble_eq_true rfl, Nat.le_of_ble_eq_true rfl⟩) hD hS hA (fun E ce q9 H locs hpx hP hS hc1 hc2 hc3 => ?_) (fun rr uc H locs hw hP hD hS => ?_)
  · obtain ⟨hv, rfl⟩ := hpx
    refine vx_catch (name := "java/lang/IndexOutOfBoundsException") hown [] ⟨0, 9, 12, 33⟩ [] (by rw [htab]; rfl) (fun z hz => absurd hz (List.not_mem_nil)) rfl (by decide : (33 : Nat) ≠ 0) lk0 (va_Nw.use rfl (ham.1.2.2.2.2.2.1 ("java/lang/IndexOutOfBoundsException", "java/lang/IndexOutOfBoundsException") (by decide))) hc1 hc2 hc3 ?_
    refine lv_astore_n (lv' := [(3, .ref q9), (0, .ref (ad (10, 0))), (1, .int a), (2, .ref oa)]) hx hb dL_state_12 rfl hl (by decide) rfl (fun ls hl => ?_)
    refine lv_iconst (v := nI 1) hx hb dL_state_13 (by decide) ?_
    rw [← hQQ]; exact end_i (u := ((ad, L, S, N), f0)) hx hb hr hlocks dL_state_14 hK hP hD hS ⟨by rw [hv], fun h => absurd (hv.symm.trans h) (by decide), fun _ => rfl, ⟨hI, hX⟩, rfl⟩ (Nat.le_of_ble_eq_true rfl) (Nat.le_of_ble_eq_true rfl)
  · obtain ⟨hv, rfl, hu⟩ := hw
    have hP : va_P (dC, dI) vwCl (cwU cy e0 ad L uc ++ [(oa, .inl (cy 5, 1, .inr (.inl (f0))))]) H := hP
    have hD : va_D A (cwU cy e0 ad L uc ++ [(oa, .inl (cy 5, 1, .inr (.inl (f0))))]) := hD
    refine lv_i2l hx hb dL_state_7 rfl ?_
    refine va_last (f := f0) hx hb hK hP hD hS ((cwU cy e0 ad L uc).length + 0) 5 (app_r rfl) rfl (vp_in_nI (by decide) (by decide)) dL_state_8 (fun H locs hP hD hS => ?_)
    rw [nI_clamp (by decide), app_setr] at hP hD
    have hP : va_P (dC, dI) vwCl (cwU cy e0 ad L uc ++ [(oa, .inl (cy 5, 1, .inr (.inl (vp_updL f0 0 ((S 9 (ix a) 0).toInt64)))))]) H := hP
    have hD : va_D A (cwU cy e0 ad L uc ++ [(oa, .inl (cy 5, 1, .inr (.inl (vp_updL f0 0 ((S 9 (ix a) 0).toInt64)))))]) := hD
    refine lv_goto (tgt := 15) hx hb dL_state_9 (by decide) ?_
    refine lv_iconst (v := nI 0) hx hb dL_state_15 (by decide) ?_
    rw [← hQQ]; exact end_i (u := ((ad, L, uc), vp_updL f0 0 ((S 9 (ix a) 0).toInt64))) hx hb hr hlocks dL_state_16 hK hP hD hS ⟨by rw [hv], fun _ => ⟨updL_0 f0 _, hu⟩, fun h => absurd hv h, (by
    rw [show ((ad, L, uc) : CT) = (ad, L, (S, N)) by rw [hu]]
    exact ⟨hI0, hX⟩), rfl⟩ (Nat.le_of_ble_eq_true rfl) (Nat.le_of_ble_eq_true rfl)

set_option maxHeartbeats 4000000 in
set_option maxRecDepth 100000 in
theorem qL_day (l : Launch) (dC : Nat → ClassId) (dI : Nat → Nat → Nat) (cy : Nat → ClassId) (e0 mi oa : Nat) (ad : Lc → Nat) (L : List Lc) (S : SS) (N : NN) (f0 : Nat → Int64) (sz : Nat) (a : Int32) (hI : okC L N) (hX : okX L N)  (hst : l.stackTraces = false) : Met l yL_day wsL_day ({ frames := 8, cells := 1, slots := 6, locals := 132 }) (va_Pc [.ref (ad (10, 0)), .int a, .ref oa] (wPreL (dC, dI) (tyL cy) e0 mi (cw cy e0 ad L S N ++ [(oa, .inl (cy 5, 1, .inr (.inl (f0))))]) sz)) (QI (dC, dI) (tyL cy) (fun (r : Int32) (u : LU) => r = nI (V_at N 5 a) ∧ (V_at N 5 a = 0 → (u.2 0 = (S 9 (ix a) 1).toInt64 ∧ u.1.2.2 = (S, N))) ∧ (¬ V_at N 5 a = 0 → u.1.2.2 = (S, N)) ∧ okU u.1 ∧ u.1.1 (10, 0) = ad (10, 0)) (lwU cy e0 oa) (va_A (cw cy e0 ad L S N ++ [(oa, .inl (cy 5, 1, .inr (.inl (f0))))]) sz)) 1 6 (va_A (cw cy e0 ad L S N ++ [(oa, .inl (cy 5, 1, .inr (.inl (f0))))]) sz) := by
  refine enL (cc := cL_day) (maxL := 4) (ret := (some .int)) (hh := [(0, 9, 12, 33)]) (own := RL) (lv := [(0, .ref (ad (10, 0))), (1, .int a), (2, .ref oa)]) (by decide) rfl rfl (Nat.le_of_ble_eq_true rfl) rfl ?_
  intro p e s m below meth c ls A H locs hx hb hr hts hown hlocks hml hin hsz hK hP hD hS hA hl ham htab
  generalize hQQ : MQ below _ _ s _ _ A = QQ
  have lk0 : (Cond.classLink RL 33 "java/lang/IndexOutOfBoundsException").before (([.ref (ad (10, 0)), .int a, .ref oa] : List Value).toArray) s = true := hts _ (List.mem_of_getElem? (i := 1) rfl)
  refine lv_aload_n hx hb dL_day_0 rfl (lv_at hl 2 rfl) ?_
  refine lv_iconst (v := nI 0) hx hb dL_day_1 (by decide) ?_
  refine lv_aload_n hx hb dL_day_2 rfl (lv_at hl 0 rfl) ?_
  refine lv_iload_n hx hb dL_day_3 rfl (lv_at hl 1 rfl) ?_
  obtain ⟨hMF, hI0⟩ := (⟨hI.1.2.2.2.1, hI⟩ : _ ∧ okC L N)
  obtain ⟨z10, hz10⟩ := pl_get (ad := ad) (f := cc cy e0 ad S N) (hMF 10 (by decide))
  have hP0 := w_leftP hP
  have hD0 := w_leftD hD
  refine callY_ix hP (vx_runV (As := [.int a]) (rest := [.int (nI 0), .ref oa]) ⟨hx, hb, hml, hown, hts⟩ (qX3_day l dC dI cy e0 mi ad L S N H.size a hI0  hst) (cwV 1 hts gL_day_X3_day rfl rfl rfl (by decide +kernel) ⟨Nat.le_of_ble_eq_true rfl, Nat.le_of_ble_eq_true rfl⟩) (preXV hK hP0 hD0 hS hA ham.1 (w_recv (ci := 4) (q0 := z10) hK hP0 hz10 rfl)) rfl rfl hl.1 rfl (lv_room (Nat.le_of_ble_eq_true rfl)) dL_day_4 ⟨Nat.le_of_ble_eq_true rfl, Nat.le_of_ble_eq_true rfl⟩) hD hS hA (fun E ce q9 H locs hpx hP hS hc1 hc2 hc3 => ?_) (fun rr uc H locs hw hP hD hS => ?_)
  · obtain ⟨hv, rfl⟩ := hpx
    refine vx_catch (name := "java/lang/IndexOutOfBoundsException") hown [] ⟨0, 9, 12, 33⟩ [] (by rw [htab]; rfl) (fun z hz => absurd hz (List.not_mem_nil)) rfl (by decide : (33 : Nat) ≠ 0) lk0 (va_Nw.use rfl (ham.1.2.2.2.2.2.1 ("java/lang/IndexOutOfBoundsException", "java/lang/IndexOutOfBoundsException") (by decide))) hc1 hc2 hc3 ?_
    refine lv_astore_n (lv' := [(3, .ref q9), (0, .ref (ad (10, 0))), (1, .int a), (2, .ref oa)]) hx hb dL_day_12 rfl hl (by decide) rfl (fun ls hl => ?_)
    refine lv_iconst (v := nI 1) hx hb dL_day_13 (by decide) ?_
    rw [← hQQ]; exact end_i (u := ((ad, L, S, N), f0)) hx hb hr hlocks dL_day_14 hK hP hD hS ⟨by rw [hv], fun h => absurd (hv.symm.trans h) (by decide), fun _ => rfl, ⟨hI, hX⟩, rfl⟩ (Nat.le_of_ble_eq_true rfl) (Nat.le_of_ble_eq_true rfl)
  · obtain ⟨hv, rfl, hu⟩ := hw
    have hP : va_P (dC, dI) vwCl (cwU cy e0 ad L uc ++ [(oa, .inl (cy 5, 1, .inr (.inl (f0))))]) H := hP
    have hD : va_D A (cwU cy e0 ad L uc ++ [(oa, .inl (cy 5, 1, .inr (.inl (f0))))]) := hD
    refine lv_i2l hx hb dL_day_7 rfl ?_
    refine va_last (f := f0) hx hb hK hP hD hS ((cwU cy e0 ad L uc).length + 0) 5 (app_r rfl) rfl (vp_in_nI (by decide) (by decide)) dL_day_8 (fun H locs hP hD hS => ?_)
    rw [nI_clamp (by decide), app_setr] at hP hD
    have hP : va_P (dC, dI) vwCl (cwU cy e0 ad L uc ++ [(oa, .inl (cy 5, 1, .inr (.inl (vp_updL f0 0 ((S 9 (ix a) 1).toInt64)))))]) H := hP
    have hD : va_D A (cwU cy e0 ad L uc ++ [(oa, .inl (cy 5, 1, .inr (.inl (vp_updL f0 0 ((S 9 (ix a) 1).toInt64)))))]) := hD
    refine lv_goto (tgt := 15) hx hb dL_day_9 (by decide) ?_
    refine lv_iconst (v := nI 0) hx hb dL_day_15 (by decide) ?_
    rw [← hQQ]; exact end_i (u := ((ad, L, uc), vp_updL f0 0 ((S 9 (ix a) 1).toInt64))) hx hb hr hlocks dL_day_16 hK hP hD hS ⟨by rw [hv], fun _ => ⟨updL_0 f0 _, hu⟩, fun h => absurd hv h, (by
    rw [show ((ad, L, uc) : CT) = (ad, L, (S, N)) by rw [hu]]
    exact ⟨hI0, hX⟩), rfl⟩ (Nat.le_of_ble_eq_true rfl) (Nat.le_of_ble_eq_true rfl)

set_option maxHeartbeats 4000000 in
set_option maxRecDepth 100000 in
theorem qL_isSuspended (l : Launch) (dC : Nat → ClassId) (dI : Nat → Nat → Nat) (cy : Nat → ClassId) (e0 mi oa : Nat) (ad : Lc → Nat) (L : List Lc) (S : SS) (N : NN) (f0 : Nat → Int64) (sz : Nat) (a : Int32) (hI : okC L N) (hX : okX L N)  (hst : l.stackTraces = false) : Met l yL_isSuspended wsL_isSuspended ({ frames := 8, cells := 1, slots := 6, locals := 132 }) (va_Pc [.ref (ad (10, 0)), .int a, .ref oa] (wPreL (dC, dI) (tyL cy) e0 mi (cw cy e0 ad L S N ++ [(oa, .inl (cy 5, 1, .inr (.inl (f0))))]) sz)) (QI (dC, dI) (tyL cy) (fun (r : Int32) (u : LU) => r = nI (V_at N 5 a) ∧ (V_at N 5 a = 0 → (u.2 0 = (bi (isHeld S N (ix a))).toInt64 ∧ u.1.2.2 = (S, N))) ∧ (¬ V_at N 5 a = 0 → u.1.2.2 = (S, N)) ∧ okU u.1 ∧ u.1.1 (10, 0) = ad (10, 0)) (lwU cy e0 oa) (va_A (cw cy e0 ad L S N ++ [(oa, .inl (cy 5, 1, .inr (.inl (f0))))]) sz)) 1 6 (va_A (cw cy e0 ad L S N ++ [(oa, .inl (cy 5, 1, .inr (.inl (f0))))]) sz) := by
  refine enL (cc := cL_isSuspended) (maxL := 4) (ret := (some .int)) (hh := [(0, 16, 19, 33)]) (own := RL) (lv := [(0, .ref (ad (10, 0))), (1, .int a), (2, .ref oa)]) (by decide) rfl rfl (Nat.le_of_ble_eq_true rfl) rfl ?_
  intro p e s m below meth c ls A H locs hx hb hr hts hown hlocks hml hin hsz hK hP hD hS hA hl ham htab
  generalize hQQ : MQ below _ _ s _ _ A = QQ
  have lk0 : (Cond.classLink RL 33 "java/lang/IndexOutOfBoundsException").before (([.ref (ad (10, 0)), .int a, .ref oa] : List Value).toArray) s = true := hts _ (List.mem_of_getElem? (i := 1) rfl)
  refine lv_aload_n hx hb dL_isSuspended_0 rfl (lv_at hl 2 rfl) ?_
  refine lv_iconst (v := nI 0) hx hb dL_isSuspended_1 (by decide) ?_
  refine lv_aload_n hx hb dL_isSuspended_2 rfl (lv_at hl 0 rfl) ?_
  refine lv_iload_n hx hb dL_isSuspended_3 rfl (lv_at hl 1 rfl) ?_
  obtain ⟨hMF, hI0⟩ := (⟨hI.1.2.2.2.1, hI⟩ : _ ∧ okC L N)
  obtain ⟨z10, hz10⟩ := pl_get (ad := ad) (f := cc cy e0 ad S N) (hMF 10 (by decide))
  have hP0 := w_leftP hP
  have hD0 := w_leftD hD
  refine callY_ix hP (vx_runV (As := [.int a]) (rest := [.int (nI 0), .ref oa]) ⟨hx, hb, hml, hown, hts⟩ (qX3_isSuspended l dC dI cy e0 mi ad L S N H.size a hI0  hst) (cwV 1 hts gL_isSuspended_X3_isSuspended rfl rfl rfl (by decide +kernel) ⟨Nat.le_of_ble_eq_true rfl, Nat.le_of_ble_eq_true rfl⟩) (preXV hK hP0 hD0 hS hA ham.1 (w_recv (ci := 4) (q0 := z10) hK hP0 hz10 rfl)) rfl rfl hl.1 rfl (lv_room (Nat.le_of_ble_eq_true rfl)) dL_isSuspended_4 ⟨Nat.le_of_ble_eq_true rfl, Nat.le_of_ble_eq_true rfl⟩) hD hS hA (fun E ce q9 H locs hpx hP hS hc1 hc2 hc3 => ?_) (fun rr uc H locs hw hP hD hS => ?_)
  · obtain ⟨hv, rfl⟩ := hpx
    refine vx_catch (name := "java/lang/IndexOutOfBoundsException") hown [] ⟨0, 16, 19, 33⟩ [] (by rw [htab]; rfl) (fun z hz => absurd hz (List.not_mem_nil)) rfl (by decide : (33 : Nat) ≠ 0) lk0 (va_Nw.use rfl (ham.1.2.2.2.2.2.1 ("java/lang/IndexOutOfBoundsException", "java/lang/IndexOutOfBoundsException") (by decide))) hc1 hc2 hc3 ?_
    refine lv_astore_n (lv' := [(3, .ref q9), (0, .ref (ad (10, 0))), (1, .int a), (2, .ref oa)]) hx hb dL_isSuspended_19 rfl hl (by decide) rfl (fun ls hl => ?_)
    refine lv_iconst (v := nI 1) hx hb dL_isSuspended_20 (by decide) ?_
    rw [← hQQ]; exact end_i (u := ((ad, L, S, N), f0)) hx hb hr hlocks dL_isSuspended_21 hK hP hD hS ⟨by rw [hv], fun h => absurd (hv.symm.trans h) (by decide), fun _ => rfl, ⟨hI, hX⟩, rfl⟩ (Nat.le_of_ble_eq_true rfl) (Nat.le_of_ble_eq_true rfl)
  · obtain ⟨hv, rfl, hu⟩ := hw
    have hP : va_P (dC, dI) vwCl (cwU cy e0 ad L uc ++ [(oa, .inl (cy 5, 1, .inr (.inl (f0))))]) H := hP
    have hD : va_D A (cwU cy e0 ad L uc ++ [(oa, .inl (cy 5, 1, .inr (.inl (f0))))]) := hD
    refine br_eq (tgt := 14) hx hb dL_isSuspended_7 (by decide) (fun c_1 => ?_) (fun c_1 => ?_)
    · refine lv_lconst hx hb dL_isSuspended_14 (v := 0) rfl ?_
      refine va_last (f := f0) hx hb hK hP hD hS ((cwU cy e0 ad L uc).length + 0) 5 (app_r rfl) rfl (vp_in_nI (by decide) (by decide)) dL_isSuspended_15 (fun H locs hP hD hS => ?_)
      rw [nI_clamp (by decide), app_setr] at hP hD
      have hP : va_P (dC, dI) vwCl (cwU cy e0 ad L uc ++ [(oa, .inl (cy 5, 1, .inr (.inl (vp_updL f0 0 0))))]) H := hP
      have hD : va_D A (cwU cy e0 ad L uc ++ [(oa, .inl (cy 5, 1, .inr (.inl (vp_updL f0 0 0))))]) := hD
      refine lv_goto (tgt := 22) hx hb dL_isSuspended_16 (by decide) ?_
      refine lv_iconst (v := nI 0) hx hb dL_isSuspended_22 (by decide) ?_
      rw [← hQQ]; exact end_i (u := ((ad, L, uc), vp_updL f0 0 0)) hx hb hr hlocks dL_isSuspended_23 hK hP hD hS ⟨by rw [hv], fun _ => ⟨(updL_0 f0 0).trans (show (0 : Int64) = (bi (isHeld S N (ix a))).toInt64 by rw [bi_f c_1]; decide), hu⟩, fun h => absurd hv h, (by
    rw [show ((ad, L, uc) : CT) = (ad, L, (S, N)) by rw [hu]]
    exact ⟨hI0, hX⟩), rfl⟩ (Nat.le_of_ble_eq_true rfl) (Nat.le_of_ble_eq_true rfl)
    · refine lv_lconst hx hb dL_isSuspended_10 (v := 1) rfl ?_
      refine lv_goto (tgt := 15) hx hb dL_isSuspended_11 (by decide) ?_
      refine va_last (f := f0) hx hb hK hP hD hS ((cwU cy e0 ad L uc).length + 0) 5 (app_r rfl) rfl (vp_in_nI (by decide) (by decide)) dL_isSuspended_15 (fun H locs hP hD hS => ?_)
      rw [nI_clamp (by decide), app_setr] at hP hD
      have hP : va_P (dC, dI) vwCl (cwU cy e0 ad L uc ++ [(oa, .inl (cy 5, 1, .inr (.inl (vp_updL f0 0 1))))]) H := hP
      have hD : va_D A (cwU cy e0 ad L uc ++ [(oa, .inl (cy 5, 1, .inr (.inl (vp_updL f0 0 1))))]) := hD
      refine lv_goto (tgt := 22) hx hb dL_isSuspended_16 (by decide) ?_
      refine lv_iconst (v := nI 0) hx hb dL_isSuspended_22 (by decide) ?_
      rw [← hQQ]; exact end_i (u := ((ad, L, uc), vp_updL f0 0 1)) hx hb hr hlocks dL_isSuspended_23 hK hP hD hS ⟨by rw [hv], fun _ => ⟨(updL_0 f0 1).trans (show (1 : Int64) = (bi (isHeld S N (ix a))).toInt64 by rw [bi_t c_1]; decide), hu⟩, fun h => absurd hv h, (by
    rw [show ((ad, L, uc) : CT) = (ad, L, (S, N)) by rw [hu]]
    exact ⟨hI0, hX⟩), rfl⟩ (Nat.le_of_ble_eq_true rfl) (Nat.le_of_ble_eq_true rfl)

set_option maxHeartbeats 4000000 in
set_option maxRecDepth 100000 in
theorem qL_perform (l : Launch) (dC : Nat → ClassId) (dI : Nat → Nat → Nat) (cy : Nat → ClassId) (e0 mi oa : Nat) (ad : Lc → Nat) (L : List Lc) (S : SS) (N : NN) (f0 : Nat → Int64) (sz : Nat) (a : Int32) (hI : okC L N) (hX : okX L N)  (hst : l.stackTraces = false) : Met l yL_perform wsL_perform ({ frames := 8, cells := 2, slots := 12, locals := 134 }) (va_Pc [.ref (ad (10, 0)), .int a, .ref oa] (wPreL (dC, dI) (tyL cy) e0 mi (cw cy e0 ad L S N ++ [(oa, .inl (cy 5, 1, .inr (.inl (f0))))]) sz)) (QI (dC, dI) (tyL cy) (fun (r : Int32) (u : LU) => r = nI (V_perform S N a) ∧ (V_perform S N a = 0 → (u.2 0 = (bi (S 9 (ix a) 0 = nI 2 ∨ S 9 (ix a) 1 < S 0 0 0)).toInt64 ∧ u.1.2.2 = (K_move S (ix a) (nI 1) (S 0 0 0), N))) ∧ (¬ V_perform S N a = 0 → u.1.2.2 = (S, N)) ∧ okU u.1 ∧ u.1.1 (10, 0) = ad (10, 0)) (lwU cy e0 oa) (va_A (cw cy e0 ad L S N ++ [(oa, .inl (cy 5, 1, .inr (.inl (f0))))]) sz)) 2 12 (va_A (cw cy e0 ad L S N ++ [(oa, .inl (cy 5, 1, .inr (.inl (f0))))]) sz) := by
  refine enL (cc := cL_perform) (maxL := 4) (ret := (some .int)) (hh := [(0, 16, 19, 33), (0, 16, 22, 15)]) (own := RL) (lv := [(0, .ref (ad (10, 0))), (1, .int a), (2, .ref oa)]) (by decide) rfl rfl (Nat.le_of_ble_eq_true rfl) rfl ?_
  intro p e s m below meth c ls A H locs hx hb hr hts hown hlocks hml hin hsz hK hP hD hS hA hl ham htab
  generalize hQQ : MQ below _ _ s _ _ A = QQ
  have lk0 : (Cond.classLink RL 33 "java/lang/IndexOutOfBoundsException").before (([.ref (ad (10, 0)), .int a, .ref oa] : List Value).toArray) s = true := hts _ (List.mem_of_getElem? (i := 1) rfl)
  have lk1 : (Cond.classLink RL 15 "java/lang/IllegalStateException").before (([.ref (ad (10, 0)), .int a, .ref oa] : List Value).toArray) s = true := hts _ (List.mem_of_getElem? (i := 2) rfl)
  refine lv_aload_n hx hb dL_perform_0 rfl (lv_at hl 2 rfl) ?_
  refine lv_iconst (v := nI 0) hx hb dL_perform_1 (by decide) ?_
  refine lv_aload_n hx hb dL_perform_2 rfl (lv_at hl 0 rfl) ?_
  refine lv_iload_n hx hb dL_perform_3 rfl (lv_at hl 1 rfl) ?_
  obtain ⟨hMF, hI0⟩ := (⟨hI.1.2.2.2.1, hI⟩ : _ ∧ okC L N)
  obtain ⟨z10, hz10⟩ := pl_get (ad := ad) (f := cc cy e0 ad S N) (hMF 10 (by decide))
  have hP0 := w_leftP hP
  have hD0 := w_leftD hD
  refine callY_ix hP (vx_runV (As := [.int a]) (rest := [.int (nI 0), .ref oa]) ⟨hx, hb, hml, hown, hts⟩ (qX3_perform l dC dI cy e0 mi ad L S N H.size a hI0  hst) (cwV 1 hts gL_perform_X3_perform rfl rfl rfl (by decide +kernel) ⟨Nat.le_of_ble_eq_true rfl, Nat.le_of_ble_eq_true rfl⟩) (preXV hK hP0 hD0 hS hA ham.1 (w_recv (ci := 4) (q0 := z10) hK hP0 hz10 rfl)) rfl rfl hl.1 rfl (lv_room (Nat.le_of_ble_eq_true rfl)) dL_perform_4 ⟨Nat.le_of_ble_eq_true rfl, Nat.le_of_ble_eq_true rfl⟩) hD hS hA (fun E ce q9 H locs hpx hP hS hc1 hc2 hc3 => ?_) (fun rr uc H locs hw hP hD hS => ?_)
  · rcases hpx with ⟨hv, rfl⟩ | ⟨hv, rfl⟩
    · refine vx_catch (name := "java/lang/IndexOutOfBoundsException") hown [] ⟨0, 16, 19, 33⟩ [⟨0, 16, 22, 15⟩] (by rw [htab]; rfl) (fun z hz => absurd hz (List.not_mem_nil)) rfl (by decide : (33 : Nat) ≠ 0) lk0 (va_Nw.use rfl (ham.1.2.2.2.2.2.1 ("java/lang/IndexOutOfBoundsException", "java/lang/IndexOutOfBoundsException") (by decide))) hc1 hc2 hc3 ?_
      refine lv_astore_n (lv' := [(3, .ref q9), (0, .ref (ad (10, 0))), (1, .int a), (2, .ref oa)]) hx hb dL_perform_19 rfl hl (by decide) rfl (fun ls hl => ?_)
      refine lv_iconst (v := nI 1) hx hb dL_perform_20 (by decide) ?_
      rw [← hQQ]; exact end_i (u := ((ad, L, S, N), f0)) hx hb hr hlocks dL_perform_21 hK hP hD hS ⟨by rw [hv], fun h => absurd (hv.symm.trans h) (by decide), fun _ => rfl, ⟨hI, hX⟩, rfl⟩ (Nat.le_of_ble_eq_true rfl) (Nat.le_of_ble_eq_true rfl)
    · refine vx_catch (name := "java/lang/IllegalStateException") hown [⟨0, 16, 19, 33⟩] ⟨0, 16, 22, 15⟩ [] (by rw [htab]; rfl) (fun z hz => by rw [List.mem_singleton.mp hz]; exact Or.inr ⟨(by decide : (33 : Nat) ≠ 0), "java/lang/IndexOutOfBoundsException", lk0, ham.2 ("java/lang/IllegalStateException", "java/lang/IndexOutOfBoundsException") (by decide)⟩) rfl (by decide : (15 : Nat) ≠ 0) lk1 (va_Nw.use rfl (ham.1.2.2.2.2.2.1 ("java/lang/IllegalStateException", "java/lang/IllegalStateException") (by decide))) hc1 hc2 hc3 ?_
      refine lv_astore_n (lv' := [(3, .ref q9), (0, .ref (ad (10, 0))), (1, .int a), (2, .ref oa)]) hx hb dL_perform_22 rfl hl (by decide) rfl (fun ls hl => ?_)
      refine lv_iconst (v := nI 2) hx hb dL_perform_23 (by decide) ?_
      rw [← hQQ]; exact end_i (u := ((ad, L, S, N), f0)) hx hb hr hlocks dL_perform_24 hK hP hD hS ⟨by rw [hv], fun h => absurd (hv.symm.trans h) (by decide), fun _ => rfl, ⟨hI, hX⟩, rfl⟩ (Nat.le_of_ble_eq_true rfl) (Nat.le_of_ble_eq_true rfl)
  · obtain ⟨hv, rfl, hu⟩ := hw
    have hP : va_P (dC, dI) vwCl (cwU cy e0 ad L uc ++ [(oa, .inl (cy 5, 1, .inr (.inl (f0))))]) H := hP
    have hD : va_D A (cwU cy e0 ad L uc ++ [(oa, .inl (cy 5, 1, .inr (.inl (f0))))]) := hD
    refine br_eq (tgt := 14) hx hb dL_perform_7 (by decide) (fun c_1 => ?_) (fun c_1 => ?_)
    · refine lv_lconst hx hb dL_perform_14 (v := 0) rfl ?_
      refine va_last (f := f0) hx hb hK hP hD hS ((cwU cy e0 ad L uc).length + 0) 5 (app_r rfl) rfl (vp_in_nI (by decide) (by decide)) dL_perform_15 (fun H locs hP hD hS => ?_)
      rw [nI_clamp (by decide), app_setr] at hP hD
      have hP : va_P (dC, dI) vwCl (cwU cy e0 ad L uc ++ [(oa, .inl (cy 5, 1, .inr (.inl (vp_updL f0 0 0))))]) H := hP
      have hD : va_D A (cwU cy e0 ad L uc ++ [(oa, .inl (cy 5, 1, .inr (.inl (vp_updL f0 0 0))))]) := hD
      refine lv_goto (tgt := 25) hx hb dL_perform_16 (by decide) ?_
      refine lv_iconst (v := nI 0) hx hb dL_perform_25 (by decide) ?_
      rw [← hQQ]; exact end_i (u := ((ad, L, uc), vp_updL f0 0 0)) hx hb hr hlocks dL_perform_26 hK hP hD hS ⟨by rw [hv], fun _ => ⟨(updL_0 f0 0).trans (show (0 : Int64) = (bi (S 9 (ix a) 0 = nI 2 ∨ S 9 (ix a) 1 < S 0 0 0)).toInt64 by rw [bi_f c_1]; decide), hu⟩, fun h => absurd hv h, (by
    rw [show ((ad, L, uc) : CT) = (ad, L, (K_move S (ix a) (nI 1) (S 0 0 0), N)) by rw [hu]]
    exact ⟨hI0, hX⟩), rfl⟩ (Nat.le_of_ble_eq_true rfl) (Nat.le_of_ble_eq_true rfl)
    · refine lv_lconst hx hb dL_perform_10 (v := 1) rfl ?_
      refine lv_goto (tgt := 15) hx hb dL_perform_11 (by decide) ?_
      refine va_last (f := f0) hx hb hK hP hD hS ((cwU cy e0 ad L uc).length + 0) 5 (app_r rfl) rfl (vp_in_nI (by decide) (by decide)) dL_perform_15 (fun H locs hP hD hS => ?_)
      rw [nI_clamp (by decide), app_setr] at hP hD
      have hP : va_P (dC, dI) vwCl (cwU cy e0 ad L uc ++ [(oa, .inl (cy 5, 1, .inr (.inl (vp_updL f0 0 1))))]) H := hP
      have hD : va_D A (cwU cy e0 ad L uc ++ [(oa, .inl (cy 5, 1, .inr (.inl (vp_updL f0 0 1))))]) := hD
      refine lv_goto (tgt := 25) hx hb dL_perform_16 (by decide) ?_
      refine lv_iconst (v := nI 0) hx hb dL_perform_25 (by decide) ?_
      rw [← hQQ]; exact end_i (u := ((ad, L, uc), vp_updL f0 0 1)) hx hb hr hlocks dL_perform_26 hK hP hD hS ⟨by rw [hv], fun _ => ⟨(updL_0 f0 1).trans (show (1 : Int64) = (bi (S 9 (ix a) 0 = nI 2 ∨ S 9 (ix a) 1 < S 0 0 0)).toInt64 by rw [bi_t c_1]; decide), hu⟩, fun h => absurd hv h, (by
    rw [show ((ad, L, uc) : CT) = (ad, L, (K_move S (ix a) (nI 1) (S 0 0 0), N)) by rw [hu]]
    exact ⟨hI0, hX⟩), rfl⟩ (Nat.le_of_ble_eq_true rfl) (Nat.le_of_ble_eq_true rfl)

set_option maxHeartbeats 4000000 in
set_option maxRecDepth 100000 in
theorem qL_notice (l : Launch) (dC : Nat → ClassId) (dI : Nat → Nat → Nat) (cy : Nat → ClassId) (e0 mi oa : Nat) (ad : Lc → Nat) (L : List Lc) (S : SS) (N : NN) (f0 : Nat → Int64) (sz : Nat) (a : Int32) (hI : okC L N) (hX : okX L N)  (hst : l.stackTraces = false) : Met l yL_notice wsL_notice ({ frames := 8, cells := 2, slots := 12, locals := 133 }) (va_Pc [.ref (ad (10, 0)), .int a, .ref oa] (wPreL (dC, dI) (tyL cy) e0 mi (cw cy e0 ad L S N ++ [(oa, .inl (cy 5, 1, .inr (.inl (f0))))]) sz)) (QI (dC, dI) (tyL cy) (fun (r : Int32) (u : LU) => r = nI (V_notice S N a) ∧ (V_notice S N a = 0 → (u.2 0 = (S 0 0 0 + S 3 (N 3 (ix a) 1) 2).toInt64 ∧ u.1.2.2 = (K_move S (ix a) (nI 2) (S 0 0 0 + S 3 (N 3 (ix a) 1) 2), N))) ∧ (¬ V_notice S N a = 0 → u.1.2.2 = (S, N)) ∧ okU u.1 ∧ u.1.1 (10, 0) = ad (10, 0)) (lwU cy e0 oa) (va_A (cw cy e0 ad L S N ++ [(oa, .inl (cy 5, 1, .inr (.inl (f0))))]) sz)) 2 12 (va_A (cw cy e0 ad L S N ++ [(oa, .inl (cy 5, 1, .inr (.inl (f0))))]) sz) := by
  refine enL (cc := cL_notice) (maxL := 4) (ret := (some .int)) (hh := [(0, 9, 12, 33), (0, 9, 15, 15)]) (own := RL) (lv := [(0, .ref (ad (10, 0))), (1, .int a), (2, .ref oa)]) (by decide) rfl rfl (Nat.le_of_ble_eq_true rfl) rfl ?_
  intro p e s m below meth c ls A H locs hx hb hr hts hown hlocks hml hin hsz hK hP hD hS hA hl ham htab
  generalize hQQ : MQ below _ _ s _ _ A = QQ
  have lk0 : (Cond.classLink RL 33 "java/lang/IndexOutOfBoundsException").before (([.ref (ad (10, 0)), .int a, .ref oa] : List Value).toArray) s = true := hts _ (List.mem_of_getElem? (i := 1) rfl)
  have lk1 : (Cond.classLink RL 15 "java/lang/IllegalStateException").before (([.ref (ad (10, 0)), .int a, .ref oa] : List Value).toArray) s = true := hts _ (List.mem_of_getElem? (i := 2) rfl)
  refine lv_aload_n hx hb dL_notice_0 rfl (lv_at hl 2 rfl) ?_
  refine lv_iconst (v := nI 0) hx hb dL_notice_1 (by decide) ?_
  refine lv_aload_n hx hb dL_notice_2 rfl (lv_at hl 0 rfl) ?_
  refine lv_iload_n hx hb dL_notice_3 rfl (lv_at hl 1 rfl) ?_
  obtain ⟨hMF, hI0⟩ := (⟨hI.1.2.2.2.1, hI⟩ : _ ∧ okC L N)
  obtain ⟨z10, hz10⟩ := pl_get (ad := ad) (f := cc cy e0 ad S N) (hMF 10 (by decide))
  have hP0 := w_leftP hP
  have hD0 := w_leftD hD
  refine callY_ix hP (vx_runV (As := [.int a]) (rest := [.int (nI 0), .ref oa]) ⟨hx, hb, hml, hown, hts⟩ (qX3_notice l dC dI cy e0 mi ad L S N H.size a hI0  hst) (cwV 1 hts gL_notice_X3_notice rfl rfl rfl (by decide +kernel) ⟨Nat.le_of_ble_eq_true rfl, Nat.le_of_ble_eq_true rfl⟩) (preXV hK hP0 hD0 hS hA ham.1 (w_recv (ci := 4) (q0 := z10) hK hP0 hz10 rfl)) rfl rfl hl.1 rfl (lv_room (Nat.le_of_ble_eq_true rfl)) dL_notice_4 ⟨Nat.le_of_ble_eq_true rfl, Nat.le_of_ble_eq_true rfl⟩) hD hS hA (fun E ce q9 H locs hpx hP hS hc1 hc2 hc3 => ?_) (fun rr uc H locs hw hP hD hS => ?_)
  · rcases hpx with ⟨hv, rfl⟩ | ⟨hv, rfl⟩
    · refine vx_catch (name := "java/lang/IndexOutOfBoundsException") hown [] ⟨0, 9, 12, 33⟩ [⟨0, 9, 15, 15⟩] (by rw [htab]; rfl) (fun z hz => absurd hz (List.not_mem_nil)) rfl (by decide : (33 : Nat) ≠ 0) lk0 (va_Nw.use rfl (ham.1.2.2.2.2.2.1 ("java/lang/IndexOutOfBoundsException", "java/lang/IndexOutOfBoundsException") (by decide))) hc1 hc2 hc3 ?_
      refine lv_astore_n (lv' := [(3, .ref q9), (0, .ref (ad (10, 0))), (1, .int a), (2, .ref oa)]) hx hb dL_notice_12 rfl hl (by decide) rfl (fun ls hl => ?_)
      refine lv_iconst (v := nI 1) hx hb dL_notice_13 (by decide) ?_
      rw [← hQQ]; exact end_i (u := ((ad, L, S, N), f0)) hx hb hr hlocks dL_notice_14 hK hP hD hS ⟨by rw [hv], fun h => absurd (hv.symm.trans h) (by decide), fun _ => rfl, ⟨hI, hX⟩, rfl⟩ (Nat.le_of_ble_eq_true rfl) (Nat.le_of_ble_eq_true rfl)
    · refine vx_catch (name := "java/lang/IllegalStateException") hown [⟨0, 9, 12, 33⟩] ⟨0, 9, 15, 15⟩ [] (by rw [htab]; rfl) (fun z hz => by rw [List.mem_singleton.mp hz]; exact Or.inr ⟨(by decide : (33 : Nat) ≠ 0), "java/lang/IndexOutOfBoundsException", lk0, ham.2 ("java/lang/IllegalStateException", "java/lang/IndexOutOfBoundsException") (by decide)⟩) rfl (by decide : (15 : Nat) ≠ 0) lk1 (va_Nw.use rfl (ham.1.2.2.2.2.2.1 ("java/lang/IllegalStateException", "java/lang/IllegalStateException") (by decide))) hc1 hc2 hc3 ?_
      refine lv_astore_n (lv' := [(3, .ref q9), (0, .ref (ad (10, 0))), (1, .int a), (2, .ref oa)]) hx hb dL_notice_15 rfl hl (by decide) rfl (fun ls hl => ?_)
      refine lv_iconst (v := nI 2) hx hb dL_notice_16 (by decide) ?_
      rw [← hQQ]; exact end_i (u := ((ad, L, S, N), f0)) hx hb hr hlocks dL_notice_17 hK hP hD hS ⟨by rw [hv], fun h => absurd (hv.symm.trans h) (by decide), fun _ => rfl, ⟨hI, hX⟩, rfl⟩ (Nat.le_of_ble_eq_true rfl) (Nat.le_of_ble_eq_true rfl)
  · obtain ⟨hv, rfl, hu⟩ := hw
    have hP : va_P (dC, dI) vwCl (cwU cy e0 ad L uc ++ [(oa, .inl (cy 5, 1, .inr (.inl (f0))))]) H := hP
    have hD : va_D A (cwU cy e0 ad L uc ++ [(oa, .inl (cy 5, 1, .inr (.inl (f0))))]) := hD
    refine lv_i2l hx hb dL_notice_7 rfl ?_
    refine va_last (f := f0) hx hb hK hP hD hS ((cwU cy e0 ad L uc).length + 0) 5 (app_r rfl) rfl (vp_in_nI (by decide) (by decide)) dL_notice_8 (fun H locs hP hD hS => ?_)
    rw [nI_clamp (by decide), app_setr] at hP hD
    have hP : va_P (dC, dI) vwCl (cwU cy e0 ad L uc ++ [(oa, .inl (cy 5, 1, .inr (.inl (vp_updL f0 0 ((S 0 0 0 + S 3 (N 3 (ix a) 1) 2).toInt64)))))]) H := hP
    have hD : va_D A (cwU cy e0 ad L uc ++ [(oa, .inl (cy 5, 1, .inr (.inl (vp_updL f0 0 ((S 0 0 0 + S 3 (N 3 (ix a) 1) 2).toInt64)))))]) := hD
    refine lv_goto (tgt := 18) hx hb dL_notice_9 (by decide) ?_
    refine lv_iconst (v := nI 0) hx hb dL_notice_18 (by decide) ?_
    rw [← hQQ]; exact end_i (u := ((ad, L, uc), vp_updL f0 0 ((S 0 0 0 + S 3 (N 3 (ix a) 1) 2).toInt64))) hx hb hr hlocks dL_notice_19 hK hP hD hS ⟨by rw [hv], fun _ => ⟨updL_0 f0 _, hu⟩, fun h => absurd hv h, (by
    rw [show ((ad, L, uc) : CT) = (ad, L, (K_move S (ix a) (nI 2) (S 0 0 0 + S 3 (N 3 (ix a) 1) 2), N)) by rw [hu]]
    exact ⟨hI0, hX⟩), rfl⟩ (Nat.le_of_ble_eq_true rfl) (Nat.le_of_ble_eq_true rfl)

set_option maxHeartbeats 4000000 in
set_option maxRecDepth 100000 in
theorem qL_settle (l : Launch) (dC : Nat → ClassId) (dI : Nat → Nat → Nat) (cy : Nat → ClassId) (e0 mi oa : Nat) (ad : Lc → Nat) (L : List Lc) (S : SS) (N : NN) (f0 : Nat → Int64) (sz : Nat) (a : Int32) (hI : okC L N) (hX : okX L N)  (hst : l.stackTraces = false) : Met l yL_settle wsL_settle ({ frames := 8, cells := 2, slots := 12, locals := 133 }) (va_Pc [.ref (ad (10, 0)), .int a, .ref oa] (wPreL (dC, dI) (tyL cy) e0 mi (cw cy e0 ad L S N ++ [(oa, .inl (cy 5, 1, .inr (.inl (f0))))]) sz)) (QI (dC, dI) (tyL cy) (fun (r : Int32) (u : LU) => r = nI (V_settle S N a) ∧ (V_settle S N a = 0 → (u.2 0 = (S 3 (N 3 (ix a) 1) 3).toInt64 ∧ u.1.2.2 = (K_count (K_move S (ix a) (nI 4) (S 0 0 0)) N (ix a) (-1), N))) ∧ (¬ V_settle S N a = 0 → u.1.2.2 = (S, N)) ∧ okU u.1 ∧ u.1.1 (10, 0) = ad (10, 0)) (lwU cy e0 oa) (va_A (cw cy e0 ad L S N ++ [(oa, .inl (cy 5, 1, .inr (.inl (f0))))]) sz)) 2 12 (va_A (cw cy e0 ad L S N ++ [(oa, .inl (cy 5, 1, .inr (.inl (f0))))]) sz) := by
  refine enL (cc := cL_settle) (maxL := 4) (ret := (some .int)) (hh := [(0, 9, 12, 33), (0, 9, 15, 15)]) (own := RL) (lv := [(0, .ref (ad (10, 0))), (1, .int a), (2, .ref oa)]) (by decide) rfl rfl (Nat.le_of_ble_eq_true rfl) rfl ?_
  intro p e s m below meth c ls A H locs hx hb hr hts hown hlocks hml hin hsz hK hP hD hS hA hl ham htab
  generalize hQQ : MQ below _ _ s _ _ A = QQ
  have lk0 : (Cond.classLink RL 33 "java/lang/IndexOutOfBoundsException").before (([.ref (ad (10, 0)), .int a, .ref oa] : List Value).toArray) s = true := hts _ (List.mem_of_getElem? (i := 1) rfl)
  have lk1 : (Cond.classLink RL 15 "java/lang/IllegalStateException").before (([.ref (ad (10, 0)), .int a, .ref oa] : List Value).toArray) s = true := hts _ (List.mem_of_getElem? (i := 2) rfl)
  refine lv_aload_n hx hb dL_settle_0 rfl (lv_at hl 2 rfl) ?_
  refine lv_iconst (v := nI 0) hx hb dL_settle_1 (by decide) ?_
  refine lv_aload_n hx hb dL_settle_2 rfl (lv_at hl 0 rfl) ?_
  refine lv_iload_n hx hb dL_settle_3 rfl (lv_at hl 1 rfl) ?_
  obtain ⟨hMF, hI0⟩ := (⟨hI.1.2.2.2.1, hI⟩ : _ ∧ okC L N)
  obtain ⟨z10, hz10⟩ := pl_get (ad := ad) (f := cc cy e0 ad S N) (hMF 10 (by decide))
  have hP0 := w_leftP hP
  have hD0 := w_leftD hD
  refine callY_ix hP (vx_runV (As := [.int a]) (rest := [.int (nI 0), .ref oa]) ⟨hx, hb, hml, hown, hts⟩ (qX3_settle l dC dI cy e0 mi ad L S N H.size a hI0  hst) (cwV 1 hts gL_settle_X3_settle rfl rfl rfl (by decide +kernel) ⟨Nat.le_of_ble_eq_true rfl, Nat.le_of_ble_eq_true rfl⟩) (preXV hK hP0 hD0 hS hA ham.1 (w_recv (ci := 4) (q0 := z10) hK hP0 hz10 rfl)) rfl rfl hl.1 rfl (lv_room (Nat.le_of_ble_eq_true rfl)) dL_settle_4 ⟨Nat.le_of_ble_eq_true rfl, Nat.le_of_ble_eq_true rfl⟩) hD hS hA (fun E ce q9 H locs hpx hP hS hc1 hc2 hc3 => ?_) (fun rr uc H locs hw hP hD hS => ?_)
  · rcases hpx with ⟨hv, rfl⟩ | ⟨hv, rfl⟩
    · refine vx_catch (name := "java/lang/IndexOutOfBoundsException") hown [] ⟨0, 9, 12, 33⟩ [⟨0, 9, 15, 15⟩] (by rw [htab]; rfl) (fun z hz => absurd hz (List.not_mem_nil)) rfl (by decide : (33 : Nat) ≠ 0) lk0 (va_Nw.use rfl (ham.1.2.2.2.2.2.1 ("java/lang/IndexOutOfBoundsException", "java/lang/IndexOutOfBoundsException") (by decide))) hc1 hc2 hc3 ?_
      refine lv_astore_n (lv' := [(3, .ref q9), (0, .ref (ad (10, 0))), (1, .int a), (2, .ref oa)]) hx hb dL_settle_12 rfl hl (by decide) rfl (fun ls hl => ?_)
      refine lv_iconst (v := nI 1) hx hb dL_settle_13 (by decide) ?_
      rw [← hQQ]; exact end_i (u := ((ad, L, S, N), f0)) hx hb hr hlocks dL_settle_14 hK hP hD hS ⟨by rw [hv], fun h => absurd (hv.symm.trans h) (by decide), fun _ => rfl, ⟨hI, hX⟩, rfl⟩ (Nat.le_of_ble_eq_true rfl) (Nat.le_of_ble_eq_true rfl)
    · refine vx_catch (name := "java/lang/IllegalStateException") hown [⟨0, 9, 12, 33⟩] ⟨0, 9, 15, 15⟩ [] (by rw [htab]; rfl) (fun z hz => by rw [List.mem_singleton.mp hz]; exact Or.inr ⟨(by decide : (33 : Nat) ≠ 0), "java/lang/IndexOutOfBoundsException", lk0, ham.2 ("java/lang/IllegalStateException", "java/lang/IndexOutOfBoundsException") (by decide)⟩) rfl (by decide : (15 : Nat) ≠ 0) lk1 (va_Nw.use rfl (ham.1.2.2.2.2.2.1 ("java/lang/IllegalStateException", "java/lang/IllegalStateException") (by decide))) hc1 hc2 hc3 ?_
      refine lv_astore_n (lv' := [(3, .ref q9), (0, .ref (ad (10, 0))), (1, .int a), (2, .ref oa)]) hx hb dL_settle_15 rfl hl (by decide) rfl (fun ls hl => ?_)
      refine lv_iconst (v := nI 2) hx hb dL_settle_16 (by decide) ?_
      rw [← hQQ]; exact end_i (u := ((ad, L, S, N), f0)) hx hb hr hlocks dL_settle_17 hK hP hD hS ⟨by rw [hv], fun h => absurd (hv.symm.trans h) (by decide), fun _ => rfl, ⟨hI, hX⟩, rfl⟩ (Nat.le_of_ble_eq_true rfl) (Nat.le_of_ble_eq_true rfl)
  · obtain ⟨hv, rfl, hu⟩ := hw
    have hP : va_P (dC, dI) vwCl (cwU cy e0 ad L uc ++ [(oa, .inl (cy 5, 1, .inr (.inl (f0))))]) H := hP
    have hD : va_D A (cwU cy e0 ad L uc ++ [(oa, .inl (cy 5, 1, .inr (.inl (f0))))]) := hD
    refine lv_i2l hx hb dL_settle_7 rfl ?_
    refine va_last (f := f0) hx hb hK hP hD hS ((cwU cy e0 ad L uc).length + 0) 5 (app_r rfl) rfl (vp_in_nI (by decide) (by decide)) dL_settle_8 (fun H locs hP hD hS => ?_)
    rw [nI_clamp (by decide), app_setr] at hP hD
    have hP : va_P (dC, dI) vwCl (cwU cy e0 ad L uc ++ [(oa, .inl (cy 5, 1, .inr (.inl (vp_updL f0 0 ((S 3 (N 3 (ix a) 1) 3).toInt64)))))]) H := hP
    have hD : va_D A (cwU cy e0 ad L uc ++ [(oa, .inl (cy 5, 1, .inr (.inl (vp_updL f0 0 ((S 3 (N 3 (ix a) 1) 3).toInt64)))))]) := hD
    refine lv_goto (tgt := 18) hx hb dL_settle_9 (by decide) ?_
    refine lv_iconst (v := nI 0) hx hb dL_settle_18 (by decide) ?_
    rw [← hQQ]; exact end_i (u := ((ad, L, uc), vp_updL f0 0 ((S 3 (N 3 (ix a) 1) 3).toInt64))) hx hb hr hlocks dL_settle_19 hK hP hD hS ⟨by rw [hv], fun _ => ⟨updL_0 f0 _, hu⟩, fun h => absurd hv h, (by
    rw [show ((ad, L, uc) : CT) = (ad, L, (K_count (K_move S (ix a) (nI 4) (S 0 0 0)) N (ix a) (-1), N)) by rw [hu]]
    exact ⟨hI0, hX⟩), rfl⟩ (Nat.le_of_ble_eq_true rfl) (Nat.le_of_ble_eq_true rfl)

set_option maxHeartbeats 4000000 in
set_option maxRecDepth 100000 in
theorem qL_owes (l : Launch) (dC : Nat → ClassId) (dI : Nat → Nat → Nat) (cy : Nat → ClassId) (e0 mi oa : Nat) (ad : Lc → Nat) (L : List Lc) (S : SS) (N : NN) (f0 : Nat → Int64) (sz : Nat) (a b : Int32) (hI : okC L N) (hX : okX L N)  (hst : l.stackTraces = false) : Met l yL_owes wsL_owes ({ frames := 8, cells := 2, slots := 12, locals := 134 }) (va_Pc [.ref (ad (10, 0)), .int a, .int b, .ref oa] (wPreL (dC, dI) (tyL cy) e0 mi (cw cy e0 ad L S N ++ [(oa, .inl (cy 5, 1, .inr (.inl (f0))))]) sz)) (QI (dC, dI) (tyL cy) (fun (r : Int32) (u : LU) => r = nI (V_owes N a b) ∧ (V_owes N a b = 0 → (u.2 0 = ((if nI 0 < S 8 (ix a) (ix b) - S 8 (ix a) (1 - ix b) then S 8 (ix a) (ix b) - S 8 (ix a) (1 - ix b) else nI 0)).toInt64 ∧ u.1.2.2 = (S, N))) ∧ (¬ V_owes N a b = 0 → u.1.2.2 = (S, N)) ∧ okU u.1 ∧ u.1.1 (10, 0) = ad (10, 0)) (lwU cy e0 oa) (va_A (cw cy e0 ad L S N ++ [(oa, .inl (cy 5, 1, .inr (.inl (f0))))]) sz)) 2 12 (va_A (cw cy e0 ad L S N ++ [(oa, .inl (cy 5, 1, .inr (.inl (f0))))]) sz) := by
  refine enL (cc := cL_owes) (maxL := 5) (ret := (some .int)) (hh := [(0, 10, 13, 33), (0, 10, 17, 13)]) (own := RL) (lv := [(0, .ref (ad (10, 0))), (1, .int a), (2, .int b), (3, .ref oa)]) (by decide) rfl rfl (Nat.le_of_ble_eq_true rfl) rfl ?_
  intro p e s m below meth c ls A H locs hx hb hr hts hown hlocks hml hin hsz hK hP hD hS hA hl ham htab
  generalize hQQ : MQ below _ _ s _ _ A = QQ
  have lk0 : (Cond.classLink RL 33 "java/lang/IndexOutOfBoundsException").before (([.ref (ad (10, 0)), .int a, .int b, .ref oa] : List Value).toArray) s = true := hts _ (List.mem_of_getElem? (i := 1) rfl)
  have lk1 : (Cond.classLink RL 13 "java/lang/IllegalArgumentException").before (([.ref (ad (10, 0)), .int a, .int b, .ref oa] : List Value).toArray) s = true := hts _ (List.mem_of_getElem? (i := 2) rfl)
  refine lv_aload_n hx hb dL_owes_0 rfl (lv_at hl 3 rfl) ?_
  refine lv_iconst (v := nI 0) hx hb dL_owes_1 (by decide) ?_
  refine lv_aload_n hx hb dL_owes_2 rfl (lv_at hl 0 rfl) ?_
  refine lv_iload_n hx hb dL_owes_3 rfl (lv_at hl 1 rfl) ?_
  refine lv_iload_n hx hb dL_owes_4 rfl (lv_at hl 2 rfl) ?_
  obtain ⟨hMF, hI0⟩ := (⟨hI.1.2.2.2.1, hI⟩ : _ ∧ okC L N)
  obtain ⟨z10, hz10⟩ := pl_get (ad := ad) (f := cc cy e0 ad S N) (hMF 10 (by decide))
  have hP0 := w_leftP hP
  have hD0 := w_leftD hD
  refine callY_ix hP (vx_runV (As := [.int a, .int b]) (rest := [.int (nI 0), .ref oa]) ⟨hx, hb, hml, hown, hts⟩ (qX3_owes l dC dI cy e0 mi ad L S N H.size a b hI0  hst) (cwV 2 hts gL_owes_X3_owes rfl rfl rfl (by decide +kernel) ⟨Nat.le_of_ble_eq_true rfl, Nat.le_of_ble_eq_true rfl⟩) (preXV hK hP0 hD0 hS hA ham.1 (w_recv (ci := 4) (q0 := z10) hK hP0 hz10 rfl)) rfl rfl hl.1 rfl (lv_room (Nat.le_of_ble_eq_true rfl)) dL_owes_5 ⟨Nat.le_of_ble_eq_true rfl, Nat.le_of_ble_eq_true rfl⟩) hD hS hA (fun E ce q9 H locs hpx hP hS hc1 hc2 hc3 => ?_) (fun rr uc H locs hw hP hD hS => ?_)
  · rcases hpx with ⟨hv, rfl⟩ | ⟨hv, rfl⟩
    · refine vx_catch (name := "java/lang/IndexOutOfBoundsException") hown [] ⟨0, 10, 13, 33⟩ [⟨0, 10, 17, 13⟩] (by rw [htab]; rfl) (fun z hz => absurd hz (List.not_mem_nil)) rfl (by decide : (33 : Nat) ≠ 0) lk0 (va_Nw.use rfl (ham.1.2.2.2.2.2.1 ("java/lang/IndexOutOfBoundsException", "java/lang/IndexOutOfBoundsException") (by decide))) hc1 hc2 hc3 ?_
      refine lv_astore (lv' := [(4, .ref q9), (0, .ref (ad (10, 0))), (1, .int a), (2, .int b), (3, .ref oa)]) hx hb dL_owes_13 hl (by decide) rfl (fun ls hl => ?_)
      refine lv_iconst (v := nI 1) hx hb dL_owes_15 (by decide) ?_
      rw [← hQQ]; exact end_i (u := ((ad, L, S, N), f0)) hx hb hr hlocks dL_owes_16 hK hP hD hS ⟨by rw [hv], fun h => absurd (hv.symm.trans h) (by decide), fun _ => rfl, ⟨hI, hX⟩, rfl⟩ (Nat.le_of_ble_eq_true rfl) (Nat.le_of_ble_eq_true rfl)
    · refine vx_catch (name := "java/lang/IllegalArgumentException") hown [⟨0, 10, 13, 33⟩] ⟨0, 10, 17, 13⟩ [] (by rw [htab]; rfl) (fun z hz => by rw [List.mem_singleton.mp hz]; exact Or.inr ⟨(by decide : (33 : Nat) ≠ 0), "java/lang/IndexOutOfBoundsException", lk0, ham.2 ("java/lang/IllegalArgumentException", "java/lang/IndexOutOfBoundsException") (by decide)⟩) rfl (by decide : (13 : Nat) ≠ 0) lk1 (va_Nw.use rfl (ham.1.2.2.2.2.2.1 ("java/lang/IllegalArgumentException", "java/lang/IllegalArgumentException") (by decide))) hc1 hc2 hc3 ?_
      refine lv_astore (lv' := [(4, .ref q9), (0, .ref (ad (10, 0))), (1, .int a), (2, .int b), (3, .ref oa)]) hx hb dL_owes_17 hl (by decide) rfl (fun ls hl => ?_)
      refine lv_iconst (v := nI 2) hx hb dL_owes_19 (by decide) ?_
      rw [← hQQ]; exact end_i (u := ((ad, L, S, N), f0)) hx hb hr hlocks dL_owes_20 hK hP hD hS ⟨by rw [hv], fun h => absurd (hv.symm.trans h) (by decide), fun _ => rfl, ⟨hI, hX⟩, rfl⟩ (Nat.le_of_ble_eq_true rfl) (Nat.le_of_ble_eq_true rfl)
  · obtain ⟨hv, rfl, hu⟩ := hw
    have hP : va_P (dC, dI) vwCl (cwU cy e0 ad L uc ++ [(oa, .inl (cy 5, 1, .inr (.inl (f0))))]) H := hP
    have hD : va_D A (cwU cy e0 ad L uc ++ [(oa, .inl (cy 5, 1, .inr (.inl (f0))))]) := hD
    refine lv_i2l hx hb dL_owes_8 rfl ?_
    refine va_last (f := f0) hx hb hK hP hD hS ((cwU cy e0 ad L uc).length + 0) 5 (app_r rfl) rfl (vp_in_nI (by decide) (by decide)) dL_owes_9 (fun H locs hP hD hS => ?_)
    rw [nI_clamp (by decide), app_setr] at hP hD
    have hP : va_P (dC, dI) vwCl (cwU cy e0 ad L uc ++ [(oa, .inl (cy 5, 1, .inr (.inl (vp_updL f0 0 (((if nI 0 < S 8 (ix a) (ix b) - S 8 (ix a) (1 - ix b) then S 8 (ix a) (ix b) - S 8 (ix a) (1 - ix b) else nI 0)).toInt64)))))]) H := hP
    have hD : va_D A (cwU cy e0 ad L uc ++ [(oa, .inl (cy 5, 1, .inr (.inl (vp_updL f0 0 (((if nI 0 < S 8 (ix a) (ix b) - S 8 (ix a) (1 - ix b) then S 8 (ix a) (ix b) - S 8 (ix a) (1 - ix b) else nI 0)).toInt64)))))]) := hD
    refine lv_goto (tgt := 21) hx hb dL_owes_10 (by decide) ?_
    refine lv_iconst (v := nI 0) hx hb dL_owes_21 (by decide) ?_
    rw [← hQQ]; exact end_i (u := ((ad, L, uc), vp_updL f0 0 (((if nI 0 < S 8 (ix a) (ix b) - S 8 (ix a) (1 - ix b) then S 8 (ix a) (ix b) - S 8 (ix a) (1 - ix b) else nI 0)).toInt64))) hx hb hr hlocks dL_owes_22 hK hP hD hS ⟨by rw [hv], fun _ => ⟨updL_0 f0 _, hu⟩, fun h => absurd hv h, (by
    rw [show ((ad, L, uc) : CT) = (ad, L, (S, N)) by rw [hu]]
    exact ⟨hI0, hX⟩), rfl⟩ (Nat.le_of_ble_eq_true rfl) (Nat.le_of_ble_eq_true rfl)

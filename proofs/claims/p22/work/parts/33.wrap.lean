/-- what a wrapped call owes: V tells which way it went -/
def lres (oc V : Nat) (c1 c2 c3 ans : Int32) (s0 s1 : CS) (r : Int32) (u : CT) : Prop :=
  (V = 0 → r = ans ∧ u.2.2 = s1) ∧ (V = 1 → r = c1 ∧ u.2.2 = s0) ∧ (V = 2 → r = c2 ∧ u.2.2 = s0) ∧ (V = 3 → r = c3 ∧ u.2.2 = s0) ∧ okU u ∧ u.1 (10, 0) = oc
theorem lres_0 {oc V : Nat} {c1 c2 c3 ans : Int32} {s0 s1 : CS} {r : Int32} {u : CT} (hV : V = 0) (h1 : r = ans) (h2 : u.2.2 = s1) (h3 : okU u) (h4 : u.1 (10, 0) = oc) : lres oc V c1 c2 c3 ans s0 s1 r u := ⟨fun _ => ⟨h1, h2⟩, fun h => absurd (hV.symm.trans h) (by decide), fun h => absurd (hV.symm.trans h) (by decide), fun h => absurd (hV.symm.trans h) (by decide), h3, h4⟩
theorem lres_1 {oc V : Nat} {c1 c2 c3 ans : Int32} {s0 s1 : CS} {r : Int32} {u : CT} (hV : V = 1) (h1 : r = c1) (h2 : u.2.2 = s0) (h3 : okU u) (h4 : u.1 (10, 0) = oc) : lres oc V c1 c2 c3 ans s0 s1 r u := ⟨fun h => absurd (hV.symm.trans h) (by decide), fun _ => ⟨h1, h2⟩, fun h => absurd (hV.symm.trans h) (by decide), fun h => absurd (hV.symm.trans h) (by decide), h3, h4⟩
theorem lres_2 {oc V : Nat} {c1 c2 c3 ans : Int32} {s0 s1 : CS} {r : Int32} {u : CT} (hV : V = 2) (h1 : r = c2) (h2 : u.2.2 = s0) (h3 : okU u) (h4 : u.1 (10, 0) = oc) : lres oc V c1 c2 c3 ans s0 s1 r u := ⟨fun h => absurd (hV.symm.trans h) (by decide), fun h => absurd (hV.symm.trans h) (by decide), fun _ => ⟨h1, h2⟩, fun h => absurd (hV.symm.trans h) (by decide), h3, h4⟩
theorem lres_3 {oc V : Nat} {c1 c2 c3 ans : Int32} {s0 s1 : CS} {r : Int32} {u : CT} (hV : V = 3) (h1 : r = c3) (h2 : u.2.2 = s0) (h3 : okU u) (h4 : u.1 (10, 0) = oc) : lres oc V c1 c2 c3 ans s0 s1 r u := ⟨fun h => absurd (hV.symm.trans h) (by decide), fun h => absurd (hV.symm.trans h) (by decide), fun h => absurd (hV.symm.trans h) (by decide), fun _ => ⟨h1, h2⟩, h3, h4⟩

set_option maxHeartbeats 4000000 in
set_option maxRecDepth 100000 in
theorem qL_issue (l : Launch) (dC : Nat → ClassId) (dI : Nat → Nat → Nat) (cy : Nat → ClassId) (e0 mi oc : Nat) (ad : Lc → Nat) (L : List Lc) (S : SS) (N : NN) (sz : Nat) (a o d k z : Int32) (hI : okC L N) (hX : okX L N)  (hst : l.stackTraces = false) (hoc : ad (10, 0) = oc) : Met l yL_issue wsL_issue ({ frames := 8, cells := 8, slots := 64, locals := 136 }) (va_Pc [.ref oc, .int a, .int o, .int d, .int k, .int z] (wPreL (dC, dI) (tyL cy) e0 mi (cw cy e0 ad L S N) sz)) (QI (dC, dI) (tyL cy) (fun (r : Int32) (u : CT) => lres oc (V_issue N a o d k z) (-72) (-73) 0 (nI (N 1 0 (ix a) + 1)) (S, N) (S_iss S (9 * ix a + N 1 0 (ix a)) d k z, N_iss N (ix a) (ix o)) r u) (cwT cy e0) (va_A (cw cy e0 ad L S N) sz)) 8 64 (va_A (cw cy e0 ad L S N) sz) := by
  subst hoc
  refine enL (cc := cL_issue) (maxL := 8) (ret := (some .int)) (hh := [(0, 13, 16, 14), (0, 13, 21, 16)]) (own := RL) (lv := [(0, .ref (ad (10, 0))), (1, .int a), (2, .int o), (3, .int d), (4, .int k), (5, .int z)]) (by decide) rfl rfl (Nat.le_of_ble_eq_true rfl) rfl ?_
  intro p e s m below meth c ls A H locs hx hb hr hts hown hlocks hml hin hsz hK hP hD hS hA hl ham htab
  generalize hQQ : MQ below _ _ s _ _ A = QQ
  have lk0 : (Cond.classLink RL 14 "java/lang/IllegalArgumentException").before (([.ref (ad (10, 0)), .int a, .int o, .int d, .int k, .int z] : List Value).toArray) s = true := hts _ (List.mem_of_getElem? (i := 1) rfl)
  have lk1 : (Cond.classLink RL 16 "java/lang/IllegalStateException").before (([.ref (ad (10, 0)), .int a, .int o, .int d, .int k, .int z] : List Value).toArray) s = true := hts _ (List.mem_of_getElem? (i := 2) rfl)
  refine lv_aload_n hx hb dL_issue_0 rfl (lv_at hl 0 rfl) ?_
  refine lv_iload_n hx hb dL_issue_1 rfl (lv_at hl 1 rfl) ?_
  refine lv_iload_n hx hb dL_issue_2 rfl (lv_at hl 2 rfl) ?_
  refine lv_iload_n hx hb dL_issue_3 rfl (lv_at hl 3 rfl) ?_
  refine lv_iload hx hb dL_issue_4 (lv_at hl 4 rfl) ?_
  refine lv_iload hx hb dL_issue_6 (lv_at hl 5 rfl) ?_
  obtain ⟨hMF, hI0⟩ := (⟨hI.1.2.2.2.1, hI⟩ : _ ∧ okC L N)
  obtain ⟨z10, hz10⟩ := pl_get (ad := ad) (f := cc cy e0 ad S N) (hMF 10 (by decide))
  refine callX_i (vx_runV (As := [.int a, .int o, .int d, .int k, .int z]) (rest := []) ⟨hx, hb, hml, hown, hts⟩ (qX3_issue l dC dI cy e0 mi ad L S N H.size a o d k z hI0 hX hst) (cwV 5 hts gL_issue_X3_issue rfl rfl rfl (by decide +kernel) ⟨Nat.le_of_ble_eq_true rfl, Nat.le_of_ble_eq_true rfl⟩) (preXV hK hP hD hS hA ham.1 (w_recv (ci := 4) (q0 := z10) hK hP hz10 rfl)) rfl rfl hl.1 rfl (lv_room (Nat.le_of_ble_eq_true rfl)) dL_issue_8 ⟨Nat.le_of_ble_eq_true rfl, Nat.le_of_ble_eq_true rfl⟩) hD hS hA (fun E ce q9 H locs hpx hP hS hc1 hc2 hc3 => ?_) (fun rr uc H locs hw hP hD hS => ?_)
  · rcases hpx with ⟨hv, rfl⟩ | ⟨hv, rfl⟩
    · refine vx_catch (name := "java/lang/IllegalArgumentException") hown [] ⟨0, 13, 16, 14⟩ [⟨0, 13, 21, 16⟩] (by rw [htab]; rfl) (fun z hz => absurd hz (List.not_mem_nil)) rfl (by decide : (14 : Nat) ≠ 0) lk0 (va_Nw.use rfl (ham.1.2.2.2.2.2.1 ("java/lang/IllegalArgumentException", "java/lang/IllegalArgumentException") (by decide))) hc1 hc2 hc3 ?_
      refine lv_astore (lv' := [(7, .ref q9), (0, .ref (ad (10, 0))), (1, .int a), (2, .int o), (3, .int d), (4, .int k), (5, .int z)]) hx hb dL_issue_16 hl (by decide) rfl (fun ls hl => ?_)
      refine lv_bipush (v := -72) hx hb dL_issue_18 (by decide) ?_
      rw [← hQQ]; exact end_i (u := (ad, L, S, N)) hx hb hr hlocks dL_issue_20 hK hP hD hS (lres_1 hv rfl rfl ⟨hI, hX⟩ rfl) (Nat.le_of_ble_eq_true rfl) (Nat.le_of_ble_eq_true rfl)
    · refine vx_catch (name := "java/lang/IllegalStateException") hown [⟨0, 13, 16, 14⟩] ⟨0, 13, 21, 16⟩ [] (by rw [htab]; rfl) (fun z hz => by rw [List.mem_singleton.mp hz]; exact Or.inr ⟨(by decide : (14 : Nat) ≠ 0), "java/lang/IllegalArgumentException", lk0, ham.2 ("java/lang/IllegalStateException", "java/lang/IllegalArgumentException") (by decide)⟩) rfl (by decide : (16 : Nat) ≠ 0) lk1 (va_Nw.use rfl (ham.1.2.2.2.2.2.1 ("java/lang/IllegalStateException", "java/lang/IllegalStateException") (by decide))) hc1 hc2 hc3 ?_
      refine lv_astore (lv' := [(7, .ref q9), (0, .ref (ad (10, 0))), (1, .int a), (2, .int o), (3, .int d), (4, .int k), (5, .int z)]) hx hb dL_issue_21 hl (by decide) rfl (fun ls hl => ?_)
      refine lv_bipush (v := -73) hx hb dL_issue_23 (by decide) ?_
      rw [← hQQ]; exact end_i (u := (ad, L, S, N)) hx hb hr hlocks dL_issue_25 hK hP hD hS (lres_2 hv rfl rfl ⟨hI, hX⟩ rfl) (Nat.le_of_ble_eq_true rfl) (Nat.le_of_ble_eq_true rfl)
  · obtain ⟨hv, rfl, hu, hok, had⟩ := hw
    refine lv_istore (lv' := [(6, .int (nI (N 1 0 (ix a) + 1))), (0, .ref (ad (10, 0))), (1, .int a), (2, .int o), (3, .int d), (4, .int k), (5, .int z)]) hx hb dL_issue_11 hl (by decide) rfl (fun ls hl => ?_)
    refine lv_goto (tgt := 26) hx hb dL_issue_13 (by decide) ?_
    refine lv_iload hx hb dL_issue_26 (lv_at hl 0 rfl) ?_
    rw [← hQQ]; exact end_i (u := uc) hx hb hr hlocks dL_issue_28 hK hP hD hS (lres_0 hv rfl hu hok had) (Nat.le_of_ble_eq_true rfl) (Nat.le_of_ble_eq_true rfl)

set_option maxHeartbeats 4000000 in
set_option maxRecDepth 100000 in
theorem qL_relate (l : Launch) (dC : Nat → ClassId) (dI : Nat → Nat → Nat) (cy : Nat → ClassId) (e0 mi oc : Nat) (ad : Lc → Nat) (L : List Lc) (S : SS) (N : NN) (sz : Nat) (a n f : Int32) (hI : okC L N) (hX : okX L N)  (hst : l.stackTraces = false) (hoc : ad (10, 0) = oc) : Met l yL_relate wsL_relate ({ frames := 8, cells := 3, slots := 18, locals := 134 }) (va_Pc [.ref oc, .int a, .int n, .int f] (wPreL (dC, dI) (tyL cy) e0 mi (cw cy e0 ad L S N) sz)) (QI (dC, dI) (tyL cy) (fun (r : Int32) (u : CT) => lres oc (V_relate a n f) (-72) 0 0 (nI 0) (S, N) (su (su S 1 0 (upd (S 1 0) (ix a) n)) 2 0 (upd (S 2 0) (ix a) f), N) r u) (cwT cy e0) (va_A (cw cy e0 ad L S N) sz)) 3 18 (va_A (cw cy e0 ad L S N) sz) := by
  subst hoc
  refine enL (cc := cL_relate) (maxL := 5) (ret := (some .int)) (hh := [(0, 7, 10, 14)]) (own := RL) (lv := [(0, .ref (ad (10, 0))), (1, .int a), (2, .int n), (3, .int f)]) (by decide) rfl rfl (Nat.le_of_ble_eq_true rfl) rfl ?_
  intro p e s m below meth c ls A H locs hx hb hr hts hown hlocks hml hin hsz hK hP hD hS hA hl ham htab
  generalize hQQ : MQ below _ _ s _ _ A = QQ
  have lk0 : (Cond.classLink RL 14 "java/lang/IllegalArgumentException").before (([.ref (ad (10, 0)), .int a, .int n, .int f] : List Value).toArray) s = true := hts _ (List.mem_of_getElem? (i := 1) rfl)
  refine lv_aload_n hx hb dL_relate_0 rfl (lv_at hl 0 rfl) ?_
  refine lv_iload_n hx hb dL_relate_1 rfl (lv_at hl 1 rfl) ?_
  refine lv_iload_n hx hb dL_relate_2 rfl (lv_at hl 2 rfl) ?_
  refine lv_iload_n hx hb dL_relate_3 rfl (lv_at hl 3 rfl) ?_
  obtain ⟨hMF, hI0⟩ := (⟨hI.1.2.2.2.1, hI⟩ : _ ∧ okC L N)
  obtain ⟨z10, hz10⟩ := pl_get (ad := ad) (f := cc cy e0 ad S N) (hMF 10 (by decide))
  refine callX_v (vx_runV (As := [.int a, .int n, .int f]) (rest := []) ⟨hx, hb, hml, hown, hts⟩ (qX3_relate l dC dI cy e0 mi ad L S N H.size a n f hI0  hst) (cwV 3 hts gL_relate_X3_relate rfl rfl rfl (by decide +kernel) ⟨Nat.le_of_ble_eq_true rfl, Nat.le_of_ble_eq_true rfl⟩) (preXV hK hP hD hS hA ham.1 (w_recv (ci := 4) (q0 := z10) hK hP hz10 rfl)) rfl rfl hl.1 rfl (lv_room (Nat.le_of_ble_eq_true rfl)) dL_relate_4 ⟨Nat.le_of_ble_eq_true rfl, Nat.le_of_ble_eq_true rfl⟩) hD hS hA (fun E ce q9 H locs hpx hP hS hc1 hc2 hc3 => ?_) (fun uc H locs hw hP hD hS => ?_)
  · obtain ⟨hv, rfl⟩ := hpx
    refine vx_catch (name := "java/lang/IllegalArgumentException") hown [] ⟨0, 7, 10, 14⟩ [] (by rw [htab]; rfl) (fun z hz => absurd hz (List.not_mem_nil)) rfl (by decide : (14 : Nat) ≠ 0) lk0 (va_Nw.use rfl (ham.1.2.2.2.2.2.1 ("java/lang/IllegalArgumentException", "java/lang/IllegalArgumentException") (by decide))) hc1 hc2 hc3 ?_
    refine lv_astore (lv' := [(4, .ref q9), (0, .ref (ad (10, 0))), (1, .int a), (2, .int n), (3, .int f)]) hx hb dL_relate_10 hl (by decide) rfl (fun ls hl => ?_)
    refine lv_bipush (v := -72) hx hb dL_relate_12 (by decide) ?_
    rw [← hQQ]; exact end_i (u := (ad, L, S, N)) hx hb hr hlocks dL_relate_14 hK hP hD hS (lres_1 hv rfl rfl ⟨hI, hX⟩ rfl) (Nat.le_of_ble_eq_true rfl) (Nat.le_of_ble_eq_true rfl)
  · obtain ⟨hv, hu⟩ := hw
    refine lv_goto (tgt := 15) hx hb dL_relate_7 (by decide) ?_
    refine lv_iconst (v := nI 0) hx hb dL_relate_15 (by decide) ?_
    rw [← hQQ]; exact end_i (u := (ad, L, uc)) hx hb hr hlocks dL_relate_16 hK hP hD hS (lres_0 hv rfl hu (by
    rw [show ((ad, L, uc) : CT) = (ad, L, (su (su S 1 0 (upd (S 1 0) (ix a) n)) 2 0 (upd (S 2 0) (ix a) f), N)) by rw [hu]]
    exact ⟨hI0, hX⟩) rfl) (Nat.le_of_ble_eq_true rfl) (Nat.le_of_ble_eq_true rfl)

set_option maxHeartbeats 4000000 in
set_option maxRecDepth 100000 in
theorem qL_latest (l : Launch) (dC : Nat → ClassId) (dI : Nat → Nat → Nat) (cy : Nat → ClassId) (e0 mi oc : Nat) (ad : Lc → Nat) (L : List Lc) (S : SS) (N : NN) (sz : Nat) (a : Int32) (hI : okC L N) (hX : okX L N)  (hst : l.stackTraces = false) (hoc : ad (10, 0) = oc) : Met l yL_latest wsL_latest ({ frames := 8, cells := 1, slots := 6, locals := 131 }) (va_Pc [.ref oc, .int a] (wPreL (dC, dI) (tyL cy) e0 mi (cw cy e0 ad L S N) sz)) (QI (dC, dI) (tyL cy) (fun (r : Int32) (u : CT) => lres oc (V_latest a) (-72) 0 0 (nI (N 1 0 (ix a))) (S, N) (S, N) r u) (cwT cy e0) (va_A (cw cy e0 ad L S N) sz)) 1 6 (va_A (cw cy e0 ad L S N) sz) := by
  subst hoc
  refine enL (cc := cL_latest) (maxL := 4) (ret := (some .int)) (hh := [(0, 6, 9, 14)]) (own := RL) (lv := [(0, .ref (ad (10, 0))), (1, .int a)]) (by decide) rfl rfl (Nat.le_of_ble_eq_true rfl) rfl ?_
  intro p e s m below meth c ls A H locs hx hb hr hts hown hlocks hml hin hsz hK hP hD hS hA hl ham htab
  generalize hQQ : MQ below _ _ s _ _ A = QQ
  have lk0 : (Cond.classLink RL 14 "java/lang/IllegalArgumentException").before (([.ref (ad (10, 0)), .int a] : List Value).toArray) s = true := hts _ (List.mem_of_getElem? (i := 1) rfl)
  refine lv_aload_n hx hb dL_latest_0 rfl (lv_at hl 0 rfl) ?_
  refine lv_iload_n hx hb dL_latest_1 rfl (lv_at hl 1 rfl) ?_
  obtain ⟨hMF, hI0⟩ := (⟨hI.1.2.2.2.1, hI⟩ : _ ∧ okC L N)
  obtain ⟨z10, hz10⟩ := pl_get (ad := ad) (f := cc cy e0 ad S N) (hMF 10 (by decide))
  refine callX_i (vx_runV (As := [.int a]) (rest := []) ⟨hx, hb, hml, hown, hts⟩ (qX3_latest l dC dI cy e0 mi ad L S N H.size a hI0  hst) (cwV 1 hts gL_latest_X3_latest rfl rfl rfl (by decide +kernel) ⟨Nat.le_of_ble_eq_true rfl, Nat.le_of_ble_eq_true rfl⟩) (preXV hK hP hD hS hA ham.1 (w_recv (ci := 4) (q0 := z10) hK hP hz10 rfl)) rfl rfl hl.1 rfl (lv_room (Nat.le_of_ble_eq_true rfl)) dL_latest_2 ⟨Nat.le_of_ble_eq_true rfl, Nat.le_of_ble_eq_true rfl⟩) hD hS hA (fun E ce q9 H locs hpx hP hS hc1 hc2 hc3 => ?_) (fun rr uc H locs hw hP hD hS => ?_)
  · obtain ⟨hv, rfl⟩ := hpx
    refine vx_catch (name := "java/lang/IllegalArgumentException") hown [] ⟨0, 6, 9, 14⟩ [] (by rw [htab]; rfl) (fun z hz => absurd hz (List.not_mem_nil)) rfl (by decide : (14 : Nat) ≠ 0) lk0 (va_Nw.use rfl (ham.1.2.2.2.2.2.1 ("java/lang/IllegalArgumentException", "java/lang/IllegalArgumentException") (by decide))) hc1 hc2 hc3 ?_
    refine lv_astore_n (lv' := [(3, .ref q9), (0, .ref (ad (10, 0))), (1, .int a)]) hx hb dL_latest_9 rfl hl (by decide) rfl (fun ls hl => ?_)
    refine lv_bipush (v := -72) hx hb dL_latest_10 (by decide) ?_
    rw [← hQQ]; exact end_i (u := (ad, L, S, N)) hx hb hr hlocks dL_latest_12 hK hP hD hS (lres_1 hv rfl rfl ⟨hI, hX⟩ rfl) (Nat.le_of_ble_eq_true rfl) (Nat.le_of_ble_eq_true rfl)
  · obtain ⟨hv, rfl, hu⟩ := hw
    refine lv_istore_n (lv' := [(2, .int (nI (N 1 0 (ix a)))), (0, .ref (ad (10, 0))), (1, .int a)]) hx hb dL_latest_5 rfl hl (by decide) rfl (fun ls hl => ?_)
    refine lv_goto (tgt := 13) hx hb dL_latest_6 (by decide) ?_
    refine lv_iload_n hx hb dL_latest_13 rfl (lv_at hl 0 rfl) ?_
    rw [← hQQ]; exact end_i (u := (ad, L, uc)) hx hb hr hlocks dL_latest_14 hK hP hD hS (lres_0 hv rfl hu (by
    rw [show ((ad, L, uc) : CT) = (ad, L, (S, N)) by rw [hu]]
    exact ⟨hI0, hX⟩) rfl) (Nat.le_of_ble_eq_true rfl) (Nat.le_of_ble_eq_true rfl)

set_option maxHeartbeats 4000000 in
set_option maxRecDepth 100000 in
theorem qL_begin (l : Launch) (dC : Nat → ClassId) (dI : Nat → Nat → Nat) (cy : Nat → ClassId) (e0 mi oc : Nat) (ad : Lc → Nat) (L : List Lc) (S : SS) (N : NN) (sz : Nat)  (hI : okC L N) (hX : okX L N)  (hst : l.stackTraces = false) (hoc : ad (10, 0) = oc) : Met l yL_begin wsL_begin ({ frames := 9, cells := 9, slots := 500, locals := 232 }) (va_Pc [.ref oc] (wPreL (dC, dI) (tyL cy) e0 mi (cw cy e0 ad L S N) sz)) (QI (dC, dI) (tyL cy) (fun (r : Int32) (u : CT) => lres oc (V_begin N) (-73) 0 0 (nI (N 0 0 0)) (S, N) (S_beg S (N 0 0 0), N_beg N (N 0 0 0)) r u) (cwT cy e0) (va_A (cw cy e0 ad L S N) sz)) 9 500 (va_A (cw cy e0 ad L S N) sz) := by
  subst hoc
  refine enL (cc := cL_begin) (maxL := 3) (ret := (some .int)) (hh := [(0, 5, 8, 16)]) (own := RL) (lv := [(0, .ref (ad (10, 0)))]) (by decide) rfl rfl (Nat.le_of_ble_eq_true rfl) rfl ?_
  intro p e s m below meth c ls A H locs hx hb hr hts hown hlocks hml hin hsz hK hP hD hS hA hl ham htab
  generalize hQQ : MQ below _ _ s _ _ A = QQ
  have lk0 : (Cond.classLink RL 16 "java/lang/IllegalStateException").before (([.ref (ad (10, 0))] : List Value).toArray) s = true := hts _ (List.mem_of_getElem? (i := 1) rfl)
  refine lv_aload_n hx hb dL_begin_0 rfl (lv_at hl 0 rfl) ?_
  obtain ⟨hMF, hI0⟩ := (⟨hI.1.2.2.2.1, hI⟩ : _ ∧ okC L N)
  obtain ⟨z10, hz10⟩ := pl_get (ad := ad) (f := cc cy e0 ad S N) (hMF 10 (by decide))
  refine callX_i (vx_runV (As := []) (rest := []) ⟨hx, hb, hml, hown, hts⟩ (qX3_begin l dC dI cy e0 mi ad L S N H.size  hI0 hX hst) (cwV 0 hts gL_begin_X3_begin rfl rfl rfl (by decide +kernel) ⟨Nat.le_of_ble_eq_true rfl, Nat.le_of_ble_eq_true rfl⟩) (preXV hK hP hD hS hA ham.1 (w_recv (ci := 4) (q0 := z10) hK hP hz10 rfl)) rfl rfl hl.1 rfl (lv_room (Nat.le_of_ble_eq_true rfl)) dL_begin_1 ⟨Nat.le_of_ble_eq_true rfl, Nat.le_of_ble_eq_true rfl⟩) hD hS hA (fun E ce q9 H locs hpx hP hS hc1 hc2 hc3 => ?_) (fun rr uc H locs hw hP hD hS => ?_)
  · obtain ⟨hv, rfl⟩ := hpx
    refine vx_catch (name := "java/lang/IllegalStateException") hown [] ⟨0, 5, 8, 16⟩ [] (by rw [htab]; rfl) (fun z hz => absurd hz (List.not_mem_nil)) rfl (by decide : (16 : Nat) ≠ 0) lk0 (va_Nw.use rfl (ham.1.2.2.2.2.2.1 ("java/lang/IllegalStateException", "java/lang/IllegalStateException") (by decide))) hc1 hc2 hc3 ?_
    refine lv_astore_n (lv' := [(2, .ref q9), (0, .ref (ad (10, 0)))]) hx hb dL_begin_8 rfl hl (by decide) rfl (fun ls hl => ?_)
    refine lv_bipush (v := -73) hx hb dL_begin_9 (by decide) ?_
    rw [← hQQ]; exact end_i (u := (ad, L, S, N)) hx hb hr hlocks dL_begin_11 hK hP hD hS (lres_1 hv rfl rfl ⟨hI, hX⟩ rfl) (Nat.le_of_ble_eq_true rfl) (Nat.le_of_ble_eq_true rfl)
  · obtain ⟨hv, rfl, hu, hok, had⟩ := hw
    refine lv_istore_n (lv' := [(1, .int (nI (N 0 0 0))), (0, .ref (ad (10, 0)))]) hx hb dL_begin_4 rfl hl (by decide) rfl (fun ls hl => ?_)
    refine lv_goto (tgt := 12) hx hb dL_begin_5 (by decide) ?_
    refine lv_iload_n hx hb dL_begin_12 rfl (lv_at hl 0 rfl) ?_
    rw [← hQQ]; exact end_i (u := uc) hx hb hr hlocks dL_begin_13 hK hP hD hS (lres_0 hv rfl hu hok had) (Nat.le_of_ble_eq_true rfl) (Nat.le_of_ble_eq_true rfl)

set_option maxHeartbeats 4000000 in
set_option maxRecDepth 100000 in
theorem qL_mark (l : Launch) (dC : Nat → ClassId) (dI : Nat → Nat → Nat) (cy : Nat → ClassId) (e0 mi oc : Nat) (ad : Lc → Nat) (L : List Lc) (S : SS) (N : NN) (sz : Nat) (a b d mk : Int32) (hI : okC L N) (hX : okX L N)  (hst : l.stackTraces = false) (hoc : ad (10, 0) = oc) : Met l yL_mark wsL_mark ({ frames := 8, cells := 6, slots := 36, locals := 137 }) (va_Pc [.ref oc, .int a, .int b, .int d, .int mk] (wPreL (dC, dI) (tyL cy) e0 mi (cw cy e0 ad L S N) sz)) (QI (dC, dI) (tyL cy) (fun (r : Int32) (u : CT) => lres oc (V_mark S N a b d mk) (-71) (-72) (-73) ((if N 2 (ix a) (ix d) = 0 then nI 0 else K_mk S (ix a) (ix b) (ix d))) (S, N) (if N 2 (ix a) (ix d) = 0 then (K_bring S (ix a) (ix b) (ix d), nu N 2 (ix a) (va_up (N 2 (ix a)) (ix d) (N 1 0 (ix d)))) else K_change S N (ix a) (ix b) (ix d) mk) r u) (cwT cy e0) (va_A (cw cy e0 ad L S N) sz)) 6 36 (va_A (cw cy e0 ad L S N) sz) := by
  subst hoc
  refine enL (cc := cL_mark) (maxL := 7) (ret := (some .int)) (hh := [(0, 11, 14, 34), (0, 11, 19, 14), (0, 11, 24, 16)]) (own := RL) (lv := [(0, .ref (ad (10, 0))), (1, .int a), (2, .int b), (3, .int d), (4, .int mk)]) (by decide) rfl rfl (Nat.le_of_ble_eq_true rfl) rfl ?_
  intro p e s m below meth c ls A H locs hx hb hr hts hown hlocks hml hin hsz hK hP hD hS hA hl ham htab
  generalize hQQ : MQ below _ _ s _ _ A = QQ
  have lk0 : (Cond.classLink RL 34 "java/lang/IndexOutOfBoundsException").before (([.ref (ad (10, 0)), .int a, .int b, .int d, .int mk] : List Value).toArray) s = true := hts _ (List.mem_of_getElem? (i := 1) rfl)
  have lk1 : (Cond.classLink RL 14 "java/lang/IllegalArgumentException").before (([.ref (ad (10, 0)), .int a, .int b, .int d, .int mk] : List Value).toArray) s = true := hts _ (List.mem_of_getElem? (i := 2) rfl)
  have lk2 : (Cond.classLink RL 16 "java/lang/IllegalStateException").before (([.ref (ad (10, 0)), .int a, .int b, .int d, .int mk] : List Value).toArray) s = true := hts _ (List.mem_of_getElem? (i := 3) rfl)
  refine lv_aload_n hx hb dL_mark_0 rfl (lv_at hl 0 rfl) ?_
  refine lv_iload_n hx hb dL_mark_1 rfl (lv_at hl 1 rfl) ?_
  refine lv_iload_n hx hb dL_mark_2 rfl (lv_at hl 2 rfl) ?_
  refine lv_iload_n hx hb dL_mark_3 rfl (lv_at hl 3 rfl) ?_
  refine lv_iload hx hb dL_mark_4 (lv_at hl 4 rfl) ?_
  obtain ⟨hMF, hI0⟩ := (⟨hI.1.2.2.2.1, hI⟩ : _ ∧ okC L N)
  obtain ⟨z10, hz10⟩ := pl_get (ad := ad) (f := cc cy e0 ad S N) (hMF 10 (by decide))
  refine callX_i (vx_runV (As := [.int a, .int b, .int d, .int mk]) (rest := []) ⟨hx, hb, hml, hown, hts⟩ (qX3_mark l dC dI cy e0 mi ad L S N H.size a b d mk hI0  hst) (cwV 4 hts gL_mark_X3_mark rfl rfl rfl (by decide +kernel) ⟨Nat.le_of_ble_eq_true rfl, Nat.le_of_ble_eq_true rfl⟩) (preXV hK hP hD hS hA ham.1 (w_recv (ci := 4) (q0 := z10) hK hP hz10 rfl)) rfl rfl hl.1 rfl (lv_room (Nat.le_of_ble_eq_true rfl)) dL_mark_6 ⟨Nat.le_of_ble_eq_true rfl, Nat.le_of_ble_eq_true rfl⟩) hD hS hA (fun E ce q9 H locs hpx hP hS hc1 hc2 hc3 => ?_) (fun rr uc H locs hw hP hD hS => ?_)
  · rcases hpx with ⟨hv, rfl⟩ | ⟨hv, rfl⟩ | ⟨hv, rfl⟩
    · refine vx_catch (name := "java/lang/IndexOutOfBoundsException") hown [] ⟨0, 11, 14, 34⟩ [⟨0, 11, 19, 14⟩, ⟨0, 11, 24, 16⟩] (by rw [htab]; rfl) (fun z hz => absurd hz (List.not_mem_nil)) rfl (by decide : (34 : Nat) ≠ 0) lk0 (va_Nw.use rfl (ham.1.2.2.2.2.2.1 ("java/lang/IndexOutOfBoundsException", "java/lang/IndexOutOfBoundsException") (by decide))) hc1 hc2 hc3 ?_
      refine lv_astore (lv' := [(6, .ref q9), (0, .ref (ad (10, 0))), (1, .int a), (2, .int b), (3, .int d), (4, .int mk)]) hx hb dL_mark_14 hl (by decide) rfl (fun ls hl => ?_)
      refine lv_bipush (v := -71) hx hb dL_mark_16 (by decide) ?_
      rw [← hQQ]; exact end_i (u := (ad, L, S, N)) hx hb hr hlocks dL_mark_18 hK hP hD hS (lres_1 hv rfl rfl ⟨hI, hX⟩ rfl) (Nat.le_of_ble_eq_true rfl) (Nat.le_of_ble_eq_true rfl)
    · refine vx_catch (name := "java/lang/IllegalArgumentException") hown [⟨0, 11, 14, 34⟩] ⟨0, 11, 19, 14⟩ [⟨0, 11, 24, 16⟩] (by rw [htab]; rfl) (fun z hz => by rw [List.mem_singleton.mp hz]; exact Or.inr ⟨(by decide : (34 : Nat) ≠ 0), "java/lang/IndexOutOfBoundsException", lk0, ham.2 ("java/lang/IllegalArgumentException", "java/lang/IndexOutOfBoundsException") (by decide)⟩) rfl (by decide : (14 : Nat) ≠ 0) lk1 (va_Nw.use rfl (ham.1.2.2.2.2.2.1 ("java/lang/IllegalArgumentException", "java/lang/IllegalArgumentException") (by decide))) hc1 hc2 hc3 ?_
      refine lv_astore (lv' := [(6, .ref q9), (0, .ref (ad (10, 0))), (1, .int a), (2, .int b), (3, .int d), (4, .int mk)]) hx hb dL_mark_19 hl (by decide) rfl (fun ls hl => ?_)
      refine lv_bipush (v := -72) hx hb dL_mark_21 (by decide) ?_
      rw [← hQQ]; exact end_i (u := (ad, L, S, N)) hx hb hr hlocks dL_mark_23 hK hP hD hS (lres_2 hv rfl rfl ⟨hI, hX⟩ rfl) (Nat.le_of_ble_eq_true rfl) (Nat.le_of_ble_eq_true rfl)
    · refine vx_catch (name := "java/lang/IllegalStateException") hown [⟨0, 11, 14, 34⟩, ⟨0, 11, 19, 14⟩] ⟨0, 11, 24, 16⟩ [] (by rw [htab]; rfl) (fun z hz => by
        rcases List.mem_cons.mp hz with h | h
        · rw [h]; exact Or.inr ⟨(by decide : (34 : Nat) ≠ 0), "java/lang/IndexOutOfBoundsException", lk0, ham.2 ("java/lang/IllegalStateException", "java/lang/IndexOutOfBoundsException") (by decide)⟩
        · rw [List.mem_singleton.mp h]; exact Or.inr ⟨(by decide : (14 : Nat) ≠ 0), "java/lang/IllegalArgumentException", lk1, ham.2 ("java/lang/IllegalStateException", "java/lang/IllegalArgumentException") (by decide)⟩) rfl (by decide : (16 : Nat) ≠ 0) lk2 (va_Nw.use rfl (ham.1.2.2.2.2.2.1 ("java/lang/IllegalStateException", "java/lang/IllegalStateException") (by decide))) hc1 hc2 hc3 ?_
      refine lv_astore (lv' := [(6, .ref q9), (0, .ref (ad (10, 0))), (1, .int a), (2, .int b), (3, .int d), (4, .int mk)]) hx hb dL_mark_24 hl (by decide) rfl (fun ls hl => ?_)
      refine lv_bipush (v := -73) hx hb dL_mark_26 (by decide) ?_
      rw [← hQQ]; exact end_i (u := (ad, L, S, N)) hx hb hr hlocks dL_mark_28 hK hP hD hS (lres_3 hv rfl rfl ⟨hI, hX⟩ rfl) (Nat.le_of_ble_eq_true rfl) (Nat.le_of_ble_eq_true rfl)
  · obtain ⟨hv, rfl, hu⟩ := hw
    refine lv_istore (lv' := [(5, .int ((if N 2 (ix a) (ix d) = 0 then nI 0 else K_mk S (ix a) (ix b) (ix d)))), (0, .ref (ad (10, 0))), (1, .int a), (2, .int b), (3, .int d), (4, .int mk)]) hx hb dL_mark_9 hl (by decide) rfl (fun ls hl => ?_)
    refine lv_goto (tgt := 29) hx hb dL_mark_11 (by decide) ?_
    refine lv_iload hx hb dL_mark_29 (lv_at hl 0 rfl) ?_
    rw [← hQQ]; exact end_i (u := (ad, L, uc)) hx hb hr hlocks dL_mark_31 hK hP hD hS (lres_0 hv rfl hu (by
    rw [show ((ad, L, uc) : CT) = (ad, L, (if N 2 (ix a) (ix d) = 0 then (K_bring S (ix a) (ix b) (ix d), nu N 2 (ix a) (va_up (N 2 (ix a)) (ix d) (N 1 0 (ix d)))) else K_change S N (ix a) (ix b) (ix d) mk)) by rw [hu]]
    exact (by
    split
    · exact okU_item hI0 hX (Nat.le_refl _)
    · unfold K_change
      split
      · exact ⟨hI0, hX⟩
      · split
        · exact okU_item hI0 hX (Nat.zero_le _)
        · exact ⟨hI0, hX⟩)) rfl) (Nat.le_of_ble_eq_true rfl) (Nat.le_of_ble_eq_true rfl)

set_option maxHeartbeats 4000000 in
set_option maxRecDepth 100000 in
theorem qL_renew (l : Launch) (dC : Nat → ClassId) (dI : Nat → Nat → Nat) (cy : Nat → ClassId) (e0 mi oc : Nat) (ad : Lc → Nat) (L : List Lc) (S : SS) (N : NN) (sz : Nat) (a b d : Int32) (hI : okC L N) (hX : okX L N)  (hst : l.stackTraces = false) (hoc : ad (10, 0) = oc) : Met l yL_renew wsL_renew ({ frames := 8, cells := 5, slots := 30, locals := 136 }) (va_Pc [.ref oc, .int a, .int b, .int d] (wPreL (dC, dI) (tyL cy) e0 mi (cw cy e0 ad L S N) sz)) (QI (dC, dI) (tyL cy) (fun (r : Int32) (u : CT) => lres oc (V_renew S N a b d) (-71) (-72) (-73) (nI (N 2 (ix a) (ix d))) (S, N) (K_bring S (ix a) (ix b) (ix d), nu N 2 (ix a) (va_up (N 2 (ix a)) (ix d) (N 1 0 (ix d)))) r u) (cwT cy e0) (va_A (cw cy e0 ad L S N) sz)) 5 30 (va_A (cw cy e0 ad L S N) sz) := by
  subst hoc
  refine enL (cc := cL_renew) (maxL := 6) (ret := (some .int)) (hh := [(0, 9, 12, 34), (0, 9, 17, 14), (0, 9, 22, 16)]) (own := RL) (lv := [(0, .ref (ad (10, 0))), (1, .int a), (2, .int b), (3, .int d)]) (by decide) rfl rfl (Nat.le_of_ble_eq_true rfl) rfl ?_
  intro p e s m below meth c ls A H locs hx hb hr hts hown hlocks hml hin hsz hK hP hD hS hA hl ham htab
  generalize hQQ : MQ below _ _ s _ _ A = QQ
  have lk0 : (Cond.classLink RL 34 "java/lang/IndexOutOfBoundsException").before (([.ref (ad (10, 0)), .int a, .int b, .int d] : List Value).toArray) s = true := hts _ (List.mem_of_getElem? (i := 1) rfl)
  have lk1 : (Cond.classLink RL 14 "java/lang/IllegalArgumentException").before (([.ref (ad (10, 0)), .int a, .int b, .int d] : List Value).toArray) s = true := hts _ (List.mem_of_getElem? (i := 2) rfl)
  have lk2 : (Cond.classLink RL 16 "java/lang/IllegalStateException").before (([.ref (ad (10, 0)), .int a, .int b, .int d] : List Value).toArray) s = true := hts _ (List.mem_of_getElem? (i := 3) rfl)
  refine lv_aload_n hx hb dL_renew_0 rfl (lv_at hl 0 rfl) ?_
  refine lv_iload_n hx hb dL_renew_1 rfl (lv_at hl 1 rfl) ?_
  refine lv_iload_n hx hb dL_renew_2 rfl (lv_at hl 2 rfl) ?_
  refine lv_iload_n hx hb dL_renew_3 rfl (lv_at hl 3 rfl) ?_
  obtain ⟨hMF, hI0⟩ := (⟨hI.1.2.2.2.1, hI⟩ : _ ∧ okC L N)
  obtain ⟨z10, hz10⟩ := pl_get (ad := ad) (f := cc cy e0 ad S N) (hMF 10 (by decide))
  refine callX_i (vx_runV (As := [.int a, .int b, .int d]) (rest := []) ⟨hx, hb, hml, hown, hts⟩ (qX3_renew l dC dI cy e0 mi ad L S N H.size a b d hI0  hst) (cwV 3 hts gL_renew_X3_renew rfl rfl rfl (by decide +kernel) ⟨Nat.le_of_ble_eq_true rfl, Nat.le_of_ble_eq_true rfl⟩) (preXV hK hP hD hS hA ham.1 (w_recv (ci := 4) (q0 := z10) hK hP hz10 rfl)) rfl rfl hl.1 rfl (lv_room (Nat.le_of_ble_eq_true rfl)) dL_renew_4 ⟨Nat.le_of_ble_eq_true rfl, Nat.le_of_ble_eq_true rfl⟩) hD hS hA (fun E ce q9 H locs hpx hP hS hc1 hc2 hc3 => ?_) (fun rr uc H locs hw hP hD hS => ?_)
  · rcases hpx with ⟨hv, rfl⟩ | ⟨hv, rfl⟩ | ⟨hv, rfl⟩
    · refine vx_catch (name := "java/lang/IndexOutOfBoundsException") hown [] ⟨0, 9, 12, 34⟩ [⟨0, 9, 17, 14⟩, ⟨0, 9, 22, 16⟩] (by rw [htab]; rfl) (fun z hz => absurd hz (List.not_mem_nil)) rfl (by decide : (34 : Nat) ≠ 0) lk0 (va_Nw.use rfl (ham.1.2.2.2.2.2.1 ("java/lang/IndexOutOfBoundsException", "java/lang/IndexOutOfBoundsException") (by decide))) hc1 hc2 hc3 ?_
      refine lv_astore (lv' := [(5, .ref q9), (0, .ref (ad (10, 0))), (1, .int a), (2, .int b), (3, .int d)]) hx hb dL_renew_12 hl (by decide) rfl (fun ls hl => ?_)
      refine lv_bipush (v := -71) hx hb dL_renew_14 (by decide) ?_
      rw [← hQQ]; exact end_i (u := (ad, L, S, N)) hx hb hr hlocks dL_renew_16 hK hP hD hS (lres_1 hv rfl rfl ⟨hI, hX⟩ rfl) (Nat.le_of_ble_eq_true rfl) (Nat.le_of_ble_eq_true rfl)
    · refine vx_catch (name := "java/lang/IllegalArgumentException") hown [⟨0, 9, 12, 34⟩] ⟨0, 9, 17, 14⟩ [⟨0, 9, 22, 16⟩] (by rw [htab]; rfl) (fun z hz => by rw [List.mem_singleton.mp hz]; exact Or.inr ⟨(by decide : (34 : Nat) ≠ 0), "java/lang/IndexOutOfBoundsException", lk0, ham.2 ("java/lang/IllegalArgumentException", "java/lang/IndexOutOfBoundsException") (by decide)⟩) rfl (by decide : (14 : Nat) ≠ 0) lk1 (va_Nw.use rfl (ham.1.2.2.2.2.2.1 ("java/lang/IllegalArgumentException", "java/lang/IllegalArgumentException") (by decide))) hc1 hc2 hc3 ?_
      refine lv_astore (lv' := [(5, .ref q9), (0, .ref (ad (10, 0))), (1, .int a), (2, .int b), (3, .int d)]) hx hb dL_renew_17 hl (by decide) rfl (fun ls hl => ?_)
      refine lv_bipush (v := -72) hx hb dL_renew_19 (by decide) ?_
      rw [← hQQ]; exact end_i (u := (ad, L, S, N)) hx hb hr hlocks dL_renew_21 hK hP hD hS (lres_2 hv rfl rfl ⟨hI, hX⟩ rfl) (Nat.le_of_ble_eq_true rfl) (Nat.le_of_ble_eq_true rfl)
    · refine vx_catch (name := "java/lang/IllegalStateException") hown [⟨0, 9, 12, 34⟩, ⟨0, 9, 17, 14⟩] ⟨0, 9, 22, 16⟩ [] (by rw [htab]; rfl) (fun z hz => by
        rcases List.mem_cons.mp hz with h | h
        · rw [h]; exact Or.inr ⟨(by decide : (34 : Nat) ≠ 0), "java/lang/IndexOutOfBoundsException", lk0, ham.2 ("java/lang/IllegalStateException", "java/lang/IndexOutOfBoundsException") (by decide)⟩
        · rw [List.mem_singleton.mp h]; exact Or.inr ⟨(by decide : (14 : Nat) ≠ 0), "java/lang/IllegalArgumentException", lk1, ham.2 ("java/lang/IllegalStateException", "java/lang/IllegalArgumentException") (by decide)⟩) rfl (by decide : (16 : Nat) ≠ 0) lk2 (va_Nw.use rfl (ham.1.2.2.2.2.2.1 ("java/lang/IllegalStateException", "java/lang/IllegalStateException") (by decide))) hc1 hc2 hc3 ?_
      refine lv_astore (lv' := [(5, .ref q9), (0, .ref (ad (10, 0))), (1, .int a), (2, .int b), (3, .int d)]) hx hb dL_renew_22 hl (by decide) rfl (fun ls hl => ?_)
      refine lv_bipush (v := -73) hx hb dL_renew_24 (by decide) ?_
      rw [← hQQ]; exact end_i (u := (ad, L, S, N)) hx hb hr hlocks dL_renew_26 hK hP hD hS (lres_3 hv rfl rfl ⟨hI, hX⟩ rfl) (Nat.le_of_ble_eq_true rfl) (Nat.le_of_ble_eq_true rfl)
  · obtain ⟨hv, rfl, hu⟩ := hw
    refine lv_istore (lv' := [(4, .int (nI (N 2 (ix a) (ix d)))), (0, .ref (ad (10, 0))), (1, .int a), (2, .int b), (3, .int d)]) hx hb dL_renew_7 hl (by decide) rfl (fun ls hl => ?_)
    refine lv_goto (tgt := 27) hx hb dL_renew_9 (by decide) ?_
    refine lv_iload hx hb dL_renew_27 (lv_at hl 0 rfl) ?_
    rw [← hQQ]; exact end_i (u := (ad, L, uc)) hx hb hr hlocks dL_renew_29 hK hP hD hS (lres_0 hv rfl hu (by
    rw [show ((ad, L, uc) : CT) = (ad, L, (K_bring S (ix a) (ix b) (ix d), nu N 2 (ix a) (va_up (N 2 (ix a)) (ix d) (N 1 0 (ix d))))) by rw [hu]]
    exact (okU_item hI0 hX (Nat.le_refl _))) rfl) (Nat.le_of_ble_eq_true rfl) (Nat.le_of_ble_eq_true rfl)

set_option maxHeartbeats 4000000 in
set_option maxRecDepth 100000 in
theorem qL_version (l : Launch) (dC : Nat → ClassId) (dI : Nat → Nat → Nat) (cy : Nat → ClassId) (e0 mi oc : Nat) (ad : Lc → Nat) (L : List Lc) (S : SS) (N : NN) (sz : Nat) (a d : Int32) (hI : okC L N) (hX : okX L N)  (hst : l.stackTraces = false) (hoc : ad (10, 0) = oc) : Met l yL_version wsL_version ({ frames := 8, cells := 2, slots := 12, locals := 134 }) (va_Pc [.ref oc, .int a, .int d] (wPreL (dC, dI) (tyL cy) e0 mi (cw cy e0 ad L S N) sz)) (QI (dC, dI) (tyL cy) (fun (r : Int32) (u : CT) => lres oc (V_version N a d) (-71) (-72) 0 (nI (N 2 (ix a) (ix d))) (S, N) (S, N) r u) (cwT cy e0) (va_A (cw cy e0 ad L S N) sz)) 2 12 (va_A (cw cy e0 ad L S N) sz) := by
  subst hoc
  refine enL (cc := cL_version) (maxL := 5) (ret := (some .int)) (hh := [(0, 7, 10, 34), (0, 7, 15, 14)]) (own := RL) (lv := [(0, .ref (ad (10, 0))), (1, .int a), (2, .int d)]) (by decide) rfl rfl (Nat.le_of_ble_eq_true rfl) rfl ?_
  intro p e s m below meth c ls A H locs hx hb hr hts hown hlocks hml hin hsz hK hP hD hS hA hl ham htab
  generalize hQQ : MQ below _ _ s _ _ A = QQ
  have lk0 : (Cond.classLink RL 34 "java/lang/IndexOutOfBoundsException").before (([.ref (ad (10, 0)), .int a, .int d] : List Value).toArray) s = true := hts _ (List.mem_of_getElem? (i := 1) rfl)
  have lk1 : (Cond.classLink RL 14 "java/lang/IllegalArgumentException").before (([.ref (ad (10, 0)), .int a, .int d] : List Value).toArray) s = true := hts _ (List.mem_of_getElem? (i := 2) rfl)
  refine lv_aload_n hx hb dL_version_0 rfl (lv_at hl 0 rfl) ?_
  refine lv_iload_n hx hb dL_version_1 rfl (lv_at hl 1 rfl) ?_
  refine lv_iload_n hx hb dL_version_2 rfl (lv_at hl 2 rfl) ?_
  obtain ⟨hMF, hI0⟩ := (⟨hI.1.2.2.2.1, hI⟩ : _ ∧ okC L N)
  obtain ⟨z10, hz10⟩ := pl_get (ad := ad) (f := cc cy e0 ad S N) (hMF 10 (by decide))
  refine callX_i (vx_runV (As := [.int a, .int d]) (rest := []) ⟨hx, hb, hml, hown, hts⟩ (qX3_version l dC dI cy e0 mi ad L S N H.size a d hI0  hst) (cwV 2 hts gL_version_X3_version rfl rfl rfl (by decide +kernel) ⟨Nat.le_of_ble_eq_true rfl, Nat.le_of_ble_eq_true rfl⟩) (preXV hK hP hD hS hA ham.1 (w_recv (ci := 4) (q0 := z10) hK hP hz10 rfl)) rfl rfl hl.1 rfl (lv_room (Nat.le_of_ble_eq_true rfl)) dL_version_3 ⟨Nat.le_of_ble_eq_true rfl, Nat.le_of_ble_eq_true rfl⟩) hD hS hA (fun E ce q9 H locs hpx hP hS hc1 hc2 hc3 => ?_) (fun rr uc H locs hw hP hD hS => ?_)
  · rcases hpx with ⟨hv, rfl⟩ | ⟨hv, rfl⟩
    · refine vx_catch (name := "java/lang/IndexOutOfBoundsException") hown [] ⟨0, 7, 10, 34⟩ [⟨0, 7, 15, 14⟩] (by rw [htab]; rfl) (fun z hz => absurd hz (List.not_mem_nil)) rfl (by decide : (34 : Nat) ≠ 0) lk0 (va_Nw.use rfl (ham.1.2.2.2.2.2.1 ("java/lang/IndexOutOfBoundsException", "java/lang/IndexOutOfBoundsException") (by decide))) hc1 hc2 hc3 ?_
      refine lv_astore (lv' := [(4, .ref q9), (0, .ref (ad (10, 0))), (1, .int a), (2, .int d)]) hx hb dL_version_10 hl (by decide) rfl (fun ls hl => ?_)
      refine lv_bipush (v := -71) hx hb dL_version_12 (by decide) ?_
      rw [← hQQ]; exact end_i (u := (ad, L, S, N)) hx hb hr hlocks dL_version_14 hK hP hD hS (lres_1 hv rfl rfl ⟨hI, hX⟩ rfl) (Nat.le_of_ble_eq_true rfl) (Nat.le_of_ble_eq_true rfl)
    · refine vx_catch (name := "java/lang/IllegalArgumentException") hown [⟨0, 7, 10, 34⟩] ⟨0, 7, 15, 14⟩ [] (by rw [htab]; rfl) (fun z hz => by rw [List.mem_singleton.mp hz]; exact Or.inr ⟨(by decide : (34 : Nat) ≠ 0), "java/lang/IndexOutOfBoundsException", lk0, ham.2 ("java/lang/IllegalArgumentException", "java/lang/IndexOutOfBoundsException") (by decide)⟩) rfl (by decide : (14 : Nat) ≠ 0) lk1 (va_Nw.use rfl (ham.1.2.2.2.2.2.1 ("java/lang/IllegalArgumentException", "java/lang/IllegalArgumentException") (by decide))) hc1 hc2 hc3 ?_
      refine lv_astore (lv' := [(4, .ref q9), (0, .ref (ad (10, 0))), (1, .int a), (2, .int d)]) hx hb dL_version_15 hl (by decide) rfl (fun ls hl => ?_)
      refine lv_bipush (v := -72) hx hb dL_version_17 (by decide) ?_
      rw [← hQQ]; exact end_i (u := (ad, L, S, N)) hx hb hr hlocks dL_version_19 hK hP hD hS (lres_2 hv rfl rfl ⟨hI, hX⟩ rfl) (Nat.le_of_ble_eq_true rfl) (Nat.le_of_ble_eq_true rfl)
  · obtain ⟨hv, rfl, hu⟩ := hw
    refine lv_istore_n (lv' := [(3, .int (nI (N 2 (ix a) (ix d)))), (0, .ref (ad (10, 0))), (1, .int a), (2, .int d)]) hx hb dL_version_6 rfl hl (by decide) rfl (fun ls hl => ?_)
    refine lv_goto (tgt := 20) hx hb dL_version_7 (by decide) ?_
    refine lv_iload_n hx hb dL_version_20 rfl (lv_at hl 0 rfl) ?_
    rw [← hQQ]; exact end_i (u := (ad, L, uc)) hx hb hr hlocks dL_version_21 hK hP hD hS (lres_0 hv rfl hu (by
    rw [show ((ad, L, uc) : CT) = (ad, L, (S, N)) by rw [hu]]
    exact ⟨hI0, hX⟩) rfl) (Nat.le_of_ble_eq_true rfl) (Nat.le_of_ble_eq_true rfl)

set_option maxHeartbeats 4000000 in
set_option maxRecDepth 100000 in
theorem qL_offered (l : Launch) (dC : Nat → ClassId) (dI : Nat → Nat → Nat) (cy : Nat → ClassId) (e0 mi oc : Nat) (ad : Lc → Nat) (L : List Lc) (S : SS) (N : NN) (sz : Nat) (a : Int32) (hI : okC L N) (hX : okX L N)  (hst : l.stackTraces = false) (hoc : ad (10, 0) = oc) : Met l yL_offered wsL_offered ({ frames := 8, cells := 1, slots := 6, locals := 135 }) (va_Pc [.ref oc, .int a] (wPreL (dC, dI) (tyL cy) e0 mi (cw cy e0 ad L S N) sz)) (QI (dC, dI) (tyL cy) (fun (r : Int32) (u : CT) => lres oc (V_at N 0 a) (-71) 0 0 ((if isDr S (ix a) then nI (K_off N (ix a) 10) else nI 0)) (S, N) (S, N) r u) (cwT cy e0) (va_A (cw cy e0 ad L S N) sz)) 1 6 (va_A (cw cy e0 ad L S N) sz) := by
  subst hoc
  refine enL (cc := cL_offered) (maxL := 4) (ret := (some .int)) (hh := [(0, 6, 9, 34)]) (own := RL) (lv := [(0, .ref (ad (10, 0))), (1, .int a)]) (by decide) rfl rfl (Nat.le_of_ble_eq_true rfl) rfl ?_
  intro p e s m below meth c ls A H locs hx hb hr hts hown hlocks hml hin hsz hK hP hD hS hA hl ham htab
  generalize hQQ : MQ below _ _ s _ _ A = QQ
  have lk0 : (Cond.classLink RL 34 "java/lang/IndexOutOfBoundsException").before (([.ref (ad (10, 0)), .int a] : List Value).toArray) s = true := hts _ (List.mem_of_getElem? (i := 1) rfl)
  refine lv_aload_n hx hb dL_offered_0 rfl (lv_at hl 0 rfl) ?_
  refine lv_iload_n hx hb dL_offered_1 rfl (lv_at hl 1 rfl) ?_
  obtain ⟨hMF, hI0⟩ := (⟨hI.1.2.2.2.1, hI⟩ : _ ∧ okC L N)
  obtain ⟨z10, hz10⟩ := pl_get (ad := ad) (f := cc cy e0 ad S N) (hMF 10 (by decide))
  refine callX_i (vx_runV (As := [.int a]) (rest := []) ⟨hx, hb, hml, hown, hts⟩ (qX3_offered l dC dI cy e0 mi ad L S N H.size a hI0  hst) (cwV 1 hts gL_offered_X3_offered rfl rfl rfl (by decide +kernel) ⟨Nat.le_of_ble_eq_true rfl, Nat.le_of_ble_eq_true rfl⟩) (preXV hK hP hD hS hA ham.1 (w_recv (ci := 4) (q0 := z10) hK hP hz10 rfl)) rfl rfl hl.1 rfl (lv_room (Nat.le_of_ble_eq_true rfl)) dL_offered_2 ⟨Nat.le_of_ble_eq_true rfl, Nat.le_of_ble_eq_true rfl⟩) hD hS hA (fun E ce q9 H locs hpx hP hS hc1 hc2 hc3 => ?_) (fun rr uc H locs hw hP hD hS => ?_)
  · obtain ⟨hv, rfl⟩ := hpx
    refine vx_catch (name := "java/lang/IndexOutOfBoundsException") hown [] ⟨0, 6, 9, 34⟩ [] (by rw [htab]; rfl) (fun z hz => absurd hz (List.not_mem_nil)) rfl (by decide : (34 : Nat) ≠ 0) lk0 (va_Nw.use rfl (ham.1.2.2.2.2.2.1 ("java/lang/IndexOutOfBoundsException", "java/lang/IndexOutOfBoundsException") (by decide))) hc1 hc2 hc3 ?_
    refine lv_astore_n (lv' := [(3, .ref q9), (0, .ref (ad (10, 0))), (1, .int a)]) hx hb dL_offered_9 rfl hl (by decide) rfl (fun ls hl => ?_)
    refine lv_bipush (v := -71) hx hb dL_offered_10 (by decide) ?_
    rw [← hQQ]; exact end_i (u := (ad, L, S, N)) hx hb hr hlocks dL_offered_12 hK hP hD hS (lres_1 hv rfl rfl ⟨hI, hX⟩ rfl) (Nat.le_of_ble_eq_true rfl) (Nat.le_of_ble_eq_true rfl)
  · obtain ⟨hv, rfl, hu⟩ := hw
    refine lv_istore_n (lv' := [(2, .int ((if isDr S (ix a) then nI (K_off N (ix a) 10) else nI 0))), (0, .ref (ad (10, 0))), (1, .int a)]) hx hb dL_offered_5 rfl hl (by decide) rfl (fun ls hl => ?_)
    refine lv_goto (tgt := 13) hx hb dL_offered_6 (by decide) ?_
    refine lv_iload_n hx hb dL_offered_13 rfl (lv_at hl 0 rfl) ?_
    rw [← hQQ]; exact end_i (u := (ad, L, uc)) hx hb hr hlocks dL_offered_14 hK hP hD hS (lres_0 hv rfl hu (by
    rw [show ((ad, L, uc) : CT) = (ad, L, (S, N)) by rw [hu]]
    exact ⟨hI0, hX⟩) rfl) (Nat.le_of_ble_eq_true rfl) (Nat.le_of_ble_eq_true rfl)

set_option maxHeartbeats 4000000 in
set_option maxRecDepth 100000 in
theorem qL_whyNot (l : Launch) (dC : Nat → ClassId) (dI : Nat → Nat → Nat) (cy : Nat → ClassId) (e0 mi oc : Nat) (ad : Lc → Nat) (L : List Lc) (S : SS) (N : NN) (sz : Nat) (a : Int32) (hI : okC L N) (hX : okX L N)  (hst : l.stackTraces = false) (hoc : ad (10, 0) = oc) : Met l yL_whyNot wsL_whyNot ({ frames := 8, cells := 1, slots := 6, locals := 132 }) (va_Pc [.ref oc, .int a] (wPreL (dC, dI) (tyL cy) e0 mi (cw cy e0 ad L S N) sz)) (QI (dC, dI) (tyL cy) (fun (r : Int32) (u : CT) => lres oc (V_at N 0 a) (-71) 0 0 (nI (K_obst S N (ix a))) (S, N) (S, N) r u) (cwT cy e0) (va_A (cw cy e0 ad L S N) sz)) 1 6 (va_A (cw cy e0 ad L S N) sz) := by
  subst hoc
  refine enL (cc := cL_whyNot) (maxL := 4) (ret := (some .int)) (hh := [(0, 6, 9, 34)]) (own := RL) (lv := [(0, .ref (ad (10, 0))), (1, .int a)]) (by decide) rfl rfl (Nat.le_of_ble_eq_true rfl) rfl ?_
  intro p e s m below meth c ls A H locs hx hb hr hts hown hlocks hml hin hsz hK hP hD hS hA hl ham htab
  generalize hQQ : MQ below _ _ s _ _ A = QQ
  have lk0 : (Cond.classLink RL 34 "java/lang/IndexOutOfBoundsException").before (([.ref (ad (10, 0)), .int a] : List Value).toArray) s = true := hts _ (List.mem_of_getElem? (i := 1) rfl)
  refine lv_aload_n hx hb dL_whyNot_0 rfl (lv_at hl 0 rfl) ?_
  refine lv_iload_n hx hb dL_whyNot_1 rfl (lv_at hl 1 rfl) ?_
  obtain ⟨hMF, hI0⟩ := (⟨hI.1.2.2.2.1, hI⟩ : _ ∧ okC L N)
  obtain ⟨z10, hz10⟩ := pl_get (ad := ad) (f := cc cy e0 ad S N) (hMF 10 (by decide))
  refine callX_i (vx_runV (As := [.int a]) (rest := []) ⟨hx, hb, hml, hown, hts⟩ (qX3_whyNot l dC dI cy e0 mi ad L S N H.size a hI0  hst) (cwV 1 hts gL_whyNot_X3_whyNot rfl rfl rfl (by decide +kernel) ⟨Nat.le_of_ble_eq_true rfl, Nat.le_of_ble_eq_true rfl⟩) (preXV hK hP hD hS hA ham.1 (w_recv (ci := 4) (q0 := z10) hK hP hz10 rfl)) rfl rfl hl.1 rfl (lv_room (Nat.le_of_ble_eq_true rfl)) dL_whyNot_2 ⟨Nat.le_of_ble_eq_true rfl, Nat.le_of_ble_eq_true rfl⟩) hD hS hA (fun E ce q9 H locs hpx hP hS hc1 hc2 hc3 => ?_) (fun rr uc H locs hw hP hD hS => ?_)
  · obtain ⟨hv, rfl⟩ := hpx
    refine vx_catch (name := "java/lang/IndexOutOfBoundsException") hown [] ⟨0, 6, 9, 34⟩ [] (by rw [htab]; rfl) (fun z hz => absurd hz (List.not_mem_nil)) rfl (by decide : (34 : Nat) ≠ 0) lk0 (va_Nw.use rfl (ham.1.2.2.2.2.2.1 ("java/lang/IndexOutOfBoundsException", "java/lang/IndexOutOfBoundsException") (by decide))) hc1 hc2 hc3 ?_
    refine lv_astore_n (lv' := [(3, .ref q9), (0, .ref (ad (10, 0))), (1, .int a)]) hx hb dL_whyNot_9 rfl hl (by decide) rfl (fun ls hl => ?_)
    refine lv_bipush (v := -71) hx hb dL_whyNot_10 (by decide) ?_
    rw [← hQQ]; exact end_i (u := (ad, L, S, N)) hx hb hr hlocks dL_whyNot_12 hK hP hD hS (lres_1 hv rfl rfl ⟨hI, hX⟩ rfl) (Nat.le_of_ble_eq_true rfl) (Nat.le_of_ble_eq_true rfl)
  · obtain ⟨hv, rfl, hu⟩ := hw
    refine lv_istore_n (lv' := [(2, .int (nI (K_obst S N (ix a)))), (0, .ref (ad (10, 0))), (1, .int a)]) hx hb dL_whyNot_5 rfl hl (by decide) rfl (fun ls hl => ?_)
    refine lv_goto (tgt := 13) hx hb dL_whyNot_6 (by decide) ?_
    refine lv_iload_n hx hb dL_whyNot_13 rfl (lv_at hl 0 rfl) ?_
    rw [← hQQ]; exact end_i (u := (ad, L, uc)) hx hb hr hlocks dL_whyNot_14 hK hP hD hS (lres_0 hv rfl hu (by
    rw [show ((ad, L, uc) : CT) = (ad, L, (S, N)) by rw [hu]]
    exact ⟨hI0, hX⟩) rfl) (Nat.le_of_ble_eq_true rfl) (Nat.le_of_ble_eq_true rfl)

set_option maxHeartbeats 4000000 in
set_option maxRecDepth 100000 in
theorem qL_sign (l : Launch) (dC : Nat → ClassId) (dI : Nat → Nat → Nat) (cy : Nat → ClassId) (e0 mi oc : Nat) (ad : Lc → Nat) (L : List Lc) (S : SS) (N : NN) (sz : Nat) (a b : Int32) (hI : okC L N) (hX : okX L N) (hDr : ∀ i, i < N 0 0 0 → isDr S i → N 5 0 0 + 10 ≤ 100) (hst : l.stackTraces = false) (hoc : ad (10, 0) = oc) : Met l yL_sign wsL_sign ({ frames := 10, cells := 23, slots := 4060, locals := 258 }) (va_Pc [.ref oc, .int a, .int b] (wPreL (dC, dI) (tyL cy) e0 mi (cw cy e0 ad L S N) sz)) (QI (dC, dI) (tyL cy) (fun (r : Int32) (u : CT) => lres oc (V_sign S N a b) (-71) (-72) (-73) ((if isDr (S_sgn S (ix a) (ix b)) (ix a) then nI 0 else nI (K_made (S_sgn S (ix a) (ix b)) N (ix a) 10))) (S, N) (if isDr (S_sgn S (ix a) (ix b)) (ix a) then ((S_sgn S (ix a) (ix b)), N) else K_mkD (S_sgn S (ix a) (ix b)) N (ix a) 10) r u) (cwT cy e0) (va_A (cw cy e0 ad L S N) sz)) 23 4060 (va_A (cw cy e0 ad L S N) sz) := by
  subst hoc
  refine enL (cc := cL_sign) (maxL := 5) (ret := (some .int)) (hh := [(0, 7, 10, 34), (0, 7, 15, 14), (0, 7, 20, 16)]) (own := RL) (lv := [(0, .ref (ad (10, 0))), (1, .int a), (2, .int b)]) (by decide) rfl rfl (Nat.le_of_ble_eq_true rfl) rfl ?_
  intro p e s m below meth c ls A H locs hx hb hr hts hown hlocks hml hin hsz hK hP hD hS hA hl ham htab
  generalize hQQ : MQ below _ _ s _ _ A = QQ
  have lk0 : (Cond.classLink RL 34 "java/lang/IndexOutOfBoundsException").before (([.ref (ad (10, 0)), .int a, .int b] : List Value).toArray) s = true := hts _ (List.mem_of_getElem? (i := 1) rfl)
  have lk1 : (Cond.classLink RL 14 "java/lang/IllegalArgumentException").before (([.ref (ad (10, 0)), .int a, .int b] : List Value).toArray) s = true := hts _ (List.mem_of_getElem? (i := 2) rfl)
  have lk2 : (Cond.classLink RL 16 "java/lang/IllegalStateException").before (([.ref (ad (10, 0)), .int a, .int b] : List Value).toArray) s = true := hts _ (List.mem_of_getElem? (i := 3) rfl)
  refine lv_aload_n hx hb dL_sign_0 rfl (lv_at hl 0 rfl) ?_
  refine lv_iload_n hx hb dL_sign_1 rfl (lv_at hl 1 rfl) ?_
  refine lv_iload_n hx hb dL_sign_2 rfl (lv_at hl 2 rfl) ?_
  obtain ⟨hMF, hI0⟩ := (⟨hI.1.2.2.2.1, hI⟩ : _ ∧ okC L N)
  obtain ⟨z10, hz10⟩ := pl_get (ad := ad) (f := cc cy e0 ad S N) (hMF 10 (by decide))
  refine callX_i (vx_runV (As := [.int a, .int b]) (rest := []) ⟨hx, hb, hml, hown, hts⟩ (qX3_sign l dC dI cy e0 mi ad L S N H.size a b hI0 hX hDr hst) (cwV 2 hts gL_sign_X3_sign rfl rfl rfl (by decide +kernel) ⟨Nat.le_of_ble_eq_true rfl, Nat.le_of_ble_eq_true rfl⟩) (preXV hK hP hD hS hA ham.1 (w_recv (ci := 4) (q0 := z10) hK hP hz10 rfl)) rfl rfl hl.1 rfl (lv_room (Nat.le_of_ble_eq_true rfl)) dL_sign_3 ⟨Nat.le_of_ble_eq_true rfl, Nat.le_of_ble_eq_true rfl⟩) hD hS hA (fun E ce q9 H locs hpx hP hS hc1 hc2 hc3 => ?_) (fun rr uc H locs hw hP hD hS => ?_)
  · rcases hpx with ⟨hv, rfl⟩ | ⟨hv, rfl⟩ | ⟨hv, rfl⟩
    · refine vx_catch (name := "java/lang/IndexOutOfBoundsException") hown [] ⟨0, 7, 10, 34⟩ [⟨0, 7, 15, 14⟩, ⟨0, 7, 20, 16⟩] (by rw [htab]; rfl) (fun z hz => absurd hz (List.not_mem_nil)) rfl (by decide : (34 : Nat) ≠ 0) lk0 (va_Nw.use rfl (ham.1.2.2.2.2.2.1 ("java/lang/IndexOutOfBoundsException", "java/lang/IndexOutOfBoundsException") (by decide))) hc1 hc2 hc3 ?_
      refine lv_astore (lv' := [(4, .ref q9), (0, .ref (ad (10, 0))), (1, .int a), (2, .int b)]) hx hb dL_sign_10 hl (by decide) rfl (fun ls hl => ?_)
      refine lv_bipush (v := -71) hx hb dL_sign_12 (by decide) ?_
      rw [← hQQ]; exact end_i (u := (ad, L, S, N)) hx hb hr hlocks dL_sign_14 hK hP hD hS (lres_1 hv rfl rfl ⟨hI, hX⟩ rfl) (Nat.le_of_ble_eq_true rfl) (Nat.le_of_ble_eq_true rfl)
    · refine vx_catch (name := "java/lang/IllegalArgumentException") hown [⟨0, 7, 10, 34⟩] ⟨0, 7, 15, 14⟩ [⟨0, 7, 20, 16⟩] (by rw [htab]; rfl) (fun z hz => by rw [List.mem_singleton.mp hz]; exact Or.inr ⟨(by decide : (34 : Nat) ≠ 0), "java/lang/IndexOutOfBoundsException", lk0, ham.2 ("java/lang/IllegalArgumentException", "java/lang/IndexOutOfBoundsException") (by decide)⟩) rfl (by decide : (14 : Nat) ≠ 0) lk1 (va_Nw.use rfl (ham.1.2.2.2.2.2.1 ("java/lang/IllegalArgumentException", "java/lang/IllegalArgumentException") (by decide))) hc1 hc2 hc3 ?_
      refine lv_astore (lv' := [(4, .ref q9), (0, .ref (ad (10, 0))), (1, .int a), (2, .int b)]) hx hb dL_sign_15 hl (by decide) rfl (fun ls hl => ?_)
      refine lv_bipush (v := -72) hx hb dL_sign_17 (by decide) ?_
      rw [← hQQ]; exact end_i (u := (ad, L, S, N)) hx hb hr hlocks dL_sign_19 hK hP hD hS (lres_2 hv rfl rfl ⟨hI, hX⟩ rfl) (Nat.le_of_ble_eq_true rfl) (Nat.le_of_ble_eq_true rfl)
    · refine vx_catch (name := "java/lang/IllegalStateException") hown [⟨0, 7, 10, 34⟩, ⟨0, 7, 15, 14⟩] ⟨0, 7, 20, 16⟩ [] (by rw [htab]; rfl) (fun z hz => by
        rcases List.mem_cons.mp hz with h | h
        · rw [h]; exact Or.inr ⟨(by decide : (34 : Nat) ≠ 0), "java/lang/IndexOutOfBoundsException", lk0, ham.2 ("java/lang/IllegalStateException", "java/lang/IndexOutOfBoundsException") (by decide)⟩
        · rw [List.mem_singleton.mp h]; exact Or.inr ⟨(by decide : (14 : Nat) ≠ 0), "java/lang/IllegalArgumentException", lk1, ham.2 ("java/lang/IllegalStateException", "java/lang/IllegalArgumentException") (by decide)⟩) rfl (by decide : (16 : Nat) ≠ 0) lk2 (va_Nw.use rfl (ham.1.2.2.2.2.2.1 ("java/lang/IllegalStateException", "java/lang/IllegalStateException") (by decide))) hc1 hc2 hc3 ?_
      refine lv_astore (lv' := [(4, .ref q9), (0, .ref (ad (10, 0))), (1, .int a), (2, .int b)]) hx hb dL_sign_20 hl (by decide) rfl (fun ls hl => ?_)
      refine lv_bipush (v := -73) hx hb dL_sign_22 (by decide) ?_
      rw [← hQQ]; exact end_i (u := (ad, L, S, N)) hx hb hr hlocks dL_sign_24 hK hP hD hS (lres_3 hv rfl rfl ⟨hI, hX⟩ rfl) (Nat.le_of_ble_eq_true rfl) (Nat.le_of_ble_eq_true rfl)
  · obtain ⟨hv, rfl, hu, hok, had⟩ := hw
    refine lv_istore_n (lv' := [(3, .int ((if isDr (S_sgn S (ix a) (ix b)) (ix a) then nI 0 else nI (K_made (S_sgn S (ix a) (ix b)) N (ix a) 10)))), (0, .ref (ad (10, 0))), (1, .int a), (2, .int b)]) hx hb dL_sign_6 rfl hl (by decide) rfl (fun ls hl => ?_)
    refine lv_goto (tgt := 25) hx hb dL_sign_7 (by decide) ?_
    refine lv_iload_n hx hb dL_sign_25 rfl (lv_at hl 0 rfl) ?_
    rw [← hQQ]; exact end_i (u := uc) hx hb hr hlocks dL_sign_26 hK hP hD hS (lres_0 hv rfl hu hok had) (Nat.le_of_ble_eq_true rfl) (Nat.le_of_ble_eq_true rfl)

set_option maxHeartbeats 4000000 in
set_option maxRecDepth 100000 in
theorem qL_pass (l : Launch) (dC : Nat → ClassId) (dI : Nat → Nat → Nat) (cy : Nat → ClassId) (e0 mi oc : Nat) (ad : Lc → Nat) (L : List Lc) (S : SS) (N : NN) (sz : Nat) (a : Int32) (hI : okC L N) (hX : okX L N)  (hst : l.stackTraces = false) (hoc : ad (10, 0) = oc) : Met l yL_pass wsL_pass ({ frames := 7, cells := 2, slots := 12, locals := 113 }) (va_Pc [.ref oc, .int a] (wPreL (dC, dI) (tyL cy) e0 mi (cw cy e0 ad L S N) sz)) (QI (dC, dI) (tyL cy) (fun (r : Int32) (u : CT) => lres oc (V_pass S a) (-72) (-73) 0 (nI (K_passN S N (ix a))) (S, N) (K_passS S N (ix a), N) r u) (cwT cy e0) (va_A (cw cy e0 ad L S N) sz)) 2 12 (va_A (cw cy e0 ad L S N) sz) := by
  subst hoc
  refine enL (cc := cL_pass) (maxL := 4) (ret := (some .int)) (hh := [(0, 6, 9, 14), (0, 6, 13, 16)]) (own := RL) (lv := [(0, .ref (ad (10, 0))), (1, .int a)]) (by decide) rfl rfl (Nat.le_of_ble_eq_true rfl) rfl ?_
  intro p e s m below meth c ls A H locs hx hb hr hts hown hlocks hml hin hsz hK hP hD hS hA hl ham htab
  generalize hQQ : MQ below _ _ s _ _ A = QQ
  have lk0 : (Cond.classLink RL 14 "java/lang/IllegalArgumentException").before (([.ref (ad (10, 0)), .int a] : List Value).toArray) s = true := hts _ (List.mem_of_getElem? (i := 1) rfl)
  have lk1 : (Cond.classLink RL 16 "java/lang/IllegalStateException").before (([.ref (ad (10, 0)), .int a] : List Value).toArray) s = true := hts _ (List.mem_of_getElem? (i := 2) rfl)
  refine lv_aload_n hx hb dL_pass_0 rfl (lv_at hl 0 rfl) ?_
  refine lv_iload_n hx hb dL_pass_1 rfl (lv_at hl 1 rfl) ?_
  obtain ⟨hMF, hI0⟩ := (⟨hI.1.2.2.2.1, hI⟩ : _ ∧ okC L N)
  obtain ⟨z10, hz10⟩ := pl_get (ad := ad) (f := cc cy e0 ad S N) (hMF 10 (by decide))
  refine callX_i (vx_runV (As := [.int a]) (rest := []) ⟨hx, hb, hml, hown, hts⟩ (qX3_pass l dC dI cy e0 mi ad L S N H.size a hI0  hst) (cwV 1 hts gL_pass_X3_pass rfl rfl rfl (by decide +kernel) ⟨Nat.le_of_ble_eq_true rfl, Nat.le_of_ble_eq_true rfl⟩) (preXV hK hP hD hS hA ham.1 (w_recv (ci := 4) (q0 := z10) hK hP hz10 rfl)) rfl rfl hl.1 rfl (lv_room (Nat.le_of_ble_eq_true rfl)) dL_pass_2 ⟨Nat.le_of_ble_eq_true rfl, Nat.le_of_ble_eq_true rfl⟩) hD hS hA (fun E ce q9 H locs hpx hP hS hc1 hc2 hc3 => ?_) (fun rr uc H locs hw hP hD hS => ?_)
  · rcases hpx with ⟨hv, rfl⟩ | ⟨hv, rfl⟩
    · refine vx_catch (name := "java/lang/IllegalArgumentException") hown [] ⟨0, 6, 9, 14⟩ [⟨0, 6, 13, 16⟩] (by rw [htab]; rfl) (fun z hz => absurd hz (List.not_mem_nil)) rfl (by decide : (14 : Nat) ≠ 0) lk0 (va_Nw.use rfl (ham.1.2.2.2.2.2.1 ("java/lang/IllegalArgumentException", "java/lang/IllegalArgumentException") (by decide))) hc1 hc2 hc3 ?_
      refine lv_astore_n (lv' := [(3, .ref q9), (0, .ref (ad (10, 0))), (1, .int a)]) hx hb dL_pass_9 rfl hl (by decide) rfl (fun ls hl => ?_)
      refine lv_bipush (v := -72) hx hb dL_pass_10 (by decide) ?_
      rw [← hQQ]; exact end_i (u := (ad, L, S, N)) hx hb hr hlocks dL_pass_12 hK hP hD hS (lres_1 hv rfl rfl ⟨hI, hX⟩ rfl) (Nat.le_of_ble_eq_true rfl) (Nat.le_of_ble_eq_true rfl)
    · refine vx_catch (name := "java/lang/IllegalStateException") hown [⟨0, 6, 9, 14⟩] ⟨0, 6, 13, 16⟩ [] (by rw [htab]; rfl) (fun z hz => by rw [List.mem_singleton.mp hz]; exact Or.inr ⟨(by decide : (14 : Nat) ≠ 0), "java/lang/IllegalArgumentException", lk0, ham.2 ("java/lang/IllegalStateException", "java/lang/IllegalArgumentException") (by decide)⟩) rfl (by decide : (16 : Nat) ≠ 0) lk1 (va_Nw.use rfl (ham.1.2.2.2.2.2.1 ("java/lang/IllegalStateException", "java/lang/IllegalStateException") (by decide))) hc1 hc2 hc3 ?_
      refine lv_astore_n (lv' := [(3, .ref q9), (0, .ref (ad (10, 0))), (1, .int a)]) hx hb dL_pass_13 rfl hl (by decide) rfl (fun ls hl => ?_)
      refine lv_bipush (v := -73) hx hb dL_pass_14 (by decide) ?_
      rw [← hQQ]; exact end_i (u := (ad, L, S, N)) hx hb hr hlocks dL_pass_16 hK hP hD hS (lres_2 hv rfl rfl ⟨hI, hX⟩ rfl) (Nat.le_of_ble_eq_true rfl) (Nat.le_of_ble_eq_true rfl)
  · obtain ⟨hv, rfl, hu⟩ := hw
    refine lv_istore_n (lv' := [(2, .int (nI (K_passN S N (ix a)))), (0, .ref (ad (10, 0))), (1, .int a)]) hx hb dL_pass_5 rfl hl (by decide) rfl (fun ls hl => ?_)
    refine lv_goto (tgt := 17) hx hb dL_pass_6 (by decide) ?_
    refine lv_iload_n hx hb dL_pass_17 rfl (lv_at hl 0 rfl) ?_
    rw [← hQQ]; exact end_i (u := (ad, L, uc)) hx hb hr hlocks dL_pass_18 hK hP hD hS (lres_0 hv rfl hu (by
    rw [show ((ad, L, uc) : CT) = (ad, L, (K_passS S N (ix a), N)) by rw [hu]]
    exact ⟨hI0, hX⟩) rfl) (Nat.le_of_ble_eq_true rfl) (Nat.le_of_ble_eq_true rfl)

set_option maxHeartbeats 4000000 in
set_option maxRecDepth 100000 in
theorem qL_state (l : Launch) (dC : Nat → ClassId) (dI : Nat → Nat → Nat) (cy : Nat → ClassId) (e0 mi oc : Nat) (ad : Lc → Nat) (L : List Lc) (S : SS) (N : NN) (sz : Nat) (a : Int32) (hI : okC L N) (hX : okX L N)  (hst : l.stackTraces = false) (hoc : ad (10, 0) = oc) : Met l yL_state wsL_state ({ frames := 8, cells := 1, slots := 6, locals := 132 }) (va_Pc [.ref oc, .int a] (wPreL (dC, dI) (tyL cy) e0 mi (cw cy e0 ad L S N) sz)) (QI (dC, dI) (tyL cy) (fun (r : Int32) (u : CT) => lres oc (V_at N 5 a) (-71) 0 0 (S 9 (ix a) 0) (S, N) (S, N) r u) (cwT cy e0) (va_A (cw cy e0 ad L S N) sz)) 1 6 (va_A (cw cy e0 ad L S N) sz) := by
  subst hoc
  refine enL (cc := cL_state) (maxL := 4) (ret := (some .int)) (hh := [(0, 6, 9, 34)]) (own := RL) (lv := [(0, .ref (ad (10, 0))), (1, .int a)]) (by decide) rfl rfl (Nat.le_of_ble_eq_true rfl) rfl ?_
  intro p e s m below meth c ls A H locs hx hb hr hts hown hlocks hml hin hsz hK hP hD hS hA hl ham htab
  generalize hQQ : MQ below _ _ s _ _ A = QQ
  have lk0 : (Cond.classLink RL 34 "java/lang/IndexOutOfBoundsException").before (([.ref (ad (10, 0)), .int a] : List Value).toArray) s = true := hts _ (List.mem_of_getElem? (i := 1) rfl)
  refine lv_aload_n hx hb dL_state_0 rfl (lv_at hl 0 rfl) ?_
  refine lv_iload_n hx hb dL_state_1 rfl (lv_at hl 1 rfl) ?_
  obtain ⟨hMF, hI0⟩ := (⟨hI.1.2.2.2.1, hI⟩ : _ ∧ okC L N)
  obtain ⟨z10, hz10⟩ := pl_get (ad := ad) (f := cc cy e0 ad S N) (hMF 10 (by decide))
  refine callX_i (vx_runV (As := [.int a]) (rest := []) ⟨hx, hb, hml, hown, hts⟩ (qX3_state l dC dI cy e0 mi ad L S N H.size a hI0  hst) (cwV 1 hts gL_state_X3_state rfl rfl rfl (by decide +kernel) ⟨Nat.le_of_ble_eq_true rfl, Nat.le_of_ble_eq_true rfl⟩) (preXV hK hP hD hS hA ham.1 (w_recv (ci := 4) (q0 := z10) hK hP hz10 rfl)) rfl rfl hl.1 rfl (lv_room (Nat.le_of_ble_eq_true rfl)) dL_state_2 ⟨Nat.le_of_ble_eq_true rfl, Nat.le_of_ble_eq_true rfl⟩) hD hS hA (fun E ce q9 H locs hpx hP hS hc1 hc2 hc3 => ?_) (fun rr uc H locs hw hP hD hS => ?_)
  · obtain ⟨hv, rfl⟩ := hpx
    refine vx_catch (name := "java/lang/IndexOutOfBoundsException") hown [] ⟨0, 6, 9, 34⟩ [] (by rw [htab]; rfl) (fun z hz => absurd hz (List.not_mem_nil)) rfl (by decide : (34 : Nat) ≠ 0) lk0 (va_Nw.use rfl (ham.1.2.2.2.2.2.1 ("java/lang/IndexOutOfBoundsException", "java/lang/IndexOutOfBoundsException") (by decide))) hc1 hc2 hc3 ?_
    refine lv_astore_n (lv' := [(3, .ref q9), (0, .ref (ad (10, 0))), (1, .int a)]) hx hb dL_state_9 rfl hl (by decide) rfl (fun ls hl => ?_)
    refine lv_bipush (v := -71) hx hb dL_state_10 (by decide) ?_
    rw [← hQQ]; exact end_i (u := (ad, L, S, N)) hx hb hr hlocks dL_state_12 hK hP hD hS (lres_1 hv rfl rfl ⟨hI, hX⟩ rfl) (Nat.le_of_ble_eq_true rfl) (Nat.le_of_ble_eq_true rfl)
  · obtain ⟨hv, rfl, hu⟩ := hw
    refine lv_istore_n (lv' := [(2, .int (S 9 (ix a) 0)), (0, .ref (ad (10, 0))), (1, .int a)]) hx hb dL_state_5 rfl hl (by decide) rfl (fun ls hl => ?_)
    refine lv_goto (tgt := 13) hx hb dL_state_6 (by decide) ?_
    refine lv_iload_n hx hb dL_state_13 rfl (lv_at hl 0 rfl) ?_
    rw [← hQQ]; exact end_i (u := (ad, L, uc)) hx hb hr hlocks dL_state_14 hK hP hD hS (lres_0 hv rfl hu (by
    rw [show ((ad, L, uc) : CT) = (ad, L, (S, N)) by rw [hu]]
    exact ⟨hI0, hX⟩) rfl) (Nat.le_of_ble_eq_true rfl) (Nat.le_of_ble_eq_true rfl)

set_option maxHeartbeats 4000000 in
set_option maxRecDepth 100000 in
theorem qL_day (l : Launch) (dC : Nat → ClassId) (dI : Nat → Nat → Nat) (cy : Nat → ClassId) (e0 mi oc : Nat) (ad : Lc → Nat) (L : List Lc) (S : SS) (N : NN) (sz : Nat) (a : Int32) (hI : okC L N) (hX : okX L N)  (hst : l.stackTraces = false) (hoc : ad (10, 0) = oc) : Met l yL_day wsL_day ({ frames := 8, cells := 1, slots := 6, locals := 132 }) (va_Pc [.ref oc, .int a] (wPreL (dC, dI) (tyL cy) e0 mi (cw cy e0 ad L S N) sz)) (QI (dC, dI) (tyL cy) (fun (r : Int32) (u : CT) => lres oc (V_at N 5 a) (-71) 0 0 (S 9 (ix a) 1) (S, N) (S, N) r u) (cwT cy e0) (va_A (cw cy e0 ad L S N) sz)) 1 6 (va_A (cw cy e0 ad L S N) sz) := by
  subst hoc
  refine enL (cc := cL_day) (maxL := 4) (ret := (some .int)) (hh := [(0, 6, 9, 34)]) (own := RL) (lv := [(0, .ref (ad (10, 0))), (1, .int a)]) (by decide) rfl rfl (Nat.le_of_ble_eq_true rfl) rfl ?_
  intro p e s m below meth c ls A H locs hx hb hr hts hown hlocks hml hin hsz hK hP hD hS hA hl ham htab
  generalize hQQ : MQ below _ _ s _ _ A = QQ
  have lk0 : (Cond.classLink RL 34 "java/lang/IndexOutOfBoundsException").before (([.ref (ad (10, 0)), .int a] : List Value).toArray) s = true := hts _ (List.mem_of_getElem? (i := 1) rfl)
  refine lv_aload_n hx hb dL_day_0 rfl (lv_at hl 0 rfl) ?_
  refine lv_iload_n hx hb dL_day_1 rfl (lv_at hl 1 rfl) ?_
  obtain ⟨hMF, hI0⟩ := (⟨hI.1.2.2.2.1, hI⟩ : _ ∧ okC L N)
  obtain ⟨z10, hz10⟩ := pl_get (ad := ad) (f := cc cy e0 ad S N) (hMF 10 (by decide))
  refine callX_i (vx_runV (As := [.int a]) (rest := []) ⟨hx, hb, hml, hown, hts⟩ (qX3_day l dC dI cy e0 mi ad L S N H.size a hI0  hst) (cwV 1 hts gL_day_X3_day rfl rfl rfl (by decide +kernel) ⟨Nat.le_of_ble_eq_true rfl, Nat.le_of_ble_eq_true rfl⟩) (preXV hK hP hD hS hA ham.1 (w_recv (ci := 4) (q0 := z10) hK hP hz10 rfl)) rfl rfl hl.1 rfl (lv_room (Nat.le_of_ble_eq_true rfl)) dL_day_2 ⟨Nat.le_of_ble_eq_true rfl, Nat.le_of_ble_eq_true rfl⟩) hD hS hA (fun E ce q9 H locs hpx hP hS hc1 hc2 hc3 => ?_) (fun rr uc H locs hw hP hD hS => ?_)
  · obtain ⟨hv, rfl⟩ := hpx
    refine vx_catch (name := "java/lang/IndexOutOfBoundsException") hown [] ⟨0, 6, 9, 34⟩ [] (by rw [htab]; rfl) (fun z hz => absurd hz (List.not_mem_nil)) rfl (by decide : (34 : Nat) ≠ 0) lk0 (va_Nw.use rfl (ham.1.2.2.2.2.2.1 ("java/lang/IndexOutOfBoundsException", "java/lang/IndexOutOfBoundsException") (by decide))) hc1 hc2 hc3 ?_
    refine lv_astore_n (lv' := [(3, .ref q9), (0, .ref (ad (10, 0))), (1, .int a)]) hx hb dL_day_9 rfl hl (by decide) rfl (fun ls hl => ?_)
    refine lv_bipush (v := -71) hx hb dL_day_10 (by decide) ?_
    rw [← hQQ]; exact end_i (u := (ad, L, S, N)) hx hb hr hlocks dL_day_12 hK hP hD hS (lres_1 hv rfl rfl ⟨hI, hX⟩ rfl) (Nat.le_of_ble_eq_true rfl) (Nat.le_of_ble_eq_true rfl)
  · obtain ⟨hv, rfl, hu⟩ := hw
    refine lv_istore_n (lv' := [(2, .int (S 9 (ix a) 1)), (0, .ref (ad (10, 0))), (1, .int a)]) hx hb dL_day_5 rfl hl (by decide) rfl (fun ls hl => ?_)
    refine lv_goto (tgt := 13) hx hb dL_day_6 (by decide) ?_
    refine lv_iload_n hx hb dL_day_13 rfl (lv_at hl 0 rfl) ?_
    rw [← hQQ]; exact end_i (u := (ad, L, uc)) hx hb hr hlocks dL_day_14 hK hP hD hS (lres_0 hv rfl hu (by
    rw [show ((ad, L, uc) : CT) = (ad, L, (S, N)) by rw [hu]]
    exact ⟨hI0, hX⟩) rfl) (Nat.le_of_ble_eq_true rfl) (Nat.le_of_ble_eq_true rfl)

set_option maxHeartbeats 4000000 in
set_option maxRecDepth 100000 in
theorem qL_perform (l : Launch) (dC : Nat → ClassId) (dI : Nat → Nat → Nat) (cy : Nat → ClassId) (e0 mi oc : Nat) (ad : Lc → Nat) (L : List Lc) (S : SS) (N : NN) (sz : Nat) (a : Int32) (hI : okC L N) (hX : okX L N)  (hst : l.stackTraces = false) (hoc : ad (10, 0) = oc) : Met l yL_perform wsL_perform ({ frames := 8, cells := 2, slots := 12, locals := 134 }) (va_Pc [.ref oc, .int a] (wPreL (dC, dI) (tyL cy) e0 mi (cw cy e0 ad L S N) sz)) (QI (dC, dI) (tyL cy) (fun (r : Int32) (u : CT) => lres oc (V_perform S N a) (-71) (-73) 0 (bi (S 9 (ix a) 0 = nI 2 ∨ S 9 (ix a) 1 < S 0 0 0)) (S, N) (K_move S (ix a) (nI 1) (S 0 0 0), N) r u) (cwT cy e0) (va_A (cw cy e0 ad L S N) sz)) 2 12 (va_A (cw cy e0 ad L S N) sz) := by
  subst hoc
  refine enL (cc := cL_perform) (maxL := 4) (ret := (some .int)) (hh := [(0, 6, 9, 34), (0, 6, 13, 16)]) (own := RL) (lv := [(0, .ref (ad (10, 0))), (1, .int a)]) (by decide) rfl rfl (Nat.le_of_ble_eq_true rfl) rfl ?_
  intro p e s m below meth c ls A H locs hx hb hr hts hown hlocks hml hin hsz hK hP hD hS hA hl ham htab
  generalize hQQ : MQ below _ _ s _ _ A = QQ
  have lk0 : (Cond.classLink RL 34 "java/lang/IndexOutOfBoundsException").before (([.ref (ad (10, 0)), .int a] : List Value).toArray) s = true := hts _ (List.mem_of_getElem? (i := 1) rfl)
  have lk1 : (Cond.classLink RL 16 "java/lang/IllegalStateException").before (([.ref (ad (10, 0)), .int a] : List Value).toArray) s = true := hts _ (List.mem_of_getElem? (i := 2) rfl)
  refine lv_aload_n hx hb dL_perform_0 rfl (lv_at hl 0 rfl) ?_
  refine lv_iload_n hx hb dL_perform_1 rfl (lv_at hl 1 rfl) ?_
  obtain ⟨hMF, hI0⟩ := (⟨hI.1.2.2.2.1, hI⟩ : _ ∧ okC L N)
  obtain ⟨z10, hz10⟩ := pl_get (ad := ad) (f := cc cy e0 ad S N) (hMF 10 (by decide))
  refine callX_i (vx_runV (As := [.int a]) (rest := []) ⟨hx, hb, hml, hown, hts⟩ (qX3_perform l dC dI cy e0 mi ad L S N H.size a hI0  hst) (cwV 1 hts gL_perform_X3_perform rfl rfl rfl (by decide +kernel) ⟨Nat.le_of_ble_eq_true rfl, Nat.le_of_ble_eq_true rfl⟩) (preXV hK hP hD hS hA ham.1 (w_recv (ci := 4) (q0 := z10) hK hP hz10 rfl)) rfl rfl hl.1 rfl (lv_room (Nat.le_of_ble_eq_true rfl)) dL_perform_2 ⟨Nat.le_of_ble_eq_true rfl, Nat.le_of_ble_eq_true rfl⟩) hD hS hA (fun E ce q9 H locs hpx hP hS hc1 hc2 hc3 => ?_) (fun rr uc H locs hw hP hD hS => ?_)
  · rcases hpx with ⟨hv, rfl⟩ | ⟨hv, rfl⟩
    · refine vx_catch (name := "java/lang/IndexOutOfBoundsException") hown [] ⟨0, 6, 9, 34⟩ [⟨0, 6, 13, 16⟩] (by rw [htab]; rfl) (fun z hz => absurd hz (List.not_mem_nil)) rfl (by decide : (34 : Nat) ≠ 0) lk0 (va_Nw.use rfl (ham.1.2.2.2.2.2.1 ("java/lang/IndexOutOfBoundsException", "java/lang/IndexOutOfBoundsException") (by decide))) hc1 hc2 hc3 ?_
      refine lv_astore_n (lv' := [(3, .ref q9), (0, .ref (ad (10, 0))), (1, .int a)]) hx hb dL_perform_9 rfl hl (by decide) rfl (fun ls hl => ?_)
      refine lv_bipush (v := -71) hx hb dL_perform_10 (by decide) ?_
      rw [← hQQ]; exact end_i (u := (ad, L, S, N)) hx hb hr hlocks dL_perform_12 hK hP hD hS (lres_1 hv rfl rfl ⟨hI, hX⟩ rfl) (Nat.le_of_ble_eq_true rfl) (Nat.le_of_ble_eq_true rfl)
    · refine vx_catch (name := "java/lang/IllegalStateException") hown [⟨0, 6, 9, 34⟩] ⟨0, 6, 13, 16⟩ [] (by rw [htab]; rfl) (fun z hz => by rw [List.mem_singleton.mp hz]; exact Or.inr ⟨(by decide : (34 : Nat) ≠ 0), "java/lang/IndexOutOfBoundsException", lk0, ham.2 ("java/lang/IllegalStateException", "java/lang/IndexOutOfBoundsException") (by decide)⟩) rfl (by decide : (16 : Nat) ≠ 0) lk1 (va_Nw.use rfl (ham.1.2.2.2.2.2.1 ("java/lang/IllegalStateException", "java/lang/IllegalStateException") (by decide))) hc1 hc2 hc3 ?_
      refine lv_astore_n (lv' := [(3, .ref q9), (0, .ref (ad (10, 0))), (1, .int a)]) hx hb dL_perform_13 rfl hl (by decide) rfl (fun ls hl => ?_)
      refine lv_bipush (v := -73) hx hb dL_perform_14 (by decide) ?_
      rw [← hQQ]; exact end_i (u := (ad, L, S, N)) hx hb hr hlocks dL_perform_16 hK hP hD hS (lres_2 hv rfl rfl ⟨hI, hX⟩ rfl) (Nat.le_of_ble_eq_true rfl) (Nat.le_of_ble_eq_true rfl)
  · obtain ⟨hv, rfl, hu⟩ := hw
    refine lv_istore_n (lv' := [(2, .int (bi ((S 9 (ix a) 0 = nI 2 ∨ S 9 (ix a) 1 < S 0 0 0)))), (0, .ref (ad (10, 0))), (1, .int a)]) hx hb dL_perform_5 rfl hl (by decide) rfl (fun ls hl => ?_)
    refine lv_goto (tgt := 17) hx hb dL_perform_6 (by decide) ?_
    refine lv_iload_n hx hb dL_perform_17 rfl (lv_at hl 0 rfl) ?_
    refine br_eq (tgt := 25) hx hb dL_perform_18 (by decide) (fun c_1 => ?_) (fun c_1 => ?_)
    · refine lv_iconst (v := nI 0) hx hb dL_perform_25 (by decide) ?_
      rw [← hQQ]; exact end_i (u := (ad, L, uc)) hx hb hr hlocks dL_perform_26 hK hP hD hS (lres_0 hv (by rw [bi_f c_1]; rfl) hu (by
    rw [show ((ad, L, uc) : CT) = (ad, L, (K_move S (ix a) (nI 1) (S 0 0 0), N)) by rw [hu]]
    exact ⟨hI0, hX⟩) rfl) (Nat.le_of_ble_eq_true rfl) (Nat.le_of_ble_eq_true rfl)
    · refine lv_iconst (v := nI 1) hx hb dL_perform_21 (by decide) ?_
      refine lv_goto (tgt := 26) hx hb dL_perform_22 (by decide) ?_
      rw [← hQQ]; exact end_i (u := (ad, L, uc)) hx hb hr hlocks dL_perform_26 hK hP hD hS (lres_0 hv (by rw [bi_t c_1]; rfl) hu (by
    rw [show ((ad, L, uc) : CT) = (ad, L, (K_move S (ix a) (nI 1) (S 0 0 0), N)) by rw [hu]]
    exact ⟨hI0, hX⟩) rfl) (Nat.le_of_ble_eq_true rfl) (Nat.le_of_ble_eq_true rfl)

set_option maxHeartbeats 4000000 in
set_option maxRecDepth 100000 in
theorem qL_notice (l : Launch) (dC : Nat → ClassId) (dI : Nat → Nat → Nat) (cy : Nat → ClassId) (e0 mi oc : Nat) (ad : Lc → Nat) (L : List Lc) (S : SS) (N : NN) (sz : Nat) (a : Int32) (hI : okC L N) (hX : okX L N)  (hst : l.stackTraces = false) (hoc : ad (10, 0) = oc) : Met l yL_notice wsL_notice ({ frames := 8, cells := 2, slots := 12, locals := 133 }) (va_Pc [.ref oc, .int a] (wPreL (dC, dI) (tyL cy) e0 mi (cw cy e0 ad L S N) sz)) (QI (dC, dI) (tyL cy) (fun (r : Int32) (u : CT) => lres oc (V_notice S N a) (-71) (-73) 0 (S 0 0 0 + S 3 (N 3 (ix a) 1) 2) (S, N) (K_move S (ix a) (nI 2) (S 0 0 0 + S 3 (N 3 (ix a) 1) 2), N) r u) (cwT cy e0) (va_A (cw cy e0 ad L S N) sz)) 2 12 (va_A (cw cy e0 ad L S N) sz) := by
  subst hoc
  refine enL (cc := cL_notice) (maxL := 4) (ret := (some .int)) (hh := [(0, 6, 9, 34), (0, 6, 13, 16)]) (own := RL) (lv := [(0, .ref (ad (10, 0))), (1, .int a)]) (by decide) rfl rfl (Nat.le_of_ble_eq_true rfl) rfl ?_
  intro p e s m below meth c ls A H locs hx hb hr hts hown hlocks hml hin hsz hK hP hD hS hA hl ham htab
  generalize hQQ : MQ below _ _ s _ _ A = QQ
  have lk0 : (Cond.classLink RL 34 "java/lang/IndexOutOfBoundsException").before (([.ref (ad (10, 0)), .int a] : List Value).toArray) s = true := hts _ (List.mem_of_getElem? (i := 1) rfl)
  have lk1 : (Cond.classLink RL 16 "java/lang/IllegalStateException").before (([.ref (ad (10, 0)), .int a] : List Value).toArray) s = true := hts _ (List.mem_of_getElem? (i := 2) rfl)
  refine lv_aload_n hx hb dL_notice_0 rfl (lv_at hl 0 rfl) ?_
  refine lv_iload_n hx hb dL_notice_1 rfl (lv_at hl 1 rfl) ?_
  obtain ⟨hMF, hI0⟩ := (⟨hI.1.2.2.2.1, hI⟩ : _ ∧ okC L N)
  obtain ⟨z10, hz10⟩ := pl_get (ad := ad) (f := cc cy e0 ad S N) (hMF 10 (by decide))
  refine callX_i (vx_runV (As := [.int a]) (rest := []) ⟨hx, hb, hml, hown, hts⟩ (qX3_notice l dC dI cy e0 mi ad L S N H.size a hI0  hst) (cwV 1 hts gL_notice_X3_notice rfl rfl rfl (by decide +kernel) ⟨Nat.le_of_ble_eq_true rfl, Nat.le_of_ble_eq_true rfl⟩) (preXV hK hP hD hS hA ham.1 (w_recv (ci := 4) (q0 := z10) hK hP hz10 rfl)) rfl rfl hl.1 rfl (lv_room (Nat.le_of_ble_eq_true rfl)) dL_notice_2 ⟨Nat.le_of_ble_eq_true rfl, Nat.le_of_ble_eq_true rfl⟩) hD hS hA (fun E ce q9 H locs hpx hP hS hc1 hc2 hc3 => ?_) (fun rr uc H locs hw hP hD hS => ?_)
  · rcases hpx with ⟨hv, rfl⟩ | ⟨hv, rfl⟩
    · refine vx_catch (name := "java/lang/IndexOutOfBoundsException") hown [] ⟨0, 6, 9, 34⟩ [⟨0, 6, 13, 16⟩] (by rw [htab]; rfl) (fun z hz => absurd hz (List.not_mem_nil)) rfl (by decide : (34 : Nat) ≠ 0) lk0 (va_Nw.use rfl (ham.1.2.2.2.2.2.1 ("java/lang/IndexOutOfBoundsException", "java/lang/IndexOutOfBoundsException") (by decide))) hc1 hc2 hc3 ?_
      refine lv_astore_n (lv' := [(3, .ref q9), (0, .ref (ad (10, 0))), (1, .int a)]) hx hb dL_notice_9 rfl hl (by decide) rfl (fun ls hl => ?_)
      refine lv_bipush (v := -71) hx hb dL_notice_10 (by decide) ?_
      rw [← hQQ]; exact end_i (u := (ad, L, S, N)) hx hb hr hlocks dL_notice_12 hK hP hD hS (lres_1 hv rfl rfl ⟨hI, hX⟩ rfl) (Nat.le_of_ble_eq_true rfl) (Nat.le_of_ble_eq_true rfl)
    · refine vx_catch (name := "java/lang/IllegalStateException") hown [⟨0, 6, 9, 34⟩] ⟨0, 6, 13, 16⟩ [] (by rw [htab]; rfl) (fun z hz => by rw [List.mem_singleton.mp hz]; exact Or.inr ⟨(by decide : (34 : Nat) ≠ 0), "java/lang/IndexOutOfBoundsException", lk0, ham.2 ("java/lang/IllegalStateException", "java/lang/IndexOutOfBoundsException") (by decide)⟩) rfl (by decide : (16 : Nat) ≠ 0) lk1 (va_Nw.use rfl (ham.1.2.2.2.2.2.1 ("java/lang/IllegalStateException", "java/lang/IllegalStateException") (by decide))) hc1 hc2 hc3 ?_
      refine lv_astore_n (lv' := [(3, .ref q9), (0, .ref (ad (10, 0))), (1, .int a)]) hx hb dL_notice_13 rfl hl (by decide) rfl (fun ls hl => ?_)
      refine lv_bipush (v := -73) hx hb dL_notice_14 (by decide) ?_
      rw [← hQQ]; exact end_i (u := (ad, L, S, N)) hx hb hr hlocks dL_notice_16 hK hP hD hS (lres_2 hv rfl rfl ⟨hI, hX⟩ rfl) (Nat.le_of_ble_eq_true rfl) (Nat.le_of_ble_eq_true rfl)
  · obtain ⟨hv, rfl, hu⟩ := hw
    refine lv_istore_n (lv' := [(2, .int (S 0 0 0 + S 3 (N 3 (ix a) 1) 2)), (0, .ref (ad (10, 0))), (1, .int a)]) hx hb dL_notice_5 rfl hl (by decide) rfl (fun ls hl => ?_)
    refine lv_goto (tgt := 17) hx hb dL_notice_6 (by decide) ?_
    refine lv_iload_n hx hb dL_notice_17 rfl (lv_at hl 0 rfl) ?_
    rw [← hQQ]; exact end_i (u := (ad, L, uc)) hx hb hr hlocks dL_notice_18 hK hP hD hS (lres_0 hv rfl hu (by
    rw [show ((ad, L, uc) : CT) = (ad, L, (K_move S (ix a) (nI 2) (S 0 0 0 + S 3 (N 3 (ix a) 1) 2), N)) by rw [hu]]
    exact ⟨hI0, hX⟩) rfl) (Nat.le_of_ble_eq_true rfl) (Nat.le_of_ble_eq_true rfl)

set_option maxHeartbeats 4000000 in
set_option maxRecDepth 100000 in
theorem qL_settle (l : Launch) (dC : Nat → ClassId) (dI : Nat → Nat → Nat) (cy : Nat → ClassId) (e0 mi oc : Nat) (ad : Lc → Nat) (L : List Lc) (S : SS) (N : NN) (sz : Nat) (a : Int32) (hI : okC L N) (hX : okX L N)  (hst : l.stackTraces = false) (hoc : ad (10, 0) = oc) : Met l yL_settle wsL_settle ({ frames := 8, cells := 2, slots := 12, locals := 133 }) (va_Pc [.ref oc, .int a] (wPreL (dC, dI) (tyL cy) e0 mi (cw cy e0 ad L S N) sz)) (QI (dC, dI) (tyL cy) (fun (r : Int32) (u : CT) => lres oc (V_settle S N a) (-71) (-73) 0 (S 3 (N 3 (ix a) 1) 3) (S, N) (K_count (K_move S (ix a) (nI 4) (S 0 0 0)) N (ix a) (-1), N) r u) (cwT cy e0) (va_A (cw cy e0 ad L S N) sz)) 2 12 (va_A (cw cy e0 ad L S N) sz) := by
  subst hoc
  refine enL (cc := cL_settle) (maxL := 4) (ret := (some .int)) (hh := [(0, 6, 9, 34), (0, 6, 13, 16)]) (own := RL) (lv := [(0, .ref (ad (10, 0))), (1, .int a)]) (by decide) rfl rfl (Nat.le_of_ble_eq_true rfl) rfl ?_
  intro p e s m below meth c ls A H locs hx hb hr hts hown hlocks hml hin hsz hK hP hD hS hA hl ham htab
  generalize hQQ : MQ below _ _ s _ _ A = QQ
  have lk0 : (Cond.classLink RL 34 "java/lang/IndexOutOfBoundsException").before (([.ref (ad (10, 0)), .int a] : List Value).toArray) s = true := hts _ (List.mem_of_getElem? (i := 1) rfl)
  have lk1 : (Cond.classLink RL 16 "java/lang/IllegalStateException").before (([.ref (ad (10, 0)), .int a] : List Value).toArray) s = true := hts _ (List.mem_of_getElem? (i := 2) rfl)
  refine lv_aload_n hx hb dL_settle_0 rfl (lv_at hl 0 rfl) ?_
  refine lv_iload_n hx hb dL_settle_1 rfl (lv_at hl 1 rfl) ?_
  obtain ⟨hMF, hI0⟩ := (⟨hI.1.2.2.2.1, hI⟩ : _ ∧ okC L N)
  obtain ⟨z10, hz10⟩ := pl_get (ad := ad) (f := cc cy e0 ad S N) (hMF 10 (by decide))
  refine callX_i (vx_runV (As := [.int a]) (rest := []) ⟨hx, hb, hml, hown, hts⟩ (qX3_settle l dC dI cy e0 mi ad L S N H.size a hI0  hst) (cwV 1 hts gL_settle_X3_settle rfl rfl rfl (by decide +kernel) ⟨Nat.le_of_ble_eq_true rfl, Nat.le_of_ble_eq_true rfl⟩) (preXV hK hP hD hS hA ham.1 (w_recv (ci := 4) (q0 := z10) hK hP hz10 rfl)) rfl rfl hl.1 rfl (lv_room (Nat.le_of_ble_eq_true rfl)) dL_settle_2 ⟨Nat.le_of_ble_eq_true rfl, Nat.le_of_ble_eq_true rfl⟩) hD hS hA (fun E ce q9 H locs hpx hP hS hc1 hc2 hc3 => ?_) (fun rr uc H locs hw hP hD hS => ?_)
  · rcases hpx with ⟨hv, rfl⟩ | ⟨hv, rfl⟩
    · refine vx_catch (name := "java/lang/IndexOutOfBoundsException") hown [] ⟨0, 6, 9, 34⟩ [⟨0, 6, 13, 16⟩] (by rw [htab]; rfl) (fun z hz => absurd hz (List.not_mem_nil)) rfl (by decide : (34 : Nat) ≠ 0) lk0 (va_Nw.use rfl (ham.1.2.2.2.2.2.1 ("java/lang/IndexOutOfBoundsException", "java/lang/IndexOutOfBoundsException") (by decide))) hc1 hc2 hc3 ?_
      refine lv_astore_n (lv' := [(3, .ref q9), (0, .ref (ad (10, 0))), (1, .int a)]) hx hb dL_settle_9 rfl hl (by decide) rfl (fun ls hl => ?_)
      refine lv_bipush (v := -71) hx hb dL_settle_10 (by decide) ?_
      rw [← hQQ]; exact end_i (u := (ad, L, S, N)) hx hb hr hlocks dL_settle_12 hK hP hD hS (lres_1 hv rfl rfl ⟨hI, hX⟩ rfl) (Nat.le_of_ble_eq_true rfl) (Nat.le_of_ble_eq_true rfl)
    · refine vx_catch (name := "java/lang/IllegalStateException") hown [⟨0, 6, 9, 34⟩] ⟨0, 6, 13, 16⟩ [] (by rw [htab]; rfl) (fun z hz => by rw [List.mem_singleton.mp hz]; exact Or.inr ⟨(by decide : (34 : Nat) ≠ 0), "java/lang/IndexOutOfBoundsException", lk0, ham.2 ("java/lang/IllegalStateException", "java/lang/IndexOutOfBoundsException") (by decide)⟩) rfl (by decide : (16 : Nat) ≠ 0) lk1 (va_Nw.use rfl (ham.1.2.2.2.2.2.1 ("java/lang/IllegalStateException", "java/lang/IllegalStateException") (by decide))) hc1 hc2 hc3 ?_
      refine lv_astore_n (lv' := [(3, .ref q9), (0, .ref (ad (10, 0))), (1, .int a)]) hx hb dL_settle_13 rfl hl (by decide) rfl (fun ls hl => ?_)
      refine lv_bipush (v := -73) hx hb dL_settle_14 (by decide) ?_
      rw [← hQQ]; exact end_i (u := (ad, L, S, N)) hx hb hr hlocks dL_settle_16 hK hP hD hS (lres_2 hv rfl rfl ⟨hI, hX⟩ rfl) (Nat.le_of_ble_eq_true rfl) (Nat.le_of_ble_eq_true rfl)
  · obtain ⟨hv, rfl, hu⟩ := hw
    refine lv_istore_n (lv' := [(2, .int (S 3 (N 3 (ix a) 1) 3)), (0, .ref (ad (10, 0))), (1, .int a)]) hx hb dL_settle_5 rfl hl (by decide) rfl (fun ls hl => ?_)
    refine lv_goto (tgt := 17) hx hb dL_settle_6 (by decide) ?_
    refine lv_iload_n hx hb dL_settle_17 rfl (lv_at hl 0 rfl) ?_
    rw [← hQQ]; exact end_i (u := (ad, L, uc)) hx hb hr hlocks dL_settle_18 hK hP hD hS (lres_0 hv rfl hu (by
    rw [show ((ad, L, uc) : CT) = (ad, L, (K_count (K_move S (ix a) (nI 4) (S 0 0 0)) N (ix a) (-1), N)) by rw [hu]]
    exact ⟨hI0, hX⟩) rfl) (Nat.le_of_ble_eq_true rfl) (Nat.le_of_ble_eq_true rfl)

set_option maxHeartbeats 4000000 in
set_option maxRecDepth 100000 in
theorem qL_owes (l : Launch) (dC : Nat → ClassId) (dI : Nat → Nat → Nat) (cy : Nat → ClassId) (e0 mi oc : Nat) (ad : Lc → Nat) (L : List Lc) (S : SS) (N : NN) (sz : Nat) (a b : Int32) (hI : okC L N) (hX : okX L N)  (hst : l.stackTraces = false) (hoc : ad (10, 0) = oc) : Met l yL_owes wsL_owes ({ frames := 8, cells := 2, slots := 12, locals := 134 }) (va_Pc [.ref oc, .int a, .int b] (wPreL (dC, dI) (tyL cy) e0 mi (cw cy e0 ad L S N) sz)) (QI (dC, dI) (tyL cy) (fun (r : Int32) (u : CT) => lres oc (V_owes N a b) (-71) (-72) 0 ((if nI 0 < S 8 (ix a) (ix b) - S 8 (ix a) (1 - ix b) then S 8 (ix a) (ix b) - S 8 (ix a) (1 - ix b) else nI 0)) (S, N) (S, N) r u) (cwT cy e0) (va_A (cw cy e0 ad L S N) sz)) 2 12 (va_A (cw cy e0 ad L S N) sz) := by
  subst hoc
  refine enL (cc := cL_owes) (maxL := 5) (ret := (some .int)) (hh := [(0, 7, 10, 34), (0, 7, 15, 14)]) (own := RL) (lv := [(0, .ref (ad (10, 0))), (1, .int a), (2, .int b)]) (by decide) rfl rfl (Nat.le_of_ble_eq_true rfl) rfl ?_
  intro p e s m below meth c ls A H locs hx hb hr hts hown hlocks hml hin hsz hK hP hD hS hA hl ham htab
  generalize hQQ : MQ below _ _ s _ _ A = QQ
  have lk0 : (Cond.classLink RL 34 "java/lang/IndexOutOfBoundsException").before (([.ref (ad (10, 0)), .int a, .int b] : List Value).toArray) s = true := hts _ (List.mem_of_getElem? (i := 1) rfl)
  have lk1 : (Cond.classLink RL 14 "java/lang/IllegalArgumentException").before (([.ref (ad (10, 0)), .int a, .int b] : List Value).toArray) s = true := hts _ (List.mem_of_getElem? (i := 2) rfl)
  refine lv_aload_n hx hb dL_owes_0 rfl (lv_at hl 0 rfl) ?_
  refine lv_iload_n hx hb dL_owes_1 rfl (lv_at hl 1 rfl) ?_
  refine lv_iload_n hx hb dL_owes_2 rfl (lv_at hl 2 rfl) ?_
  obtain ⟨hMF, hI0⟩ := (⟨hI.1.2.2.2.1, hI⟩ : _ ∧ okC L N)
  obtain ⟨z10, hz10⟩ := pl_get (ad := ad) (f := cc cy e0 ad S N) (hMF 10 (by decide))
  refine callX_i (vx_runV (As := [.int a, .int b]) (rest := []) ⟨hx, hb, hml, hown, hts⟩ (qX3_owes l dC dI cy e0 mi ad L S N H.size a b hI0  hst) (cwV 2 hts gL_owes_X3_owes rfl rfl rfl (by decide +kernel) ⟨Nat.le_of_ble_eq_true rfl, Nat.le_of_ble_eq_true rfl⟩) (preXV hK hP hD hS hA ham.1 (w_recv (ci := 4) (q0 := z10) hK hP hz10 rfl)) rfl rfl hl.1 rfl (lv_room (Nat.le_of_ble_eq_true rfl)) dL_owes_3 ⟨Nat.le_of_ble_eq_true rfl, Nat.le_of_ble_eq_true rfl⟩) hD hS hA (fun E ce q9 H locs hpx hP hS hc1 hc2 hc3 => ?_) (fun rr uc H locs hw hP hD hS => ?_)
  · rcases hpx with ⟨hv, rfl⟩ | ⟨hv, rfl⟩
    · refine vx_catch (name := "java/lang/IndexOutOfBoundsException") hown [] ⟨0, 7, 10, 34⟩ [⟨0, 7, 15, 14⟩] (by rw [htab]; rfl) (fun z hz => absurd hz (List.not_mem_nil)) rfl (by decide : (34 : Nat) ≠ 0) lk0 (va_Nw.use rfl (ham.1.2.2.2.2.2.1 ("java/lang/IndexOutOfBoundsException", "java/lang/IndexOutOfBoundsException") (by decide))) hc1 hc2 hc3 ?_
      refine lv_astore (lv' := [(4, .ref q9), (0, .ref (ad (10, 0))), (1, .int a), (2, .int b)]) hx hb dL_owes_10 hl (by decide) rfl (fun ls hl => ?_)
      refine lv_bipush (v := -71) hx hb dL_owes_12 (by decide) ?_
      rw [← hQQ]; exact end_i (u := (ad, L, S, N)) hx hb hr hlocks dL_owes_14 hK hP hD hS (lres_1 hv rfl rfl ⟨hI, hX⟩ rfl) (Nat.le_of_ble_eq_true rfl) (Nat.le_of_ble_eq_true rfl)
    · refine vx_catch (name := "java/lang/IllegalArgumentException") hown [⟨0, 7, 10, 34⟩] ⟨0, 7, 15, 14⟩ [] (by rw [htab]; rfl) (fun z hz => by rw [List.mem_singleton.mp hz]; exact Or.inr ⟨(by decide : (34 : Nat) ≠ 0), "java/lang/IndexOutOfBoundsException", lk0, ham.2 ("java/lang/IllegalArgumentException", "java/lang/IndexOutOfBoundsException") (by decide)⟩) rfl (by decide : (14 : Nat) ≠ 0) lk1 (va_Nw.use rfl (ham.1.2.2.2.2.2.1 ("java/lang/IllegalArgumentException", "java/lang/IllegalArgumentException") (by decide))) hc1 hc2 hc3 ?_
      refine lv_astore (lv' := [(4, .ref q9), (0, .ref (ad (10, 0))), (1, .int a), (2, .int b)]) hx hb dL_owes_15 hl (by decide) rfl (fun ls hl => ?_)
      refine lv_bipush (v := -72) hx hb dL_owes_17 (by decide) ?_
      rw [← hQQ]; exact end_i (u := (ad, L, S, N)) hx hb hr hlocks dL_owes_19 hK hP hD hS (lres_2 hv rfl rfl ⟨hI, hX⟩ rfl) (Nat.le_of_ble_eq_true rfl) (Nat.le_of_ble_eq_true rfl)
  · obtain ⟨hv, rfl, hu⟩ := hw
    refine lv_istore_n (lv' := [(3, .int ((if nI 0 < S 8 (ix a) (ix b) - S 8 (ix a) (1 - ix b) then S 8 (ix a) (ix b) - S 8 (ix a) (1 - ix b) else nI 0))), (0, .ref (ad (10, 0))), (1, .int a), (2, .int b)]) hx hb dL_owes_6 rfl hl (by decide) rfl (fun ls hl => ?_)
    refine lv_goto (tgt := 20) hx hb dL_owes_7 (by decide) ?_
    refine lv_iload_n hx hb dL_owes_20 rfl (lv_at hl 0 rfl) ?_
    rw [← hQQ]; exact end_i (u := (ad, L, uc)) hx hb hr hlocks dL_owes_21 hK hP hD hS (lres_0 hv rfl hu (by
    rw [show ((ad, L, uc) : CT) = (ad, L, (S, N)) by rw [hu]]
    exact ⟨hI0, hX⟩) rfl) (Nat.le_of_ble_eq_true rfl) (Nat.le_of_ble_eq_true rfl)

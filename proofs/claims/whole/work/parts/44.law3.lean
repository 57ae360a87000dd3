/-! the law's steps -/
theorem JJ_T {S : SS} {N : NN} {F : Nat → Int32} {C : Nat → Nat} {R : Nat → Nat → Int32} {T : Nat → Nat → Nat} (h : JJ (S, N) (F, C, R, T)) (hN : okS N) : C 9 ≤ 10 ∧ C 14 ≤ 100 ∧ (∀ j, j < 10 → T 2 j ≤ 9) ∧ (∀ j, j < 100 → T 12 j ≤ 9) ∧ (∀ j, j < 100 → T 15 j ≤ 10) ∧ (∀ i, i < C 9 → R 10 i = 0 → C 14 + 10 ≤ 100) := by
  have f2 : C 9 = N 0 0 0 := h.1.2.1
  have f3 : C 14 = N 5 0 0 := h.1.2.2.1
  obtain ⟨o1, o2, o3, o4, o5⟩ := hN
  refine ⟨by omega, by omega, fun j hj => ?_, fun j hj => ?_, fun j hj => ?_, fun i hi hr => ?_⟩
  · have e : T 2 j = N 1 0 j := (h.2.1 j hj).1
    have := o2 j hj
    omega
  · obtain ⟨i1, i2, i3, i4⟩ := h.2.2.1 (j / 10) (by omega) (j % 10) (by omega)
    rw [show 10 * (j / 10) + j % 10 = j by omega] at i1
    have e : T 12 j = N 2 (j / 10) (j % 10) := i1
    by_cases hq : j / 10 < N 0 0 0
    · have a1 := o1 (j / 10) (j % 10) hq (by omega)
      have a2 := o2 (j % 10) (by omega)
      omega
    · have a3 : N 2 (j / 10) (j % 10) = 0 := i4 (show N 0 0 0 ≤ j / 10 by omega)
      omega
  · by_cases hq : j < N 5 0 0
    · have d := h.2.2.2.2.1.1 j hq
      have e : T 15 j = N 3 j 0 := d.1
      have e2 : N 3 j 0 < N 0 0 0 := d.2.2.2.2.2.2.2
      omega
    · have e : T 15 j = 0 := h.2.2.2.2.1.2 j (show N 5 0 0 ≤ j by omega) hj
      omega
  · have hd := (dr_iff h.2.2.2.1 (show i < 10 by omega)).mp hr
    have := dr_bound h ⟨o1, o2, o3, o4, o5⟩ (show i < N 0 0 0 by omega) hd
    have e : N 5 0 0 + 10 ≤ 100 := this
    omega
theorem w_swP {D : va_G} {x y : va_W} {H : Heap} (h : va_P D vwCl (x ++ y) H) : va_P D vwCl (y ++ x) H := va_P.swap (a := []) (b := x) (c := y) h
theorem w_swD {A : Nat → Prop} {x y : va_W} (h : va_D A (x ++ y)) : va_D A (y ++ x) := va_D.swap (a := []) (b := x) (c := y) h
theorem preLS {s : State} {H : Heap} {locs : List Loc} {D : va_G} {tys : List (ClassId × FieldType)} {ws : va_W} {A : Nat → Prop} {e0 mi : Nat} {As : List Value} (hK : va_K D vwCl tys s) (hP : va_P D vwCl ws H) (hD : va_D A ws) (hS : va_S A s.heap H locs) (hA : ∀ q, s.heap.size ≤ q → A q) (ham : amL e0 mi A s s.heap) : PreS s H (va_Pc As (wPreL D tys e0 mi ws H.size)) As :=
  ⟨wPreL_blind, fun U hU hW => ⟨rfl, (wPre_at (av := As) hK hP hD U hU hW).2, amL_at ham hS (w_free (D := D) (tys := tys) hD hS hA) hU hW⟩⟩
theorem cmp_rf (x : Int64) : lg_cmp x x = 0 := by simp [lg_cmp]
/-- what the law's walk stands on -/
def LF (p : Program) (l : Launch) (s : State) (m : MethodId) (c : Code) (b Ls : Nat) (xs : Nat → Int32) (dC : Nat → ClassId) (dI : Nat → Nat → Nat) (cy : Nat → ClassId) (e0 mi : Nat) : Prop :=
  p.tables.exec = Jvm.exec ∧ c.code = cL_law ∧ c.maxLocals = 7 ∧ s.vm.findClass RL = some m.cls ∧ (∀ w ∈ wsL_law, w.before #[Value.ref b] s = true) ∧ va_X b Ls xs s s.heap ∧ b < s.heap.size ∧ va_K (dC, dI) vwCl (tyL cy) s ∧ amL e0 mi (freshA s) s s.heap ∧ l.stackTraces = false
abbrev lvL (b oa t : Nat) (ad : Lc → Nat) (ad2 : Nat → Nat) : List (Nat × Value) := [(4, .int (nI (6 * t))), (3, .ref oa), (2, .ref (ad2 0)), (1, .ref (ad (10, 0))), (0, .ref b)]
/-- the law's world between two calls -/
def LI (dC : Nat → ClassId) (dI : Nat → Nat → Nat) (cy : Nat → ClassId) (e0 oa : Nat) (ad2 : Nat → Nat) (s : State) (H : Heap) (u : LU) (v : MS) : Prop :=
  va_P (dC, dI) vwCl (lwU cy e0 oa u ++ mwU ad2 cy v) H ∧ va_D (freshA s) (lwU cy e0 oa u ++ mwU ad2 cy v) ∧ va_S (freshA s) s.heap H [] ∧ okU u.1 ∧ JJ u.1.2.2 v ∧ jM u.1.2.2

theorem V_0 {V : Nat} (h : V ≤ 3) (e : nI V = 0) : V = 0 := (nI_inj (by omega) (by decide)).mp (e.trans nI_00.symm)

set_option maxHeartbeats 4000000 in
set_option maxRecDepth 100000 in
theorem s_latest {p : Program} {l : Launch} {e : Env} {s : State} {m : MethodId} {below : List Frame} {meth : Method} {c : Code} {b Ls : Nat} {xs : Nat → Int32} {dC : Nat → ClassId} {dI : Nat → Nat → Nat} {cy : Nat → ClassId} {e0 mi oa : Nat} {ad : Lc → Nat} {L : List Lc} {S : SS} {N : NN} {f0 : Nat → Int64} {ad2 : Nat → Nat} {F : Nat → Int32} {C : Nat → Nat} {R : Nat → Nat → Int32} {T : Nat → Nat → Nat} {H : Heap} {ls : Array Slot} {t cells slots : Nat} {Q : State → Prop}
    (hF : LF p l s m c b Ls xs dC dI cy e0 mi) (hLs : Ls ≤ 3072) (ht : 6 * t + 6 ≤ Ls) (hc : cells + 100 ≤ 601024) (hsl : slots + 5000 ≤ 7293034) (hI0 : LI dC dI cy e0 oa ad2 s H ((ad, L, S, N), f0) (F, C, R, T)) (hl : lv_has ls 7 (lvL b oa t ad ad2))
    (kk : ∀ (H : Heap) (u : LU) (v : MS) (ls : Array Slot), LI dC dI cy e0 oa ad2 s H u v → lv_has ls 7 (lvL b oa t u.1.1 ad2) → W p l e room_1 s m (#[Value.ref b] : Array Value) below meth c H [] (cells + 100) (slots + 5000) Q (F0 m 1303 ls [])) :
    W p l e room_1 s m (#[Value.ref b] : Array Value) below meth c H [] cells slots Q (F0 m 296 ls []) := by
  obtain ⟨hx, hb, hml, hown, hts, hXs, hbl, hK, ham, hst⟩ := hF
  obtain ⟨hP, hD, hS, ⟨hI, hX⟩, hJ, hM⟩ := hI0
  have hN := okS_of hI
  obtain ⟨q9, q14, qT, qV, qC, qn⟩ := JJ_T hJ hN
  have hA : ∀ q, s.heap.size ≤ q → freshA s q := fun q h => h
  have hbA : ¬ freshA s b := fun h => Nat.lt_irrefl _ (Nat.lt_of_lt_of_le hbl h)
  have hP : va_P (dC, dI) vwCl ((cw cy e0 ad L S N ++ [(oa, .inl (cy 5, 1, .inr (.inl f0)))]) ++ mwU ad2 cy (F, C, R, T)) H := hP
  have hD : va_D (freshA s) ((cw cy e0 ad L S N ++ [(oa, .inl (cy 5, 1, .inr (.inl f0)))]) ++ mwU ad2 cy (F, C, R, T)) := hD
  refine lv_aload_n hx hb dL_law_296 rfl (lv_at hl 3 rfl) ?_
  refine lv_aload_n hx hb dL_law_297 rfl (lv_at hl 4 rfl) ?_
  refine lv_iload hx hb dL_law_298 (lv_at hl 0 rfl) ?_
  refine lv_iconst (v := nI 1) hx hb dL_law_300 (by decide) ?_
  refine lv_iadd hx hb dL_law_301 ?_
  refine to_i (y := nI ((6 * t) + 1)) (nI_add _ _) ?_
  refine va_sld hx hb hXs hbl hbA hS (i := nI (6 * t + 1)) (vp_in_nI (show 6 * t + 1 < Ls by omega) (by omega)) dL_law_302 ?_
  refine to_i (y := xs (6 * t + 1)) (by rw [nI_clamp (show 6 * t + 1 < 2 ^ 31 by omega)]) ?_
  refine lv_aload_n hx hb dL_law_303 rfl (lv_at hl 1 rfl) ?_
  refine callY_i hP (vx_runSW (As := [.ref (ad (10, 0)), .int (xs (6 * t + 1)), .ref oa]) (rest := []) ⟨hx, hb, hml, hown, hts⟩ (qL_latest l dC dI cy e0 mi oa ad L S N f0 H.size (xs (6 * t + 1)) hI hX hst) (vx_cwSW 3 hts gL_law_L_latest rfl rfl rfl (by decide +kernel) ⟨Nat.le_of_ble_eq_true rfl, Nat.le_of_ble_eq_true rfl⟩) (preLS hK (w_leftP hP) (w_leftD hD) hS hA ham) rfl rfl hl.1 rfl (lv_room (Nat.le_of_ble_eq_true rfl)) dL_law_304 ⟨by show _ ≤ 601024; omega, by show _ ≤ 7293034; omega⟩) hD hS hA (fun rr ul H locs hw hP hD hS => ?_)
  obtain ⟨er, hok0, hno, hokU⟩ := hw
  refine lv_istore (lv' := [(5, .int rr), (4, .int (nI (6 * t))), (3, .ref oa), (2, .ref ((ad2 0))), (1, .ref (ad (10, 0))), (0, .ref b)]) hx hb dL_law_307 hl (by decide) rfl (fun ls hl => ?_)
  refine lv_aload_n hx hb dL_law_309 rfl (lv_at hl 3 rfl) ?_
  refine lv_aload_n hx hb dL_law_310 rfl (lv_at hl 5 rfl) ?_
  refine lv_iload hx hb dL_law_311 (lv_at hl 1 rfl) ?_
  refine lv_iconst (v := nI 1) hx hb dL_law_313 (by decide) ?_
  refine lv_iadd hx hb dL_law_314 ?_
  refine to_i (y := nI ((6 * t) + 1)) (nI_add _ _) ?_
  refine va_sld hx hb hXs hbl hbA hS (i := nI (6 * t + 1)) (vp_in_nI (show 6 * t + 1 < Ls by omega) (by omega)) dL_law_315 ?_
  refine to_i (y := xs (6 * t + 1)) (by rw [nI_clamp (show 6 * t + 1 < 2 ^ 31 by omega)]) ?_
  have hPm := w_swP hP
  have hDm := w_swD hD
  refine callY_i hPm (va_runV (As := [.int (xs (6 * t + 1))]) (rest := []) ⟨hx, hb, hml, hown, hts⟩ (qX4_latest l dC dI cy ad2 F C R T H.size (xs (6 * t + 1)) ) (cwV 1 hts gL_law_X4_latest rfl rfl rfl (by decide +kernel) ⟨Nat.le_of_ble_eq_true rfl, Nat.le_of_ble_eq_true rfl⟩) (preV hK (w_leftP hPm) (w_leftD hDm) (w_recv (ci := 5) (q0 := 0) hK (w_leftP hPm) rfl rfl)) rfl rfl hl.1 rfl (lv_room (Nat.le_of_ble_eq_true rfl)) dL_law_316 ⟨by show _ ≤ 601024; omega, by show _ ≤ 7293034; omega⟩) hDm hS hA (fun ra vv H locs hw2 hP hD hS => ?_)
  have ev : vv = (M_latest F C R T (xs (6 * t + 1))).2 := congrArg Prod.snd hw2
  have ea : ra = (M_latest F C R T (xs (6 * t + 1))).1 := congrArg Prod.fst hw2
  obtain ⟨j1, j2, j3⟩ := j_latest hJ (xs (6 * t + 1))
  rw [← ev, ← ea] at j1 j2 j3
  have hJ2 : JJ ul.1.2.2 vv ∧ jM ul.1.2.2 := by
    by_cases hV : (V_latest (xs (6 * t + 1))) = 0
    · rw [(hok0 hV).2]
      exact ⟨(j2 hV).2, hM⟩
    · rw [hno hV]
      exact ⟨j3 hV, hM⟩
  refine lv_istore (lv' := [(6, .int ra), (5, .int rr), (4, .int (nI (6 * t))), (3, .ref oa), (2, .ref ((ad2 0))), (1, .ref (ad (10, 0))), (0, .ref b)]) hx hb dL_law_319 hl (by decide) rfl (fun ls hl => ?_)
  refine lv_aload_n hx hb dL_law_321 rfl (lv_at hl 4 rfl) ?_
  refine callY_i hP (va_runV (As := []) (rest := []) ⟨hx, hb, hml, hown, hts⟩ (qX4_thrown l dC dI cy ad2 vv.1 vv.2.1 vv.2.2.1 vv.2.2.2 H.size) (cwV 0 hts gL_law_X4_thrown rfl rfl rfl (by decide +kernel) ⟨Nat.le_of_ble_eq_true rfl, Nat.le_of_ble_eq_true rfl⟩) (preV hK (w_leftP hP) (w_leftD hD) (w_recv (ci := 5) (q0 := 0) hK (w_leftP hP) rfl rfl)) rfl rfl hl.1 rfl (lv_room (Nat.le_of_ble_eq_true rfl)) dL_law_322 ⟨by show _ ≤ 601024; omega, by show _ ≤ 7293034; omega⟩) hD hS hA (fun rt v2 H locs hw3 hP hD hS => ?_)
  obtain ⟨et, ev2⟩ := hw3
  have ev3 : v2 = vv := ev2
  subst ev3
  have hP := w_swP hP
  have hD := w_swD hD
  refine lv_iload hx hb dL_law_325 (lv_at hl 1 rfl) ?_
  refine lv_icmp_eq (tgt := 332) hx hb dL_law_327 (by decide) (fun _ => ?_) (fun h9 => absurd ((et.trans j1).trans er.symm) h9)
  refine lv_iload hx hb dL_law_332 (lv_at hl 1 rfl) ?_
  refine lv_if_ne (tgt := 349) hx hb dL_law_334 (by decide) (fun h8 => ?_) (fun h8 => ?_)
  · refine lv_goto (tgt := 1303) hx hb dL_law_349 (by decide) ?_
    exact va_forget (fun q hq => hS.2.2 q hq) (W.widen (k := cells + 100) (n := slots + 5000) (by omega) (by omega) (kk H _ _ _ ⟨hP, hD, ⟨hS.1, hS.2.1, fun _ h => by cases h⟩, hokU, hJ2.1, hJ2.2⟩ (lv_sub hl [2, 3, 4, 5, 6] rfl)))
  · have hV : (V_latest (xs (6 * t + 1))) = 0 := V_0 (by unfold V_latest; repeat' split; all_goals omega) (er.symm.trans h8)
    have eo : ul.2 0 = (nI (N 1 0 (ix (xs (6 * t + 1))))).toInt64 := (hok0 hV).1
    have er2 : ra = nI (N 1 0 (ix (xs (6 * t + 1)))) := (j2 hV).1
    refine lv_aload_n hx hb dL_law_337 rfl (lv_at hl 3 rfl) ?_
    refine lv_iconst (v := nI 0) hx hb dL_law_338 (by decide) ?_
    refine va_lald hx hb hK (w_leftP hP) (pl ul.1.2.1 ul.1.1 (cc cy e0 ul.1.1 ul.1.2.2.1 ul.1.2.2.2)).length 5 (app_r (k := 0) rfl) rfl (vp_in_nI (by decide) (by decide)) dL_law_339 ?_
    rw [nI_clamp (by decide)]
    refine lv_iload hx hb dL_law_340 (lv_at hl 0 rfl) ?_
    refine lv_i2l hx hb dL_law_342 rfl ?_
    refine W.lcmp hx hb dL_law_343 ?_
    refine to_i (y := 0) (by rw [eo, er2]; exact cmp_rf _) ?_
    refine lv_if_eq (tgt := 349) hx hb dL_law_344 (by decide) (fun _ => ?_) (fun h9 => absurd rfl h9)
    refine lv_goto (tgt := 1303) hx hb dL_law_349 (by decide) ?_
    exact va_forget (fun q hq => hS.2.2 q hq) (W.widen (k := cells + 100) (n := slots + 5000) (by omega) (by omega) (kk H _ _ _ ⟨hP, hD, ⟨hS.1, hS.2.1, fun _ h => by cases h⟩, hokU, hJ2.1, hJ2.2⟩ (lv_sub hl [2, 3, 4, 5, 6] rfl)))

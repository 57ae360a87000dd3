/-! the law's steps -/
theorem JJ_T {S : SS} {N : NN} {F : Nat → Int32} {C : Nat → Nat} {R : Nat → Nat → Int32} {T : Nat → Nat → Nat} (h : JJ (S, N) (F, C, R, T)) (hN : okS N) : C 9 ≤ 10 ∧ C 14 ≤ 100 ∧ (∀ j, j < 10 → T 2 j ≤ 9) ∧ (∀ j, j < 100 → T 12 j ≤ 9) ∧ (∀ j, j < 100 → T 15 j ≤ 10) ∧ (∀ i, i < C 9 → R 10 i = 0 → C 14 + 10 ≤ 100) := by
  have f2 : C 9 = N 0 0 0 := h.1.2.1
  have f3 : C 14 = N 5 0 0 := h.1.2.2.1
  obtain ⟨o1, o2, o3, o4, o5⟩ := hN
  refine ⟨by omega, by omega, fun j hj => ?_, fun j hj => ?_, fun j hj => ?_, fun i hi hr => ?_⟩
  · have e : T 2 j = N 1 0 j := (h.2.1 j hj).1
    have := o2 j hj
    omega
  · obtain ⟨i1, i2, i3, i4⟩ := h.2.2.1 (j / 10) (by omega) (j % 10) (by omega)
    rw [show 10 * (j / 10) + j % 10 = j by omega] at i1
    have e : T 12 j = N 2 (j / 10) (j % 10) := i1
    by_cases hq : j / 10 < N 0 0 0
    · have a1 := o1 (j / 10) (j % 10) hq (by omega)
      have a2 := o2 (j % 10) (by omega)
      omega
    · have a3 : N 2 (j / 10) (j % 10) = 0 := i4 (show N 0 0 0 ≤ j / 10 by omega)
      omega
  · by_cases hq : j < N 5 0 0
    · have d := h.2.2.2.2.1.1 j hq
      have e : T 15 j = N 3 j 0 := d.1
      have e2 : N 3 j 0 < N 0 0 0 := d.2.2.2.2.2.2.2
      omega
    · have e : T 15 j = 0 := h.2.2.2.2.1.2 j (show N 5 0 0 ≤ j by omega) hj
      omega
  · have hd := (dr_iff h.2.2.2.1 (show i < 10 by omega)).mp hr
    have := dr_bound h ⟨o1, o2, o3, o4, o5⟩ (show i < N 0 0 0 by omega) hd
    have e : N 5 0 0 + 10 ≤ 100 := this
    omega
theorem w_swP {D : va_G} {x y : va_W} {H : Heap} (h : va_P D vwCl (x ++ y) H) : va_P D vwCl (y ++ x) H := va_P.swap (a := []) (b := x) (c := y) h
theorem w_swD {A : Nat → Prop} {x y : va_W} (h : va_D A (x ++ y)) : va_D A (y ++ x) := va_D.swap (a := []) (b := x) (c := y) h
theorem preLS {s : State} {H : Heap} {locs : List Loc} {D : va_G} {tys : List (ClassId × FieldType)} {ws : va_W} {A : Nat → Prop} {e0 mi : Nat} {As : List Value} (hK : va_K D vwCl tys s) (hP : va_P D vwCl ws H) (hD : va_D A ws) (hS : va_S A s.heap H locs) (hA : ∀ q, s.heap.size ≤ q → A q) (ham : amL e0 mi A s s.heap) : PreS s H (va_Pc As (wPreL D tys e0 mi ws H.size)) As :=
  ⟨wPreL_blind, fun U hU hW => ⟨rfl, (wPre_at (av := As) hK hP hD U hU hW).2, amL_at ham hS (w_free (D := D) (tys := tys) hD hS hA) hU hW⟩⟩
theorem cmp_rf (x : Int64) : lg_cmp x x = 0 := by simp [lg_cmp]
/-- what the law's walk stands on -/
def LF (p : Program) (l : Launch) (s : State) (m : MethodId) (c : Code) (b Ls : Nat) (xs : Nat → Int32) (dC : Nat → ClassId) (dI : Nat → Nat → Nat) (cy : Nat → ClassId) (e0 mi : Nat) : Prop :=
  p.tables.exec = Jvm.exec ∧ c.code = cL_law ∧ c.maxLocals = 7 ∧ s.vm.findClass RL = some m.cls ∧ (∀ w ∈ wsL_law, w.before #[Value.ref b] s = true) ∧ va_X b Ls xs s s.heap ∧ b < s.heap.size ∧ va_K (dC, dI) vwCl (tyL cy) s ∧ amL e0 mi (freshA s) s s.heap ∧ l.stackTraces = false
abbrev lvL (b oa t : Nat) (ad : Lc → Nat) (ad2 : Nat → Nat) : List (Nat × Value) := [(4, .int (nI (6 * t))), (3, .ref oa), (2, .ref (ad2 0)), (1, .ref (ad (10, 0))), (0, .ref b)]
/-- the law's world between two calls -/
def LI (dC : Nat → ClassId) (dI : Nat → Nat → Nat) (cy : Nat → ClassId) (e0 oa : Nat) (ad2 : Nat → Nat) (s : State) (H : Heap) (u : LU) (v : MS) : Prop :=
  va_P (dC, dI) vwCl (lwU cy e0 oa u ++ mwU ad2 cy v) H ∧ va_D (freshA s) (lwU cy e0 oa u ++ mwU ad2 cy v) ∧ va_S (freshA s) s.heap H [] ∧ okU u.1 ∧ JJ u.1.2.2 v ∧ jM u.1.2.2

theorem V_0 {V : Nat} (h : V ≤ 3) (e : nI V = 0) : V = 0 := (nI_inj (by omega) (by decide)).mp (e.trans nI_00.symm)

set_option maxHeartbeats 4000000 in
set_option maxRecDepth 100000 in
theorem s_issue {p : Program} {l : Launch} {e : Env} {s : State} {m : MethodId} {below : List Frame} {meth : Method} {c : Code} {b Ls : Nat} {xs : Nat → Int32} {dC : Nat → ClassId} {dI : Nat → Nat → Nat} {cy : Nat → ClassId} {e0 mi oa : Nat} {ad : Lc → Nat} {L : List Lc} {S : SS} {N : NN} {f0 : Nat → Int64} {ad2 : Nat → Nat} {F : Nat → Int32} {C : Nat → Nat} {R : Nat → Nat → Int32} {T : Nat → Nat → Nat} {H : Heap} {ls : Array Slot} {t cells slots : Nat} {Q : State → Prop}
    (hF : LF p l s m c b Ls xs dC dI cy e0 mi) (hLs : Ls ≤ 3072) (ht : 6 * t + 6 ≤ Ls) (hc : cells + 100 ≤ 601024) (hsl : slots + 5000 ≤ 7293034) (hI0 : LI dC dI cy e0 oa ad2 s H ((ad, L, S, N), f0) (F, C, R, T)) (hl : lv_has ls 7 (lvL b oa t ad ad2))
    (kk : ∀ (H : Heap) (u : LU) (v : MS) (ls : Array Slot), LI dC dI cy e0 oa ad2 s H u v → lv_has ls 7 (lvL b oa t u.1.1 ad2) → W p l e room_1 s m (#[Value.ref b] : Array Value) below meth c H [] (cells + 100) (slots + 5000) Q (F0 m 1303 ls [])) :
    W p l e room_1 s m (#[Value.ref b] : Array Value) below meth c H [] cells slots Q (F0 m 132 ls []) := by
  obtain ⟨hx, hb, hml, hown, hts, hXs, hbl, hK, ham, hst⟩ := hF
  obtain ⟨hP, hD, hS, ⟨hI, hX⟩, hJ, hM⟩ := hI0
  have hN := okS_of hI
  obtain ⟨q9, q14, qT, qV, qC, qn⟩ := JJ_T hJ hN
  have hA : ∀ q, s.heap.size ≤ q → freshA s q := fun q h => h
  have hbA : ¬ freshA s b := fun h => Nat.lt_irrefl _ (Nat.lt_of_lt_of_le hbl h)
  have hP : va_P (dC, dI) vwCl ((cw cy e0 ad L S N ++ [(oa, .inl (cy 5, 1, .inr (.inl f0)))]) ++ mwU ad2 cy (F, C, R, T)) H := hP
  have hD : va_D (freshA s) ((cw cy e0 ad L S N ++ [(oa, .inl (cy 5, 1, .inr (.inl f0)))]) ++ mwU ad2 cy (F, C, R, T)) := hD
  refine lv_aload_n hx hb dL_law_132 rfl (lv_at hl 3 rfl) ?_
  refine lv_aload_n hx hb dL_law_133 rfl (lv_at hl 4 rfl) ?_
  refine lv_iload hx hb dL_law_134 (lv_at hl 0 rfl) ?_
  refine lv_iconst (v := nI 1) hx hb dL_law_136 (by decide) ?_
  refine lv_iadd hx hb dL_law_137 ?_
  refine to_i (y := nI ((6 * t) + 1)) (nI_add _ _) ?_
  refine va_sld hx hb hXs hbl hbA hS (i := nI (6 * t + 1)) (vp_in_nI (show 6 * t + 1 < Ls by omega) (by omega)) dL_law_138 ?_
  refine to_i (y := xs (6 * t + 1)) (by rw [nI_clamp (show 6 * t + 1 < 2 ^ 31 by omega)]) ?_
  refine lv_aload_n hx hb dL_law_139 rfl (lv_at hl 4 rfl) ?_
  refine lv_iload hx hb dL_law_140 (lv_at hl 0 rfl) ?_
  refine lv_iconst (v := nI 2) hx hb dL_law_142 (by decide) ?_
  refine lv_iadd hx hb dL_law_143 ?_
  refine to_i (y := nI ((6 * t) + 2)) (nI_add _ _) ?_
  refine va_sld hx hb hXs hbl hbA hS (i := nI (6 * t + 2)) (vp_in_nI (show 6 * t + 2 < Ls by omega) (by omega)) dL_law_144 ?_
  refine to_i (y := xs (6 * t + 2)) (by rw [nI_clamp (show 6 * t + 2 < 2 ^ 31 by omega)]) ?_
  refine lv_aload_n hx hb dL_law_145 rfl (lv_at hl 4 rfl) ?_
  refine lv_iload hx hb dL_law_146 (lv_at hl 0 rfl) ?_
  refine lv_iconst (v := nI 3) hx hb dL_law_148 (by decide) ?_
  refine lv_iadd hx hb dL_law_149 ?_
  refine to_i (y := nI ((6 * t) + 3)) (nI_add _ _) ?_
  refine va_sld hx hb hXs hbl hbA hS (i := nI (6 * t + 3)) (vp_in_nI (show 6 * t + 3 < Ls by omega) (by omega)) dL_law_150 ?_
  refine to_i (y := xs (6 * t + 3)) (by rw [nI_clamp (show 6 * t + 3 < 2 ^ 31 by omega)]) ?_
  refine lv_aload_n hx hb dL_law_151 rfl (lv_at hl 4 rfl) ?_
  refine lv_iload hx hb dL_law_152 (lv_at hl 0 rfl) ?_
  refine lv_iconst (v := nI 4) hx hb dL_law_154 (by decide) ?_
  refine lv_iadd hx hb dL_law_155 ?_
  refine to_i (y := nI ((6 * t) + 4)) (nI_add _ _) ?_
  refine va_sld hx hb hXs hbl hbA hS (i := nI (6 * t + 4)) (vp_in_nI (show 6 * t + 4 < Ls by omega) (by omega)) dL_law_156 ?_
  refine to_i (y := xs (6 * t + 4)) (by rw [nI_clamp (show 6 * t + 4 < 2 ^ 31 by omega)]) ?_
  refine lv_aload_n hx hb dL_law_157 rfl (lv_at hl 4 rfl) ?_
  refine lv_iload hx hb dL_law_158 (lv_at hl 0 rfl) ?_
  refine lv_iconst (v := nI 5) hx hb dL_law_160 (by decide) ?_
  refine lv_iadd hx hb dL_law_161 ?_
  refine to_i (y := nI ((6 * t) + 5)) (nI_add _ _) ?_
  refine va_sld hx hb hXs hbl hbA hS (i := nI (6 * t + 5)) (vp_in_nI (show 6 * t + 5 < Ls by omega) (by omega)) dL_law_162 ?_
  refine to_i (y := xs (6 * t + 5)) (by rw [nI_clamp (show 6 * t + 5 < 2 ^ 31 by omega)]) ?_
  refine lv_aload_n hx hb dL_law_163 rfl (lv_at hl 1 rfl) ?_
  refine callY_i hP (vx_runSW (As := [.ref (ad (10, 0)), .int (xs (6 * t + 1)), .int (xs (6 * t + 2)), .int (xs (6 * t + 3)), .int (xs (6 * t + 4)), .int (xs (6 * t + 5)), .ref oa]) (rest := []) ⟨hx, hb, hml, hown, hts⟩ (qL_issue l dC dI cy e0 mi oa ad L S N f0 H.size (xs (6 * t + 1)) (xs (6 * t + 2)) (xs (6 * t + 3)) (xs (6 * t + 4)) (xs (6 * t + 5)) hI hX hst) (vx_cwSW 7 hts gL_law_L_issue rfl rfl rfl (by decide +kernel) ⟨Nat.le_of_ble_eq_true rfl, Nat.le_of_ble_eq_true rfl⟩) (preLS hK (w_leftP hP) (w_leftD hD) hS hA ham) rfl rfl hl.1 rfl (lv_room (Nat.le_of_ble_eq_true rfl)) dL_law_164 ⟨by show _ ≤ 601024; omega, by show _ ≤ 7293034; omega⟩) hD hS hA (fun rr ul H locs hw hP hD hS => ?_)
  obtain ⟨er, hok0, hno, hokU, had⟩ := hw
  refine lv_istore (lv' := [(5, .int rr), (4, .int (nI (6 * t))), (3, .ref oa), (2, .ref ((ad2 0))), (1, .ref (ad (10, 0))), (0, .ref b)]) hx hb dL_law_167 hl (by decide) rfl (fun ls hl => ?_)
  refine lv_aload_n hx hb dL_law_169 rfl (lv_at hl 3 rfl) ?_
  refine lv_aload_n hx hb dL_law_170 rfl (lv_at hl 5 rfl) ?_
  refine lv_iload hx hb dL_law_171 (lv_at hl 1 rfl) ?_
  refine lv_iconst (v := nI 1) hx hb dL_law_173 (by decide) ?_
  refine lv_iadd hx hb dL_law_174 ?_
  refine to_i (y := nI ((6 * t) + 1)) (nI_add _ _) ?_
  refine va_sld hx hb hXs hbl hbA hS (i := nI (6 * t + 1)) (vp_in_nI (show 6 * t + 1 < Ls by omega) (by omega)) dL_law_175 ?_
  refine to_i (y := xs (6 * t + 1)) (by rw [nI_clamp (show 6 * t + 1 < 2 ^ 31 by omega)]) ?_
  refine lv_aload_n hx hb dL_law_176 rfl (lv_at hl 5 rfl) ?_
  refine lv_iload hx hb dL_law_177 (lv_at hl 1 rfl) ?_
  refine lv_iconst (v := nI 2) hx hb dL_law_179 (by decide) ?_
  refine lv_iadd hx hb dL_law_180 ?_
  refine to_i (y := nI ((6 * t) + 2)) (nI_add _ _) ?_
  refine va_sld hx hb hXs hbl hbA hS (i := nI (6 * t + 2)) (vp_in_nI (show 6 * t + 2 < Ls by omega) (by omega)) dL_law_181 ?_
  refine to_i (y := xs (6 * t + 2)) (by rw [nI_clamp (show 6 * t + 2 < 2 ^ 31 by omega)]) ?_
  refine lv_aload_n hx hb dL_law_182 rfl (lv_at hl 5 rfl) ?_
  refine lv_iload hx hb dL_law_183 (lv_at hl 1 rfl) ?_
  refine lv_iconst (v := nI 3) hx hb dL_law_185 (by decide) ?_
  refine lv_iadd hx hb dL_law_186 ?_
  refine to_i (y := nI ((6 * t) + 3)) (nI_add _ _) ?_
  refine va_sld hx hb hXs hbl hbA hS (i := nI (6 * t + 3)) (vp_in_nI (show 6 * t + 3 < Ls by omega) (by omega)) dL_law_187 ?_
  refine to_i (y := xs (6 * t + 3)) (by rw [nI_clamp (show 6 * t + 3 < 2 ^ 31 by omega)]) ?_
  refine lv_aload_n hx hb dL_law_188 rfl (lv_at hl 5 rfl) ?_
  refine lv_iload hx hb dL_law_189 (lv_at hl 1 rfl) ?_
  refine lv_iconst (v := nI 4) hx hb dL_law_191 (by decide) ?_
  refine lv_iadd hx hb dL_law_192 ?_
  refine to_i (y := nI ((6 * t) + 4)) (nI_add _ _) ?_
  refine va_sld hx hb hXs hbl hbA hS (i := nI (6 * t + 4)) (vp_in_nI (show 6 * t + 4 < Ls by omega) (by omega)) dL_law_193 ?_
  refine to_i (y := xs (6 * t + 4)) (by rw [nI_clamp (show 6 * t + 4 < 2 ^ 31 by omega)]) ?_
  refine lv_aload_n hx hb dL_law_194 rfl (lv_at hl 5 rfl) ?_
  refine lv_iload hx hb dL_law_195 (lv_at hl 1 rfl) ?_
  refine lv_iconst (v := nI 5) hx hb dL_law_197 (by decide) ?_
  refine lv_iadd hx hb dL_law_198 ?_
  refine to_i (y := nI ((6 * t) + 5)) (nI_add _ _) ?_
  refine va_sld hx hb hXs hbl hbA hS (i := nI (6 * t + 5)) (vp_in_nI (show 6 * t + 5 < Ls by omega) (by omega)) dL_law_199 ?_
  refine to_i (y := xs (6 * t + 5)) (by rw [nI_clamp (show 6 * t + 5 < 2 ^ 31 by omega)]) ?_
  have hPm := w_swP hP
  have hDm := w_swD hD
  refine callY_i hPm (va_runV (As := [.int (xs (6 * t + 1)), .int (xs (6 * t + 2)), .int (xs (6 * t + 3)), .int (xs (6 * t + 4)), .int (xs (6 * t + 5))]) (rest := []) ⟨hx, hb, hml, hown, hts⟩ (qX4_issue l dC dI cy ad2 F C R T H.size (xs (6 * t + 1)) (xs (6 * t + 2)) (xs (6 * t + 3)) (xs (6 * t + 4)) (xs (6 * t + 5)) qT) (cwV 5 hts gL_law_X4_issue rfl rfl rfl (by decide +kernel) ⟨Nat.le_of_ble_eq_true rfl, Nat.le_of_ble_eq_true rfl⟩) (preV hK (w_leftP hPm) (w_leftD hDm) (w_recv (ci := 5) (q0 := 0) hK (w_leftP hPm) rfl rfl)) rfl rfl hl.1 rfl (lv_room (Nat.le_of_ble_eq_true rfl)) dL_law_200 ⟨by show _ ≤ 601024; omega, by show _ ≤ 7293034; omega⟩) hDm hS hA (fun ra vv H locs hw2 hP hD hS => ?_)
  have ev : vv = (M_issue F C R T (xs (6 * t + 1)) (xs (6 * t + 2)) (xs (6 * t + 3)) (xs (6 * t + 4)) (xs (6 * t + 5))).2 := congrArg Prod.snd hw2
  have ea : ra = (M_issue F C R T (xs (6 * t + 1)) (xs (6 * t + 2)) (xs (6 * t + 3)) (xs (6 * t + 4)) (xs (6 * t + 5))).1 := congrArg Prod.fst hw2
  obtain ⟨j1, j2, j3⟩ := j_issue hJ hN (xs (6 * t + 1)) (xs (6 * t + 2)) (xs (6 * t + 3)) (xs (6 * t + 4)) (xs (6 * t + 5))
  rw [← ev] at j1 j2 j3
  rw [← ea] at j2
  have hJ2 : JJ ul.1.2.2 vv ∧ jM ul.1.2.2 := by
    by_cases hV : (V_issue N (xs (6 * t + 1)) (xs (6 * t + 2)) (xs (6 * t + 3)) (xs (6 * t + 4)) (xs (6 * t + 5))) = 0
    · rw [(hok0 hV).2]
      exact ⟨(j2 hV).2, hM⟩
    · rw [hno hV]
      exact ⟨j3 hV, hM⟩
  refine lv_istore (lv' := [(6, .int ra), (5, .int rr), (4, .int (nI (6 * t))), (3, .ref oa), (2, .ref ((ad2 0))), (1, .ref (ad (10, 0))), (0, .ref b)]) hx hb dL_law_203 hl (by decide) rfl (fun ls hl => ?_)
  refine lv_aload_n hx hb dL_law_205 rfl (lv_at hl 4 rfl) ?_
  refine callY_i hP (va_runV (As := []) (rest := []) ⟨hx, hb, hml, hown, hts⟩ (qX4_thrown l dC dI cy ad2 vv.1 vv.2.1 vv.2.2.1 vv.2.2.2 H.size) (cwV 0 hts gL_law_X4_thrown rfl rfl rfl (by decide +kernel) ⟨Nat.le_of_ble_eq_true rfl, Nat.le_of_ble_eq_true rfl⟩) (preV hK (w_leftP hP) (w_leftD hD) (w_recv (ci := 5) (q0 := 0) hK (w_leftP hP) rfl rfl)) rfl rfl hl.1 rfl (lv_room (Nat.le_of_ble_eq_true rfl)) dL_law_206 ⟨by show _ ≤ 601024; omega, by show _ ≤ 7293034; omega⟩) hD hS hA (fun rt v2 H locs hw3 hP hD hS => ?_)
  obtain ⟨et, ev2⟩ := hw3
  have ev3 : vv = v2 := ev2.symm
  subst ev3
  have hP := w_swP hP
  have hD := w_swD hD
  refine lv_iload hx hb dL_law_209 (lv_at hl 1 rfl) ?_
  refine lv_icmp_eq (tgt := 216) hx hb dL_law_211 (by decide) (fun _ => ?_) (fun h9 => absurd ((et.trans j1).trans er.symm) h9)
  refine lv_iload hx hb dL_law_216 (lv_at hl 1 rfl) ?_
  refine lv_if_ne (tgt := 233) hx hb dL_law_218 (by decide) (fun h8 => ?_) (fun h8 => ?_)
  · refine lv_goto (tgt := 1303) hx hb dL_law_233 (by decide) ?_
    exact va_forget (fun q hq => hS.2.2 q hq) (W.widen (k := cells + 100) (n := slots + 5000) (by omega) (by omega) (kk H _ _ _ ⟨hP, hD, ⟨hS.1, hS.2.1, fun _ h => by cases h⟩, hokU, hJ2.1, hJ2.2⟩ (by rw [show lvL b oa t ul.1.1 ad2 = lvL b oa t ad ad2 by unfold lvL; rw [had]]; exact lv_sub hl [2, 3, 4, 5, 6] rfl)))
  · have hV : (V_issue N (xs (6 * t + 1)) (xs (6 * t + 2)) (xs (6 * t + 3)) (xs (6 * t + 4)) (xs (6 * t + 5))) = 0 := V_0 (by unfold V_issue; (repeat' split) <;> omega) (er.symm.trans h8)
    have eo : ul.2 0 = (nI (N 1 0 (ix (xs (6 * t + 1))) + 1)).toInt64 := (hok0 hV).1
    have er2 : ra = nI (N 1 0 (ix (xs (6 * t + 1))) + 1) := (j2 hV).1
    refine lv_aload_n hx hb dL_law_221 rfl (lv_at hl 3 rfl) ?_
    refine lv_iconst (v := nI 0) hx hb dL_law_222 (by decide) ?_
    refine va_lald hx hb hK (w_leftP hP) (pl ul.1.2.1 ul.1.1 (cc cy e0 ul.1.1 ul.1.2.2.1 ul.1.2.2.2)).length 5 (app_r (k := 0) rfl) rfl (vp_in_nI (show 0 < 1 by decide) (by decide)) dL_law_223 ?_
    rw [nI_clamp (by decide)]
    refine lv_iload hx hb dL_law_224 (lv_at hl 0 rfl) ?_
    refine lv_i2l hx hb dL_law_226 rfl ?_
    refine W.lcmp hx hb dL_law_227 ?_
    refine to_i (y := 0) (by rw [eo, er2]; exact cmp_rf _) ?_
    refine lv_if_eq (tgt := 233) hx hb dL_law_228 (by decide) (fun _ => ?_) (fun h9 => absurd rfl h9)
    refine lv_goto (tgt := 1303) hx hb dL_law_233 (by decide) ?_
    exact va_forget (fun q hq => hS.2.2 q hq) (W.widen (k := cells + 100) (n := slots + 5000) (by omega) (by omega) (kk H _ _ _ ⟨hP, hD, ⟨hS.1, hS.2.1, fun _ h => by cases h⟩, hokU, hJ2.1, hJ2.2⟩ (by rw [show lvL b oa t ul.1.1 ad2 = lvL b oa t ad ad2 by unfold lvL; rw [had]]; exact lv_sub hl [2, 3, 4, 5, 6] rfl)))

set_option maxHeartbeats 4000000 in
set_option maxRecDepth 100000 in
theorem s_relate {p : Program} {l : Launch} {e : Env} {s : State} {m : MethodId} {below : List Frame} {meth : Method} {c : Code} {b Ls : Nat} {xs : Nat → Int32} {dC : Nat → ClassId} {dI : Nat → Nat → Nat} {cy : Nat → ClassId} {e0 mi oa : Nat} {ad : Lc → Nat} {L : List Lc} {S : SS} {N : NN} {f0 : Nat → Int64} {ad2 : Nat → Nat} {F : Nat → Int32} {C : Nat → Nat} {R : Nat → Nat → Int32} {T : Nat → Nat → Nat} {H : Heap} {ls : Array Slot} {t cells slots : Nat} {Q : State → Prop}
    (hF : LF p l s m c b Ls xs dC dI cy e0 mi) (hLs : Ls ≤ 3072) (ht : 6 * t + 6 ≤ Ls) (hc : cells + 100 ≤ 601024) (hsl : slots + 5000 ≤ 7293034) (hI0 : LI dC dI cy e0 oa ad2 s H ((ad, L, S, N), f0) (F, C, R, T)) (hl : lv_has ls 7 (lvL b oa t ad ad2))
    (kk : ∀ (H : Heap) (u : LU) (v : MS) (ls : Array Slot), LI dC dI cy e0 oa ad2 s H u v → lv_has ls 7 (lvL b oa t u.1.1 ad2) → W p l e room_1 s m (#[Value.ref b] : Array Value) below meth c H [] (cells + 100) (slots + 5000) Q (F0 m 1303 ls [])) :
    W p l e room_1 s m (#[Value.ref b] : Array Value) below meth c H [] cells slots Q (F0 m 236 ls []) := by
  obtain ⟨hx, hb, hml, hown, hts, hXs, hbl, hK, ham, hst⟩ := hF
  obtain ⟨hP, hD, hS, ⟨hI, hX⟩, hJ, hM⟩ := hI0
  have hN := okS_of hI
  obtain ⟨q9, q14, qT, qV, qC, qn⟩ := JJ_T hJ hN
  have hA : ∀ q, s.heap.size ≤ q → freshA s q := fun q h => h
  have hbA : ¬ freshA s b := fun h => Nat.lt_irrefl _ (Nat.lt_of_lt_of_le hbl h)
  have hP : va_P (dC, dI) vwCl ((cw cy e0 ad L S N ++ [(oa, .inl (cy 5, 1, .inr (.inl f0)))]) ++ mwU ad2 cy (F, C, R, T)) H := hP
  have hD : va_D (freshA s) ((cw cy e0 ad L S N ++ [(oa, .inl (cy 5, 1, .inr (.inl f0)))]) ++ mwU ad2 cy (F, C, R, T)) := hD
  refine lv_aload_n hx hb dL_law_236 rfl (lv_at hl 3 rfl) ?_
  refine lv_aload_n hx hb dL_law_237 rfl (lv_at hl 4 rfl) ?_
  refine lv_iload hx hb dL_law_238 (lv_at hl 0 rfl) ?_
  refine lv_iconst (v := nI 1) hx hb dL_law_240 (by decide) ?_
  refine lv_iadd hx hb dL_law_241 ?_
  refine to_i (y := nI ((6 * t) + 1)) (nI_add _ _) ?_
  refine va_sld hx hb hXs hbl hbA hS (i := nI (6 * t + 1)) (vp_in_nI (show 6 * t + 1 < Ls by omega) (by omega)) dL_law_242 ?_
  refine to_i (y := xs (6 * t + 1)) (by rw [nI_clamp (show 6 * t + 1 < 2 ^ 31 by omega)]) ?_
  refine lv_aload_n hx hb dL_law_243 rfl (lv_at hl 4 rfl) ?_
  refine lv_iload hx hb dL_law_244 (lv_at hl 0 rfl) ?_
  refine lv_iconst (v := nI 2) hx hb dL_law_246 (by decide) ?_
  refine lv_iadd hx hb dL_law_247 ?_
  refine to_i (y := nI ((6 * t) + 2)) (nI_add _ _) ?_
  refine va_sld hx hb hXs hbl hbA hS (i := nI (6 * t + 2)) (vp_in_nI (show 6 * t + 2 < Ls by omega) (by omega)) dL_law_248 ?_
  refine to_i (y := xs (6 * t + 2)) (by rw [nI_clamp (show 6 * t + 2 < 2 ^ 31 by omega)]) ?_
  refine lv_aload_n hx hb dL_law_249 rfl (lv_at hl 4 rfl) ?_
  refine lv_iload hx hb dL_law_250 (lv_at hl 0 rfl) ?_
  refine lv_iconst (v := nI 3) hx hb dL_law_252 (by decide) ?_
  refine lv_iadd hx hb dL_law_253 ?_
  refine to_i (y := nI ((6 * t) + 3)) (nI_add _ _) ?_
  refine va_sld hx hb hXs hbl hbA hS (i := nI (6 * t + 3)) (vp_in_nI (show 6 * t + 3 < Ls by omega) (by omega)) dL_law_254 ?_
  refine to_i (y := xs (6 * t + 3)) (by rw [nI_clamp (show 6 * t + 3 < 2 ^ 31 by omega)]) ?_
  refine callY_i hP (vx_runSW (As := [.ref (ad (10, 0)), .int (xs (6 * t + 1)), .int (xs (6 * t + 2)), .int (xs (6 * t + 3))]) (rest := []) ⟨hx, hb, hml, hown, hts⟩ (qL_relate l dC dI cy e0 mi oa ad L S N f0 H.size (xs (6 * t + 1)) (xs (6 * t + 2)) (xs (6 * t + 3)) hI hX hst) (vx_cwSW 4 hts gL_law_L_relate rfl rfl rfl (by decide +kernel) ⟨Nat.le_of_ble_eq_true rfl, Nat.le_of_ble_eq_true rfl⟩) (preLS hK (w_leftP hP) (w_leftD hD) hS hA ham) rfl rfl hl.1 rfl (lv_room (Nat.le_of_ble_eq_true rfl)) dL_law_255 ⟨by show _ ≤ 601024; omega, by show _ ≤ 7293034; omega⟩) hD hS hA (fun rr ul H locs hw hP hD hS => ?_)
  obtain ⟨er, hok0, hno, hokU, had⟩ := hw
  refine lv_istore (lv' := [(5, .int rr), (4, .int (nI (6 * t))), (3, .ref oa), (2, .ref ((ad2 0))), (1, .ref (ad (10, 0))), (0, .ref b)]) hx hb dL_law_258 hl (by decide) rfl (fun ls hl => ?_)
  refine lv_aload_n hx hb dL_law_260 rfl (lv_at hl 3 rfl) ?_
  refine lv_aload_n hx hb dL_law_261 rfl (lv_at hl 5 rfl) ?_
  refine lv_iload hx hb dL_law_262 (lv_at hl 1 rfl) ?_
  refine lv_iconst (v := nI 1) hx hb dL_law_264 (by decide) ?_
  refine lv_iadd hx hb dL_law_265 ?_
  refine to_i (y := nI ((6 * t) + 1)) (nI_add _ _) ?_
  refine va_sld hx hb hXs hbl hbA hS (i := nI (6 * t + 1)) (vp_in_nI (show 6 * t + 1 < Ls by omega) (by omega)) dL_law_266 ?_
  refine to_i (y := xs (6 * t + 1)) (by rw [nI_clamp (show 6 * t + 1 < 2 ^ 31 by omega)]) ?_
  refine lv_aload_n hx hb dL_law_267 rfl (lv_at hl 5 rfl) ?_
  refine lv_iload hx hb dL_law_268 (lv_at hl 1 rfl) ?_
  refine lv_iconst (v := nI 2) hx hb dL_law_270 (by decide) ?_
  refine lv_iadd hx hb dL_law_271 ?_
  refine to_i (y := nI ((6 * t) + 2)) (nI_add _ _) ?_
  refine va_sld hx hb hXs hbl hbA hS (i := nI (6 * t + 2)) (vp_in_nI (show 6 * t + 2 < Ls by omega) (by omega)) dL_law_272 ?_
  refine to_i (y := xs (6 * t + 2)) (by rw [nI_clamp (show 6 * t + 2 < 2 ^ 31 by omega)]) ?_
  refine lv_aload_n hx hb dL_law_273 rfl (lv_at hl 5 rfl) ?_
  refine lv_iload hx hb dL_law_274 (lv_at hl 1 rfl) ?_
  refine lv_iconst (v := nI 3) hx hb dL_law_276 (by decide) ?_
  refine lv_iadd hx hb dL_law_277 ?_
  refine to_i (y := nI ((6 * t) + 3)) (nI_add _ _) ?_
  refine va_sld hx hb hXs hbl hbA hS (i := nI (6 * t + 3)) (vp_in_nI (show 6 * t + 3 < Ls by omega) (by omega)) dL_law_278 ?_
  refine to_i (y := xs (6 * t + 3)) (by rw [nI_clamp (show 6 * t + 3 < 2 ^ 31 by omega)]) ?_
  have hPm := w_swP hP
  have hDm := w_swD hD
  refine callY_v hPm (va_runV (As := [.int (xs (6 * t + 1)), .int (xs (6 * t + 2)), .int (xs (6 * t + 3))]) (rest := []) ⟨hx, hb, hml, hown, hts⟩ (qX4_relate l dC dI cy ad2 F C R T H.size (xs (6 * t + 1)) (xs (6 * t + 2)) (xs (6 * t + 3)) ) (cwV 3 hts gL_law_X4_relate rfl rfl rfl (by decide +kernel) ⟨Nat.le_of_ble_eq_true rfl, Nat.le_of_ble_eq_true rfl⟩) (preV hK (w_leftP hPm) (w_leftD hDm) (w_recv (ci := 5) (q0 := 0) hK (w_leftP hPm) rfl rfl)) rfl rfl hl.1 rfl (lv_room (Nat.le_of_ble_eq_true rfl)) dL_law_279 ⟨by show _ ≤ 601024; omega, by show _ ≤ 7293034; omega⟩) hDm hS hA (fun vv H locs hw2 hP hD hS => ?_)
  have ev : vv = M_relate F C R T (xs (6 * t + 1)) (xs (6 * t + 2)) (xs (6 * t + 3)) := hw2
  obtain ⟨j1, j2, j3⟩ := j_relate hJ (xs (6 * t + 1)) (xs (6 * t + 2)) (xs (6 * t + 3))
  rw [← ev] at j1 j2 j3
  have hJ2 : JJ ul.1.2.2 vv ∧ jM ul.1.2.2 := by
    by_cases hV : (V_relate (xs (6 * t + 1)) (xs (6 * t + 2)) (xs (6 * t + 3))) = 0
    · rw [hok0 hV]
      exact ⟨j2 hV, hM⟩
    · rw [hno hV]
      exact ⟨j3 hV, hM⟩
  refine lv_aload_n hx hb dL_law_282 rfl (lv_at hl 3 rfl) ?_
  refine callY_i hP (va_runV (As := []) (rest := []) ⟨hx, hb, hml, hown, hts⟩ (qX4_thrown l dC dI cy ad2 vv.1 vv.2.1 vv.2.2.1 vv.2.2.2 H.size) (cwV 0 hts gL_law_X4_thrown rfl rfl rfl (by decide +kernel) ⟨Nat.le_of_ble_eq_true rfl, Nat.le_of_ble_eq_true rfl⟩) (preV hK (w_leftP hP) (w_leftD hD) (w_recv (ci := 5) (q0 := 0) hK (w_leftP hP) rfl rfl)) rfl rfl hl.1 rfl (lv_room (Nat.le_of_ble_eq_true rfl)) dL_law_283 ⟨by show _ ≤ 601024; omega, by show _ ≤ 7293034; omega⟩) hD hS hA (fun rt v2 H locs hw3 hP hD hS => ?_)
  obtain ⟨et, ev2⟩ := hw3
  have ev3 : vv = v2 := ev2.symm
  subst ev3
  have hP := w_swP hP
  have hD := w_swD hD
  refine lv_iload hx hb dL_law_286 (lv_at hl 0 rfl) ?_
  refine lv_icmp_eq (tgt := 293) hx hb dL_law_288 (by decide) (fun _ => ?_) (fun h9 => absurd ((et.trans j1).trans er.symm) h9)
  refine lv_goto (tgt := 1303) hx hb dL_law_293 (by decide) ?_
  exact va_forget (fun q hq => hS.2.2 q hq) (W.widen (k := cells + 100) (n := slots + 5000) (by omega) (by omega) (kk H _ _ _ ⟨hP, hD, ⟨hS.1, hS.2.1, fun _ h => by cases h⟩, hokU, hJ2.1, hJ2.2⟩ (by rw [show lvL b oa t ul.1.1 ad2 = lvL b oa t ad ad2 by unfold lvL; rw [had]]; exact lv_sub hl [1, 2, 3, 4, 5] rfl)))

set_option maxHeartbeats 4000000 in
set_option maxRecDepth 100000 in
theorem s_latest {p : Program} {l : Launch} {e : Env} {s : State} {m : MethodId} {below : List Frame} {meth : Method} {c : Code} {b Ls : Nat} {xs : Nat → Int32} {dC : Nat → ClassId} {dI : Nat → Nat → Nat} {cy : Nat → ClassId} {e0 mi oa : Nat} {ad : Lc → Nat} {L : List Lc} {S : SS} {N : NN} {f0 : Nat → Int64} {ad2 : Nat → Nat} {F : Nat → Int32} {C : Nat → Nat} {R : Nat → Nat → Int32} {T : Nat → Nat → Nat} {H : Heap} {ls : Array Slot} {t cells slots : Nat} {Q : State → Prop}
    (hF : LF p l s m c b Ls xs dC dI cy e0 mi) (hLs : Ls ≤ 3072) (ht : 6 * t + 6 ≤ Ls) (hc : cells + 100 ≤ 601024) (hsl : slots + 5000 ≤ 7293034) (hI0 : LI dC dI cy e0 oa ad2 s H ((ad, L, S, N), f0) (F, C, R, T)) (hl : lv_has ls 7 (lvL b oa t ad ad2))
    (kk : ∀ (H : Heap) (u : LU) (v : MS) (ls : Array Slot), LI dC dI cy e0 oa ad2 s H u v → lv_has ls 7 (lvL b oa t u.1.1 ad2) → W p l e room_1 s m (#[Value.ref b] : Array Value) below meth c H [] (cells + 100) (slots + 5000) Q (F0 m 1303 ls [])) :
    W p l e room_1 s m (#[Value.ref b] : Array Value) below meth c H [] cells slots Q (F0 m 296 ls []) := by
  obtain ⟨hx, hb, hml, hown, hts, hXs, hbl, hK, ham, hst⟩ := hF
  obtain ⟨hP, hD, hS, ⟨hI, hX⟩, hJ, hM⟩ := hI0
  have hN := okS_of hI
  obtain ⟨q9, q14, qT, qV, qC, qn⟩ := JJ_T hJ hN
  have hA : ∀ q, s.heap.size ≤ q → freshA s q := fun q h => h
  have hbA : ¬ freshA s b := fun h => Nat.lt_irrefl _ (Nat.lt_of_lt_of_le hbl h)
  have hP : va_P (dC, dI) vwCl ((cw cy e0 ad L S N ++ [(oa, .inl (cy 5, 1, .inr (.inl f0)))]) ++ mwU ad2 cy (F, C, R, T)) H := hP
  have hD : va_D (freshA s) ((cw cy e0 ad L S N ++ [(oa, .inl (cy 5, 1, .inr (.inl f0)))]) ++ mwU ad2 cy (F, C, R, T)) := hD
  refine lv_aload_n hx hb dL_law_296 rfl (lv_at hl 3 rfl) ?_
  refine lv_aload_n hx hb dL_law_297 rfl (lv_at hl 4 rfl) ?_
  refine lv_iload hx hb dL_law_298 (lv_at hl 0 rfl) ?_
  refine lv_iconst (v := nI 1) hx hb dL_law_300 (by decide) ?_
  refine lv_iadd hx hb dL_law_301 ?_
  refine to_i (y := nI ((6 * t) + 1)) (nI_add _ _) ?_
  refine va_sld hx hb hXs hbl hbA hS (i := nI (6 * t + 1)) (vp_in_nI (show 6 * t + 1 < Ls by omega) (by omega)) dL_law_302 ?_
  refine to_i (y := xs (6 * t + 1)) (by rw [nI_clamp (show 6 * t + 1 < 2 ^ 31 by omega)]) ?_
  refine lv_aload_n hx hb dL_law_303 rfl (lv_at hl 1 rfl) ?_
  refine callY_i hP (vx_runSW (As := [.ref (ad (10, 0)), .int (xs (6 * t + 1)), .ref oa]) (rest := []) ⟨hx, hb, hml, hown, hts⟩ (qL_latest l dC dI cy e0 mi oa ad L S N f0 H.size (xs (6 * t + 1)) hI hX hst) (vx_cwSW 3 hts gL_law_L_latest rfl rfl rfl (by decide +kernel) ⟨Nat.le_of_ble_eq_true rfl, Nat.le_of_ble_eq_true rfl⟩) (preLS hK (w_leftP hP) (w_leftD hD) hS hA ham) rfl rfl hl.1 rfl (lv_room (Nat.le_of_ble_eq_true rfl)) dL_law_304 ⟨by show _ ≤ 601024; omega, by show _ ≤ 7293034; omega⟩) hD hS hA (fun rr ul H locs hw hP hD hS => ?_)
  obtain ⟨er, hok0, hno, hokU, had⟩ := hw
  refine lv_istore (lv' := [(5, .int rr), (4, .int (nI (6 * t))), (3, .ref oa), (2, .ref ((ad2 0))), (1, .ref (ad (10, 0))), (0, .ref b)]) hx hb dL_law_307 hl (by decide) rfl (fun ls hl => ?_)
  refine lv_aload_n hx hb dL_law_309 rfl (lv_at hl 3 rfl) ?_
  refine lv_aload_n hx hb dL_law_310 rfl (lv_at hl 5 rfl) ?_
  refine lv_iload hx hb dL_law_311 (lv_at hl 1 rfl) ?_
  refine lv_iconst (v := nI 1) hx hb dL_law_313 (by decide) ?_
  refine lv_iadd hx hb dL_law_314 ?_
  refine to_i (y := nI ((6 * t) + 1)) (nI_add _ _) ?_
  refine va_sld hx hb hXs hbl hbA hS (i := nI (6 * t + 1)) (vp_in_nI (show 6 * t + 1 < Ls by omega) (by omega)) dL_law_315 ?_
  refine to_i (y := xs (6 * t + 1)) (by rw [nI_clamp (show 6 * t + 1 < 2 ^ 31 by omega)]) ?_
  have hPm := w_swP hP
  have hDm := w_swD hD
  refine callY_i hPm (va_runV (As := [.int (xs (6 * t + 1))]) (rest := []) ⟨hx, hb, hml, hown, hts⟩ (qX4_latest l dC dI cy ad2 F C R T H.size (xs (6 * t + 1)) ) (cwV 1 hts gL_law_X4_latest rfl rfl rfl (by decide +kernel) ⟨Nat.le_of_ble_eq_true rfl, Nat.le_of_ble_eq_true rfl⟩) (preV hK (w_leftP hPm) (w_leftD hDm) (w_recv (ci := 5) (q0 := 0) hK (w_leftP hPm) rfl rfl)) rfl rfl hl.1 rfl (lv_room (Nat.le_of_ble_eq_true rfl)) dL_law_316 ⟨by show _ ≤ 601024; omega, by show _ ≤ 7293034; omega⟩) hDm hS hA (fun ra vv H locs hw2 hP hD hS => ?_)
  have ev : vv = (M_latest F C R T (xs (6 * t + 1))).2 := congrArg Prod.snd hw2
  have ea : ra = (M_latest F C R T (xs (6 * t + 1))).1 := congrArg Prod.fst hw2
  obtain ⟨j1, j2, j3⟩ := j_latest hJ (xs (6 * t + 1))
  rw [← ev] at j1 j2 j3
  rw [← ea] at j2
  have hJ2 : JJ ul.1.2.2 vv ∧ jM ul.1.2.2 := by
    by_cases hV : (V_latest (xs (6 * t + 1))) = 0
    · rw [(hok0 hV).2]
      exact ⟨(j2 hV).2, hM⟩
    · rw [hno hV]
      exact ⟨j3 hV, hM⟩
  refine lv_istore (lv' := [(6, .int ra), (5, .int rr), (4, .int (nI (6 * t))), (3, .ref oa), (2, .ref ((ad2 0))), (1, .ref (ad (10, 0))), (0, .ref b)]) hx hb dL_law_319 hl (by decide) rfl (fun ls hl => ?_)
  refine lv_aload_n hx hb dL_law_321 rfl (lv_at hl 4 rfl) ?_
  refine callY_i hP (va_runV (As := []) (rest := []) ⟨hx, hb, hml, hown, hts⟩ (qX4_thrown l dC dI cy ad2 vv.1 vv.2.1 vv.2.2.1 vv.2.2.2 H.size) (cwV 0 hts gL_law_X4_thrown rfl rfl rfl (by decide +kernel) ⟨Nat.le_of_ble_eq_true rfl, Nat.le_of_ble_eq_true rfl⟩) (preV hK (w_leftP hP) (w_leftD hD) (w_recv (ci := 5) (q0 := 0) hK (w_leftP hP) rfl rfl)) rfl rfl hl.1 rfl (lv_room (Nat.le_of_ble_eq_true rfl)) dL_law_322 ⟨by show _ ≤ 601024; omega, by show _ ≤ 7293034; omega⟩) hD hS hA (fun rt v2 H locs hw3 hP hD hS => ?_)
  obtain ⟨et, ev2⟩ := hw3
  have ev3 : vv = v2 := ev2.symm
  subst ev3
  have hP := w_swP hP
  have hD := w_swD hD
  refine lv_iload hx hb dL_law_325 (lv_at hl 1 rfl) ?_
  refine lv_icmp_eq (tgt := 332) hx hb dL_law_327 (by decide) (fun _ => ?_) (fun h9 => absurd ((et.trans j1).trans er.symm) h9)
  refine lv_iload hx hb dL_law_332 (lv_at hl 1 rfl) ?_
  refine lv_if_ne (tgt := 349) hx hb dL_law_334 (by decide) (fun h8 => ?_) (fun h8 => ?_)
  · refine lv_goto (tgt := 1303) hx hb dL_law_349 (by decide) ?_
    exact va_forget (fun q hq => hS.2.2 q hq) (W.widen (k := cells + 100) (n := slots + 5000) (by omega) (by omega) (kk H _ _ _ ⟨hP, hD, ⟨hS.1, hS.2.1, fun _ h => by cases h⟩, hokU, hJ2.1, hJ2.2⟩ (by rw [show lvL b oa t ul.1.1 ad2 = lvL b oa t ad ad2 by unfold lvL; rw [had]]; exact lv_sub hl [2, 3, 4, 5, 6] rfl)))
  · have hV : (V_latest (xs (6 * t + 1))) = 0 := V_0 (by unfold V_latest; (repeat' split) <;> omega) (er.symm.trans h8)
    have eo : ul.2 0 = (nI (N 1 0 (ix (xs (6 * t + 1))))).toInt64 := (hok0 hV).1
    have er2 : ra = nI (N 1 0 (ix (xs (6 * t + 1)))) := (j2 hV).1
    refine lv_aload_n hx hb dL_law_337 rfl (lv_at hl 3 rfl) ?_
    refine lv_iconst (v := nI 0) hx hb dL_law_338 (by decide) ?_
    refine va_lald hx hb hK (w_leftP hP) (pl ul.1.2.1 ul.1.1 (cc cy e0 ul.1.1 ul.1.2.2.1 ul.1.2.2.2)).length 5 (app_r (k := 0) rfl) rfl (vp_in_nI (show 0 < 1 by decide) (by decide)) dL_law_339 ?_
    rw [nI_clamp (by decide)]
    refine lv_iload hx hb dL_law_340 (lv_at hl 0 rfl) ?_
    refine lv_i2l hx hb dL_law_342 rfl ?_
    refine W.lcmp hx hb dL_law_343 ?_
    refine to_i (y := 0) (by rw [eo, er2]; exact cmp_rf _) ?_
    refine lv_if_eq (tgt := 349) hx hb dL_law_344 (by decide) (fun _ => ?_) (fun h9 => absurd rfl h9)
    refine lv_goto (tgt := 1303) hx hb dL_law_349 (by decide) ?_
    exact va_forget (fun q hq => hS.2.2 q hq) (W.widen (k := cells + 100) (n := slots + 5000) (by omega) (by omega) (kk H _ _ _ ⟨hP, hD, ⟨hS.1, hS.2.1, fun _ h => by cases h⟩, hokU, hJ2.1, hJ2.2⟩ (by rw [show lvL b oa t ul.1.1 ad2 = lvL b oa t ad ad2 by unfold lvL; rw [had]]; exact lv_sub hl [2, 3, 4, 5, 6] rfl)))

set_option maxHeartbeats 4000000 in
set_option maxRecDepth 100000 in
theorem s_begin {p : Program} {l : Launch} {e : Env} {s : State} {m : MethodId} {below : List Frame} {meth : Method} {c : Code} {b Ls : Nat} {xs : Nat → Int32} {dC : Nat → ClassId} {dI : Nat → Nat → Nat} {cy : Nat → ClassId} {e0 mi oa : Nat} {ad : Lc → Nat} {L : List Lc} {S : SS} {N : NN} {f0 : Nat → Int64} {ad2 : Nat → Nat} {F : Nat → Int32} {C : Nat → Nat} {R : Nat → Nat → Int32} {T : Nat → Nat → Nat} {H : Heap} {ls : Array Slot} {t cells slots : Nat} {Q : State → Prop}
    (hF : LF p l s m c b Ls xs dC dI cy e0 mi) (hLs : Ls ≤ 3072) (ht : 6 * t + 6 ≤ Ls) (hc : cells + 100 ≤ 601024) (hsl : slots + 5000 ≤ 7293034) (hI0 : LI dC dI cy e0 oa ad2 s H ((ad, L, S, N), f0) (F, C, R, T)) (hl : lv_has ls 7 (lvL b oa t ad ad2))
    (kk : ∀ (H : Heap) (u : LU) (v : MS) (ls : Array Slot), LI dC dI cy e0 oa ad2 s H u v → lv_has ls 7 (lvL b oa t u.1.1 ad2) → W p l e room_1 s m (#[Value.ref b] : Array Value) below meth c H [] (cells + 100) (slots + 5000) Q (F0 m 1303 ls [])) :
    W p l e room_1 s m (#[Value.ref b] : Array Value) below meth c H [] cells slots Q (F0 m 352 ls []) := by
  obtain ⟨hx, hb, hml, hown, hts, hXs, hbl, hK, ham, hst⟩ := hF
  obtain ⟨hP, hD, hS, ⟨hI, hX⟩, hJ, hM⟩ := hI0
  have hN := okS_of hI
  obtain ⟨q9, q14, qT, qV, qC, qn⟩ := JJ_T hJ hN
  have hA : ∀ q, s.heap.size ≤ q → freshA s q := fun q h => h
  have hbA : ¬ freshA s b := fun h => Nat.lt_irrefl _ (Nat.lt_of_lt_of_le hbl h)
  have hP : va_P (dC, dI) vwCl ((cw cy e0 ad L S N ++ [(oa, .inl (cy 5, 1, .inr (.inl f0)))]) ++ mwU ad2 cy (F, C, R, T)) H := hP
  have hD : va_D (freshA s) ((cw cy e0 ad L S N ++ [(oa, .inl (cy 5, 1, .inr (.inl f0)))]) ++ mwU ad2 cy (F, C, R, T)) := hD
  refine lv_aload_n hx hb dL_law_352 rfl (lv_at hl 3 rfl) ?_
  refine lv_aload_n hx hb dL_law_353 rfl (lv_at hl 1 rfl) ?_
  refine callY_i hP (vx_runSW (As := [.ref (ad (10, 0)), .ref oa]) (rest := []) ⟨hx, hb, hml, hown, hts⟩ (qL_begin l dC dI cy e0 mi oa ad L S N f0 H.size  hI hX hst) (vx_cwSW 2 hts gL_law_L_begin rfl rfl rfl (by decide +kernel) ⟨Nat.le_of_ble_eq_true rfl, Nat.le_of_ble_eq_true rfl⟩) (preLS hK (w_leftP hP) (w_leftD hD) hS hA ham) rfl rfl hl.1 rfl (lv_room (Nat.le_of_ble_eq_true rfl)) dL_law_354 ⟨by show _ ≤ 601024; omega, by show _ ≤ 7293034; omega⟩) hD hS hA (fun rr ul H locs hw hP hD hS => ?_)
  obtain ⟨er, hok0, hno, hokU, had⟩ := hw
  refine lv_istore (lv' := [(5, .int rr), (4, .int (nI (6 * t))), (3, .ref oa), (2, .ref ((ad2 0))), (1, .ref (ad (10, 0))), (0, .ref b)]) hx hb dL_law_357 hl (by decide) rfl (fun ls hl => ?_)
  refine lv_aload_n hx hb dL_law_359 rfl (lv_at hl 3 rfl) ?_
  have hPm := w_swP hP
  have hDm := w_swD hD
  refine callY_i hPm (va_runV (As := []) (rest := []) ⟨hx, hb, hml, hown, hts⟩ (qX4_begin l dC dI cy ad2 F C R T H.size  q9) (cwV 0 hts gL_law_X4_begin rfl rfl rfl (by decide +kernel) ⟨Nat.le_of_ble_eq_true rfl, Nat.le_of_ble_eq_true rfl⟩) (preV hK (w_leftP hPm) (w_leftD hDm) (w_recv (ci := 5) (q0 := 0) hK (w_leftP hPm) rfl rfl)) rfl rfl hl.1 rfl (lv_room (Nat.le_of_ble_eq_true rfl)) dL_law_360 ⟨by show _ ≤ 601024; omega, by show _ ≤ 7293034; omega⟩) hDm hS hA (fun ra vv H locs hw2 hP hD hS => ?_)
  have ev : vv = (M_begin F C R T).2 := congrArg Prod.snd hw2
  have ea : ra = (M_begin F C R T).1 := congrArg Prod.fst hw2
  obtain ⟨j1, j2, j3⟩ := j_begin hJ hN
  rw [← ev] at j1 j2 j3
  rw [← ea] at j2
  have hJ2 : JJ ul.1.2.2 vv ∧ jM ul.1.2.2 := by
    by_cases hV : (V_begin N) = 0
    · rw [(hok0 hV).2]
      exact ⟨(j2 hV).2, m_begin hJ.2.2.2.1 hM⟩
    · rw [hno hV]
      exact ⟨j3 hV, hM⟩
  refine lv_istore (lv' := [(6, .int ra), (5, .int rr), (4, .int (nI (6 * t))), (3, .ref oa), (2, .ref ((ad2 0))), (1, .ref (ad (10, 0))), (0, .ref b)]) hx hb dL_law_363 hl (by decide) rfl (fun ls hl => ?_)
  refine lv_aload_n hx hb dL_law_365 rfl (lv_at hl 4 rfl) ?_
  refine callY_i hP (va_runV (As := []) (rest := []) ⟨hx, hb, hml, hown, hts⟩ (qX4_thrown l dC dI cy ad2 vv.1 vv.2.1 vv.2.2.1 vv.2.2.2 H.size) (cwV 0 hts gL_law_X4_thrown rfl rfl rfl (by decide +kernel) ⟨Nat.le_of_ble_eq_true rfl, Nat.le_of_ble_eq_true rfl⟩) (preV hK (w_leftP hP) (w_leftD hD) (w_recv (ci := 5) (q0 := 0) hK (w_leftP hP) rfl rfl)) rfl rfl hl.1 rfl (lv_room (Nat.le_of_ble_eq_true rfl)) dL_law_366 ⟨by show _ ≤ 601024; omega, by show _ ≤ 7293034; omega⟩) hD hS hA (fun rt v2 H locs hw3 hP hD hS => ?_)
  obtain ⟨et, ev2⟩ := hw3
  have ev3 : vv = v2 := ev2.symm
  subst ev3
  have hP := w_swP hP
  have hD := w_swD hD
  refine lv_iload hx hb dL_law_369 (lv_at hl 1 rfl) ?_
  refine lv_icmp_eq (tgt := 376) hx hb dL_law_371 (by decide) (fun _ => ?_) (fun h9 => absurd ((et.trans j1).trans er.symm) h9)
  refine lv_iload hx hb dL_law_376 (lv_at hl 1 rfl) ?_
  refine lv_if_ne (tgt := 393) hx hb dL_law_378 (by decide) (fun h8 => ?_) (fun h8 => ?_)
  · refine lv_goto (tgt := 1303) hx hb dL_law_393 (by decide) ?_
    exact va_forget (fun q hq => hS.2.2 q hq) (W.widen (k := cells + 100) (n := slots + 5000) (by omega) (by omega) (kk H _ _ _ ⟨hP, hD, ⟨hS.1, hS.2.1, fun _ h => by cases h⟩, hokU, hJ2.1, hJ2.2⟩ (by rw [show lvL b oa t ul.1.1 ad2 = lvL b oa t ad ad2 by unfold lvL; rw [had]]; exact lv_sub hl [2, 3, 4, 5, 6] rfl)))
  · have hV : (V_begin N) = 0 := V_0 (by unfold V_begin; (repeat' split) <;> omega) (er.symm.trans h8)
    have eo : ul.2 0 = (nI (N 0 0 0)).toInt64 := (hok0 hV).1
    have er2 : ra = nI (N 0 0 0) := (j2 hV).1
    refine lv_aload_n hx hb dL_law_381 rfl (lv_at hl 3 rfl) ?_
    refine lv_iconst (v := nI 0) hx hb dL_law_382 (by decide) ?_
    refine va_lald hx hb hK (w_leftP hP) (pl ul.1.2.1 ul.1.1 (cc cy e0 ul.1.1 ul.1.2.2.1 ul.1.2.2.2)).length 5 (app_r (k := 0) rfl) rfl (vp_in_nI (show 0 < 1 by decide) (by decide)) dL_law_383 ?_
    rw [nI_clamp (by decide)]
    refine lv_iload hx hb dL_law_384 (lv_at hl 0 rfl) ?_
    refine lv_i2l hx hb dL_law_386 rfl ?_
    refine W.lcmp hx hb dL_law_387 ?_
    refine to_i (y := 0) (by rw [eo, er2]; exact cmp_rf _) ?_
    refine lv_if_eq (tgt := 393) hx hb dL_law_388 (by decide) (fun _ => ?_) (fun h9 => absurd rfl h9)
    refine lv_goto (tgt := 1303) hx hb dL_law_393 (by decide) ?_
    exact va_forget (fun q hq => hS.2.2 q hq) (W.widen (k := cells + 100) (n := slots + 5000) (by omega) (by omega) (kk H _ _ _ ⟨hP, hD, ⟨hS.1, hS.2.1, fun _ h => by cases h⟩, hokU, hJ2.1, hJ2.2⟩ (by rw [show lvL b oa t ul.1.1 ad2 = lvL b oa t ad ad2 by unfold lvL; rw [had]]; exact lv_sub hl [2, 3, 4, 5, 6] rfl)))

set_option maxHeartbeats 4000000 in
set_option maxRecDepth 100000 in
theorem s_mark {p : Program} {l : Launch} {e : Env} {s : State} {m : MethodId} {below : List Frame} {meth : Method} {c : Code} {b Ls : Nat} {xs : Nat → Int32} {dC : Nat → ClassId} {dI : Nat → Nat → Nat} {cy : Nat → ClassId} {e0 mi oa : Nat} {ad : Lc → Nat} {L : List Lc} {S : SS} {N : NN} {f0 : Nat → Int64} {ad2 : Nat → Nat} {F : Nat → Int32} {C : Nat → Nat} {R : Nat → Nat → Int32} {T : Nat → Nat → Nat} {H : Heap} {ls : Array Slot} {t cells slots : Nat} {Q : State → Prop}
    (hF : LF p l s m c b Ls xs dC dI cy e0 mi) (hLs : Ls ≤ 3072) (ht : 6 * t + 6 ≤ Ls) (hc : cells + 100 ≤ 601024) (hsl : slots + 5000 ≤ 7293034) (hI0 : LI dC dI cy e0 oa ad2 s H ((ad, L, S, N), f0) (F, C, R, T)) (hl : lv_has ls 7 (lvL b oa t ad ad2))
    (kk : ∀ (H : Heap) (u : LU) (v : MS) (ls : Array Slot), LI dC dI cy e0 oa ad2 s H u v → lv_has ls 7 (lvL b oa t u.1.1 ad2) → W p l e room_1 s m (#[Value.ref b] : Array Value) below meth c H [] (cells + 100) (slots + 5000) Q (F0 m 1303 ls [])) :
    W p l e room_1 s m (#[Value.ref b] : Array Value) below meth c H [] cells slots Q (F0 m 396 ls []) := by
  obtain ⟨hx, hb, hml, hown, hts, hXs, hbl, hK, ham, hst⟩ := hF
  obtain ⟨hP, hD, hS, ⟨hI, hX⟩, hJ, hM⟩ := hI0
  have hN := okS_of hI
  obtain ⟨q9, q14, qT, qV, qC, qn⟩ := JJ_T hJ hN
  have hA : ∀ q, s.heap.size ≤ q → freshA s q := fun q h => h
  have hbA : ¬ freshA s b := fun h => Nat.lt_irrefl _ (Nat.lt_of_lt_of_le hbl h)
  have hP : va_P (dC, dI) vwCl ((cw cy e0 ad L S N ++ [(oa, .inl (cy 5, 1, .inr (.inl f0)))]) ++ mwU ad2 cy (F, C, R, T)) H := hP
  have hD : va_D (freshA s) ((cw cy e0 ad L S N ++ [(oa, .inl (cy 5, 1, .inr (.inl f0)))]) ++ mwU ad2 cy (F, C, R, T)) := hD
  refine lv_aload_n hx hb dL_law_396 rfl (lv_at hl 3 rfl) ?_
  refine lv_aload_n hx hb dL_law_397 rfl (lv_at hl 4 rfl) ?_
  refine lv_iload hx hb dL_law_398 (lv_at hl 0 rfl) ?_
  refine lv_iconst (v := nI 1) hx hb dL_law_400 (by decide) ?_
  refine lv_iadd hx hb dL_law_401 ?_
  refine to_i (y := nI ((6 * t) + 1)) (nI_add _ _) ?_
  refine va_sld hx hb hXs hbl hbA hS (i := nI (6 * t + 1)) (vp_in_nI (show 6 * t + 1 < Ls by omega) (by omega)) dL_law_402 ?_
  refine to_i (y := xs (6 * t + 1)) (by rw [nI_clamp (show 6 * t + 1 < 2 ^ 31 by omega)]) ?_
  refine lv_aload_n hx hb dL_law_403 rfl (lv_at hl 4 rfl) ?_
  refine lv_iload hx hb dL_law_404 (lv_at hl 0 rfl) ?_
  refine lv_iconst (v := nI 2) hx hb dL_law_406 (by decide) ?_
  refine lv_iadd hx hb dL_law_407 ?_
  refine to_i (y := nI ((6 * t) + 2)) (nI_add _ _) ?_
  refine va_sld hx hb hXs hbl hbA hS (i := nI (6 * t + 2)) (vp_in_nI (show 6 * t + 2 < Ls by omega) (by omega)) dL_law_408 ?_
  refine to_i (y := xs (6 * t + 2)) (by rw [nI_clamp (show 6 * t + 2 < 2 ^ 31 by omega)]) ?_
  refine lv_aload_n hx hb dL_law_409 rfl (lv_at hl 4 rfl) ?_
  refine lv_iload hx hb dL_law_410 (lv_at hl 0 rfl) ?_
  refine lv_iconst (v := nI 3) hx hb dL_law_412 (by decide) ?_
  refine lv_iadd hx hb dL_law_413 ?_
  refine to_i (y := nI ((6 * t) + 3)) (nI_add _ _) ?_
  refine va_sld hx hb hXs hbl hbA hS (i := nI (6 * t + 3)) (vp_in_nI (show 6 * t + 3 < Ls by omega) (by omega)) dL_law_414 ?_
  refine to_i (y := xs (6 * t + 3)) (by rw [nI_clamp (show 6 * t + 3 < 2 ^ 31 by omega)]) ?_
  refine lv_aload_n hx hb dL_law_415 rfl (lv_at hl 4 rfl) ?_
  refine lv_iload hx hb dL_law_416 (lv_at hl 0 rfl) ?_
  refine lv_iconst (v := nI 4) hx hb dL_law_418 (by decide) ?_
  refine lv_iadd hx hb dL_law_419 ?_
  refine to_i (y := nI ((6 * t) + 4)) (nI_add _ _) ?_
  refine va_sld hx hb hXs hbl hbA hS (i := nI (6 * t + 4)) (vp_in_nI (show 6 * t + 4 < Ls by omega) (by omega)) dL_law_420 ?_
  refine to_i (y := xs (6 * t + 4)) (by rw [nI_clamp (show 6 * t + 4 < 2 ^ 31 by omega)]) ?_
  refine lv_aload_n hx hb dL_law_421 rfl (lv_at hl 1 rfl) ?_
  refine callY_i hP (vx_runSW (As := [.ref (ad (10, 0)), .int (xs (6 * t + 1)), .int (xs (6 * t + 2)), .int (xs (6 * t + 3)), .int (xs (6 * t + 4)), .ref oa]) (rest := []) ⟨hx, hb, hml, hown, hts⟩ (qL_mark l dC dI cy e0 mi oa ad L S N f0 H.size (xs (6 * t + 1)) (xs (6 * t + 2)) (xs (6 * t + 3)) (xs (6 * t + 4)) hI hX hst) (vx_cwSW 6 hts gL_law_L_mark rfl rfl rfl (by decide +kernel) ⟨Nat.le_of_ble_eq_true rfl, Nat.le_of_ble_eq_true rfl⟩) (preLS hK (w_leftP hP) (w_leftD hD) hS hA ham) rfl rfl hl.1 rfl (lv_room (Nat.le_of_ble_eq_true rfl)) dL_law_422 ⟨by show _ ≤ 601024; omega, by show _ ≤ 7293034; omega⟩) hD hS hA (fun rr ul H locs hw hP hD hS => ?_)
  obtain ⟨er, hok0, hno, hokU, had⟩ := hw
  refine lv_istore (lv' := [(5, .int rr), (4, .int (nI (6 * t))), (3, .ref oa), (2, .ref ((ad2 0))), (1, .ref (ad (10, 0))), (0, .ref b)]) hx hb dL_law_425 hl (by decide) rfl (fun ls hl => ?_)
  refine lv_aload_n hx hb dL_law_427 rfl (lv_at hl 3 rfl) ?_
  refine lv_aload_n hx hb dL_law_428 rfl (lv_at hl 5 rfl) ?_
  refine lv_iload hx hb dL_law_429 (lv_at hl 1 rfl) ?_
  refine lv_iconst (v := nI 1) hx hb dL_law_431 (by decide) ?_
  refine lv_iadd hx hb dL_law_432 ?_
  refine to_i (y := nI ((6 * t) + 1)) (nI_add _ _) ?_
  refine va_sld hx hb hXs hbl hbA hS (i := nI (6 * t + 1)) (vp_in_nI (show 6 * t + 1 < Ls by omega) (by omega)) dL_law_433 ?_
  refine to_i (y := xs (6 * t + 1)) (by rw [nI_clamp (show 6 * t + 1 < 2 ^ 31 by omega)]) ?_
  refine lv_aload_n hx hb dL_law_434 rfl (lv_at hl 5 rfl) ?_
  refine lv_iload hx hb dL_law_435 (lv_at hl 1 rfl) ?_
  refine lv_iconst (v := nI 2) hx hb dL_law_437 (by decide) ?_
  refine lv_iadd hx hb dL_law_438 ?_
  refine to_i (y := nI ((6 * t) + 2)) (nI_add _ _) ?_
  refine va_sld hx hb hXs hbl hbA hS (i := nI (6 * t + 2)) (vp_in_nI (show 6 * t + 2 < Ls by omega) (by omega)) dL_law_439 ?_
  refine to_i (y := xs (6 * t + 2)) (by rw [nI_clamp (show 6 * t + 2 < 2 ^ 31 by omega)]) ?_
  refine lv_aload_n hx hb dL_law_440 rfl (lv_at hl 5 rfl) ?_
  refine lv_iload hx hb dL_law_441 (lv_at hl 1 rfl) ?_
  refine lv_iconst (v := nI 3) hx hb dL_law_443 (by decide) ?_
  refine lv_iadd hx hb dL_law_444 ?_
  refine to_i (y := nI ((6 * t) + 3)) (nI_add _ _) ?_
  refine va_sld hx hb hXs hbl hbA hS (i := nI (6 * t + 3)) (vp_in_nI (show 6 * t + 3 < Ls by omega) (by omega)) dL_law_445 ?_
  refine to_i (y := xs (6 * t + 3)) (by rw [nI_clamp (show 6 * t + 3 < 2 ^ 31 by omega)]) ?_
  refine lv_aload_n hx hb dL_law_446 rfl (lv_at hl 5 rfl) ?_
  refine lv_iload hx hb dL_law_447 (lv_at hl 1 rfl) ?_
  refine lv_iconst (v := nI 4) hx hb dL_law_449 (by decide) ?_
  refine lv_iadd hx hb dL_law_450 ?_
  refine to_i (y := nI ((6 * t) + 4)) (nI_add _ _) ?_
  refine va_sld hx hb hXs hbl hbA hS (i := nI (6 * t + 4)) (vp_in_nI (show 6 * t + 4 < Ls by omega) (by omega)) dL_law_451 ?_
  refine to_i (y := xs (6 * t + 4)) (by rw [nI_clamp (show 6 * t + 4 < 2 ^ 31 by omega)]) ?_
  have hPm := w_swP hP
  have hDm := w_swD hD
  refine callY_i hPm (va_runV (As := [.int (xs (6 * t + 1)), .int (xs (6 * t + 2)), .int (xs (6 * t + 3)), .int (xs (6 * t + 4))]) (rest := []) ⟨hx, hb, hml, hown, hts⟩ (qX4_mark l dC dI cy ad2 F C R T H.size (xs (6 * t + 1)) (xs (6 * t + 2)) (xs (6 * t + 3)) (xs (6 * t + 4)) q9 qT qV) (cwV 4 hts gL_law_X4_mark rfl rfl rfl (by decide +kernel) ⟨Nat.le_of_ble_eq_true rfl, Nat.le_of_ble_eq_true rfl⟩) (preV hK (w_leftP hPm) (w_leftD hDm) (w_recv (ci := 5) (q0 := 0) hK (w_leftP hPm) rfl rfl)) rfl rfl hl.1 rfl (lv_room (Nat.le_of_ble_eq_true rfl)) dL_law_452 ⟨by show _ ≤ 601024; omega, by show _ ≤ 7293034; omega⟩) hDm hS hA (fun ra vv H locs hw2 hP hD hS => ?_)
  have ev : vv = (M_mark F C R T (xs (6 * t + 1)) (xs (6 * t + 2)) (xs (6 * t + 3)) (xs (6 * t + 4))).2 := congrArg Prod.snd hw2
  have ea : ra = (M_mark F C R T (xs (6 * t + 1)) (xs (6 * t + 2)) (xs (6 * t + 3)) (xs (6 * t + 4))).1 := congrArg Prod.fst hw2
  obtain ⟨⟨j1, j2, j3⟩, jm⟩ := j_mark hJ hN hM (xs (6 * t + 1)) (xs (6 * t + 2)) (xs (6 * t + 3)) (xs (6 * t + 4))
  rw [← ev] at j1 j2 j3
  rw [← ea] at j2
  have hJ2 : JJ ul.1.2.2 vv ∧ jM ul.1.2.2 := by
    by_cases hV : (V_mark S N (xs (6 * t + 1)) (xs (6 * t + 2)) (xs (6 * t + 3)) (xs (6 * t + 4))) = 0
    · rw [(hok0 hV).2]
      exact ⟨(j2 hV).2, jm hV⟩
    · rw [hno hV]
      exact ⟨j3 hV, hM⟩
  refine lv_istore (lv' := [(6, .int ra), (5, .int rr), (4, .int (nI (6 * t))), (3, .ref oa), (2, .ref ((ad2 0))), (1, .ref (ad (10, 0))), (0, .ref b)]) hx hb dL_law_455 hl (by decide) rfl (fun ls hl => ?_)
  refine lv_aload_n hx hb dL_law_457 rfl (lv_at hl 4 rfl) ?_
  refine callY_i hP (va_runV (As := []) (rest := []) ⟨hx, hb, hml, hown, hts⟩ (qX4_thrown l dC dI cy ad2 vv.1 vv.2.1 vv.2.2.1 vv.2.2.2 H.size) (cwV 0 hts gL_law_X4_thrown rfl rfl rfl (by decide +kernel) ⟨Nat.le_of_ble_eq_true rfl, Nat.le_of_ble_eq_true rfl⟩) (preV hK (w_leftP hP) (w_leftD hD) (w_recv (ci := 5) (q0 := 0) hK (w_leftP hP) rfl rfl)) rfl rfl hl.1 rfl (lv_room (Nat.le_of_ble_eq_true rfl)) dL_law_458 ⟨by show _ ≤ 601024; omega, by show _ ≤ 7293034; omega⟩) hD hS hA (fun rt v2 H locs hw3 hP hD hS => ?_)
  obtain ⟨et, ev2⟩ := hw3
  have ev3 : vv = v2 := ev2.symm
  subst ev3
  have hP := w_swP hP
  have hD := w_swD hD
  refine lv_iload hx hb dL_law_461 (lv_at hl 1 rfl) ?_
  refine lv_icmp_eq (tgt := 468) hx hb dL_law_463 (by decide) (fun _ => ?_) (fun h9 => absurd ((et.trans j1).trans er.symm) h9)
  refine lv_iload hx hb dL_law_468 (lv_at hl 1 rfl) ?_
  refine lv_if_ne (tgt := 485) hx hb dL_law_470 (by decide) (fun h8 => ?_) (fun h8 => ?_)
  · refine lv_goto (tgt := 1303) hx hb dL_law_485 (by decide) ?_
    exact va_forget (fun q hq => hS.2.2 q hq) (W.widen (k := cells + 100) (n := slots + 5000) (by omega) (by omega) (kk H _ _ _ ⟨hP, hD, ⟨hS.1, hS.2.1, fun _ h => by cases h⟩, hokU, hJ2.1, hJ2.2⟩ (by rw [show lvL b oa t ul.1.1 ad2 = lvL b oa t ad ad2 by unfold lvL; rw [had]]; exact lv_sub hl [2, 3, 4, 5, 6] rfl)))
  · have hV : (V_mark S N (xs (6 * t + 1)) (xs (6 * t + 2)) (xs (6 * t + 3)) (xs (6 * t + 4))) = 0 := V_0 (by unfold V_mark; (repeat' split) <;> omega) (er.symm.trans h8)
    have eo : ul.2 0 = ((if N 2 (ix (xs (6 * t + 1))) (ix (xs (6 * t + 3))) = 0 then nI 0 else K_mk S (ix (xs (6 * t + 1))) (ix (xs (6 * t + 2))) (ix (xs (6 * t + 3))))).toInt64 := (hok0 hV).1
    have er2 : ra = (if N 2 (ix (xs (6 * t + 1))) (ix (xs (6 * t + 3))) = 0 then nI 0 else K_mk S (ix (xs (6 * t + 1))) (ix (xs (6 * t + 2))) (ix (xs (6 * t + 3)))) := (j2 hV).1
    refine lv_aload_n hx hb dL_law_473 rfl (lv_at hl 3 rfl) ?_
    refine lv_iconst (v := nI 0) hx hb dL_law_474 (by decide) ?_
    refine va_lald hx hb hK (w_leftP hP) (pl ul.1.2.1 ul.1.1 (cc cy e0 ul.1.1 ul.1.2.2.1 ul.1.2.2.2)).length 5 (app_r (k := 0) rfl) rfl (vp_in_nI (show 0 < 1 by decide) (by decide)) dL_law_475 ?_
    rw [nI_clamp (by decide)]
    refine lv_iload hx hb dL_law_476 (lv_at hl 0 rfl) ?_
    refine lv_i2l hx hb dL_law_478 rfl ?_
    refine W.lcmp hx hb dL_law_479 ?_
    refine to_i (y := 0) (by rw [eo, er2]; exact cmp_rf _) ?_
    refine lv_if_eq (tgt := 485) hx hb dL_law_480 (by decide) (fun _ => ?_) (fun h9 => absurd rfl h9)
    refine lv_goto (tgt := 1303) hx hb dL_law_485 (by decide) ?_
    exact va_forget (fun q hq => hS.2.2 q hq) (W.widen (k := cells + 100) (n := slots + 5000) (by omega) (by omega) (kk H _ _ _ ⟨hP, hD, ⟨hS.1, hS.2.1, fun _ h => by cases h⟩, hokU, hJ2.1, hJ2.2⟩ (by rw [show lvL b oa t ul.1.1 ad2 = lvL b oa t ad ad2 by unfold lvL; rw [had]]; exact lv_sub hl [2, 3, 4, 5, 6] rfl)))

set_option maxHeartbeats 4000000 in
set_option maxRecDepth 100000 in
theorem s_renew {p : Program} {l : Launch} {e : Env} {s : State} {m : MethodId} {below : List Frame} {meth : Method} {c : Code} {b Ls : Nat} {xs : Nat → Int32} {dC : Nat → ClassId} {dI : Nat → Nat → Nat} {cy : Nat → ClassId} {e0 mi oa : Nat} {ad : Lc → Nat} {L : List Lc} {S : SS} {N : NN} {f0 : Nat → Int64} {ad2 : Nat → Nat} {F : Nat → Int32} {C : Nat → Nat} {R : Nat → Nat → Int32} {T : Nat → Nat → Nat} {H : Heap} {ls : Array Slot} {t cells slots : Nat} {Q : State → Prop}
    (hF : LF p l s m c b Ls xs dC dI cy e0 mi) (hLs : Ls ≤ 3072) (ht : 6 * t + 6 ≤ Ls) (hc : cells + 100 ≤ 601024) (hsl : slots + 5000 ≤ 7293034) (hI0 : LI dC dI cy e0 oa ad2 s H ((ad, L, S, N), f0) (F, C, R, T)) (hl : lv_has ls 7 (lvL b oa t ad ad2))
    (kk : ∀ (H : Heap) (u : LU) (v : MS) (ls : Array Slot), LI dC dI cy e0 oa ad2 s H u v → lv_has ls 7 (lvL b oa t u.1.1 ad2) → W p l e room_1 s m (#[Value.ref b] : Array Value) below meth c H [] (cells + 100) (slots + 5000) Q (F0 m 1303 ls [])) :
    W p l e room_1 s m (#[Value.ref b] : Array Value) below meth c H [] cells slots Q (F0 m 488 ls []) := by
  obtain ⟨hx, hb, hml, hown, hts, hXs, hbl, hK, ham, hst⟩ := hF
  obtain ⟨hP, hD, hS, ⟨hI, hX⟩, hJ, hM⟩ := hI0
  have hN := okS_of hI
  obtain ⟨q9, q14, qT, qV, qC, qn⟩ := JJ_T hJ hN
  have hA : ∀ q, s.heap.size ≤ q → freshA s q := fun q h => h
  have hbA : ¬ freshA s b := fun h => Nat.lt_irrefl _ (Nat.lt_of_lt_of_le hbl h)
  have hP : va_P (dC, dI) vwCl ((cw cy e0 ad L S N ++ [(oa, .inl (cy 5, 1, .inr (.inl f0)))]) ++ mwU ad2 cy (F, C, R, T)) H := hP
  have hD : va_D (freshA s) ((cw cy e0 ad L S N ++ [(oa, .inl (cy 5, 1, .inr (.inl f0)))]) ++ mwU ad2 cy (F, C, R, T)) := hD
  refine lv_aload_n hx hb dL_law_488 rfl (lv_at hl 3 rfl) ?_
  refine lv_aload_n hx hb dL_law_489 rfl (lv_at hl 4 rfl) ?_
  refine lv_iload hx hb dL_law_490 (lv_at hl 0 rfl) ?_
  refine lv_iconst (v := nI 1) hx hb dL_law_492 (by decide) ?_
  refine lv_iadd hx hb dL_law_493 ?_
  refine to_i (y := nI ((6 * t) + 1)) (nI_add _ _) ?_
  refine va_sld hx hb hXs hbl hbA hS (i := nI (6 * t + 1)) (vp_in_nI (show 6 * t + 1 < Ls by omega) (by omega)) dL_law_494 ?_
  refine to_i (y := xs (6 * t + 1)) (by rw [nI_clamp (show 6 * t + 1 < 2 ^ 31 by omega)]) ?_
  refine lv_aload_n hx hb dL_law_495 rfl (lv_at hl 4 rfl) ?_
  refine lv_iload hx hb dL_law_496 (lv_at hl 0 rfl) ?_
  refine lv_iconst (v := nI 2) hx hb dL_law_498 (by decide) ?_
  refine lv_iadd hx hb dL_law_499 ?_
  refine to_i (y := nI ((6 * t) + 2)) (nI_add _ _) ?_
  refine va_sld hx hb hXs hbl hbA hS (i := nI (6 * t + 2)) (vp_in_nI (show 6 * t + 2 < Ls by omega) (by omega)) dL_law_500 ?_
  refine to_i (y := xs (6 * t + 2)) (by rw [nI_clamp (show 6 * t + 2 < 2 ^ 31 by omega)]) ?_
  refine lv_aload_n hx hb dL_law_501 rfl (lv_at hl 4 rfl) ?_
  refine lv_iload hx hb dL_law_502 (lv_at hl 0 rfl) ?_
  refine lv_iconst (v := nI 3) hx hb dL_law_504 (by decide) ?_
  refine lv_iadd hx hb dL_law_505 ?_
  refine to_i (y := nI ((6 * t) + 3)) (nI_add _ _) ?_
  refine va_sld hx hb hXs hbl hbA hS (i := nI (6 * t + 3)) (vp_in_nI (show 6 * t + 3 < Ls by omega) (by omega)) dL_law_506 ?_
  refine to_i (y := xs (6 * t + 3)) (by rw [nI_clamp (show 6 * t + 3 < 2 ^ 31 by omega)]) ?_
  refine lv_aload_n hx hb dL_law_507 rfl (lv_at hl 1 rfl) ?_
  refine callY_i hP (vx_runSW (As := [.ref (ad (10, 0)), .int (xs (6 * t + 1)), .int (xs (6 * t + 2)), .int (xs (6 * t + 3)), .ref oa]) (rest := []) ⟨hx, hb, hml, hown, hts⟩ (qL_renew l dC dI cy e0 mi oa ad L S N f0 H.size (xs (6 * t + 1)) (xs (6 * t + 2)) (xs (6 * t + 3)) hI hX hst) (vx_cwSW 5 hts gL_law_L_renew rfl rfl rfl (by decide +kernel) ⟨Nat.le_of_ble_eq_true rfl, Nat.le_of_ble_eq_true rfl⟩) (preLS hK (w_leftP hP) (w_leftD hD) hS hA ham) rfl rfl hl.1 rfl (lv_room (Nat.le_of_ble_eq_true rfl)) dL_law_508 ⟨by show _ ≤ 601024; omega, by show _ ≤ 7293034; omega⟩) hD hS hA (fun rr ul H locs hw hP hD hS => ?_)
  obtain ⟨er, hok0, hno, hokU, had⟩ := hw
  refine lv_istore (lv' := [(5, .int rr), (4, .int (nI (6 * t))), (3, .ref oa), (2, .ref ((ad2 0))), (1, .ref (ad (10, 0))), (0, .ref b)]) hx hb dL_law_511 hl (by decide) rfl (fun ls hl => ?_)
  refine lv_aload_n hx hb dL_law_513 rfl (lv_at hl 3 rfl) ?_
  refine lv_aload_n hx hb dL_law_514 rfl (lv_at hl 5 rfl) ?_
  refine lv_iload hx hb dL_law_515 (lv_at hl 1 rfl) ?_
  refine lv_iconst (v := nI 1) hx hb dL_law_517 (by decide) ?_
  refine lv_iadd hx hb dL_law_518 ?_
  refine to_i (y := nI ((6 * t) + 1)) (nI_add _ _) ?_
  refine va_sld hx hb hXs hbl hbA hS (i := nI (6 * t + 1)) (vp_in_nI (show 6 * t + 1 < Ls by omega) (by omega)) dL_law_519 ?_
  refine to_i (y := xs (6 * t + 1)) (by rw [nI_clamp (show 6 * t + 1 < 2 ^ 31 by omega)]) ?_
  refine lv_aload_n hx hb dL_law_520 rfl (lv_at hl 5 rfl) ?_
  refine lv_iload hx hb dL_law_521 (lv_at hl 1 rfl) ?_
  refine lv_iconst (v := nI 2) hx hb dL_law_523 (by decide) ?_
  refine lv_iadd hx hb dL_law_524 ?_
  refine to_i (y := nI ((6 * t) + 2)) (nI_add _ _) ?_
  refine va_sld hx hb hXs hbl hbA hS (i := nI (6 * t + 2)) (vp_in_nI (show 6 * t + 2 < Ls by omega) (by omega)) dL_law_525 ?_
  refine to_i (y := xs (6 * t + 2)) (by rw [nI_clamp (show 6 * t + 2 < 2 ^ 31 by omega)]) ?_
  refine lv_aload_n hx hb dL_law_526 rfl (lv_at hl 5 rfl) ?_
  refine lv_iload hx hb dL_law_527 (lv_at hl 1 rfl) ?_
  refine lv_iconst (v := nI 3) hx hb dL_law_529 (by decide) ?_
  refine lv_iadd hx hb dL_law_530 ?_
  refine to_i (y := nI ((6 * t) + 3)) (nI_add _ _) ?_
  refine va_sld hx hb hXs hbl hbA hS (i := nI (6 * t + 3)) (vp_in_nI (show 6 * t + 3 < Ls by omega) (by omega)) dL_law_531 ?_
  refine to_i (y := xs (6 * t + 3)) (by rw [nI_clamp (show 6 * t + 3 < 2 ^ 31 by omega)]) ?_
  have hPm := w_swP hP
  have hDm := w_swD hD
  refine callY_i hPm (va_runV (As := [.int (xs (6 * t + 1)), .int (xs (6 * t + 2)), .int (xs (6 * t + 3))]) (rest := []) ⟨hx, hb, hml, hown, hts⟩ (qX4_renew l dC dI cy ad2 F C R T H.size (xs (6 * t + 1)) (xs (6 * t + 2)) (xs (6 * t + 3)) q9 qT qV) (cwV 3 hts gL_law_X4_renew rfl rfl rfl (by decide +kernel) ⟨Nat.le_of_ble_eq_true rfl, Nat.le_of_ble_eq_true rfl⟩) (preV hK (w_leftP hPm) (w_leftD hDm) (w_recv (ci := 5) (q0 := 0) hK (w_leftP hPm) rfl rfl)) rfl rfl hl.1 rfl (lv_room (Nat.le_of_ble_eq_true rfl)) dL_law_532 ⟨by show _ ≤ 601024; omega, by show _ ≤ 7293034; omega⟩) hDm hS hA (fun ra vv H locs hw2 hP hD hS => ?_)
  have ev : vv = (M_renew F C R T (xs (6 * t + 1)) (xs (6 * t + 2)) (xs (6 * t + 3))).2 := congrArg Prod.snd hw2
  have ea : ra = (M_renew F C R T (xs (6 * t + 1)) (xs (6 * t + 2)) (xs (6 * t + 3))).1 := congrArg Prod.fst hw2
  obtain ⟨⟨j1, j2, j3⟩, jm⟩ := j_renew hJ hN hM (xs (6 * t + 1)) (xs (6 * t + 2)) (xs (6 * t + 3))
  rw [← ev] at j1 j2 j3
  rw [← ea] at j2
  have hJ2 : JJ ul.1.2.2 vv ∧ jM ul.1.2.2 := by
    by_cases hV : (V_renew S N (xs (6 * t + 1)) (xs (6 * t + 2)) (xs (6 * t + 3))) = 0
    · rw [(hok0 hV).2]
      exact ⟨(j2 hV).2, jm hV⟩
    · rw [hno hV]
      exact ⟨j3 hV, hM⟩
  refine lv_istore (lv' := [(6, .int ra), (5, .int rr), (4, .int (nI (6 * t))), (3, .ref oa), (2, .ref ((ad2 0))), (1, .ref (ad (10, 0))), (0, .ref b)]) hx hb dL_law_535 hl (by decide) rfl (fun ls hl => ?_)
  refine lv_aload_n hx hb dL_law_537 rfl (lv_at hl 4 rfl) ?_
  refine callY_i hP (va_runV (As := []) (rest := []) ⟨hx, hb, hml, hown, hts⟩ (qX4_thrown l dC dI cy ad2 vv.1 vv.2.1 vv.2.2.1 vv.2.2.2 H.size) (cwV 0 hts gL_law_X4_thrown rfl rfl rfl (by decide +kernel) ⟨Nat.le_of_ble_eq_true rfl, Nat.le_of_ble_eq_true rfl⟩) (preV hK (w_leftP hP) (w_leftD hD) (w_recv (ci := 5) (q0 := 0) hK (w_leftP hP) rfl rfl)) rfl rfl hl.1 rfl (lv_room (Nat.le_of_ble_eq_true rfl)) dL_law_538 ⟨by show _ ≤ 601024; omega, by show _ ≤ 7293034; omega⟩) hD hS hA (fun rt v2 H locs hw3 hP hD hS => ?_)
  obtain ⟨et, ev2⟩ := hw3
  have ev3 : vv = v2 := ev2.symm
  subst ev3
  have hP := w_swP hP
  have hD := w_swD hD
  refine lv_iload hx hb dL_law_541 (lv_at hl 1 rfl) ?_
  refine lv_icmp_eq (tgt := 548) hx hb dL_law_543 (by decide) (fun _ => ?_) (fun h9 => absurd ((et.trans j1).trans er.symm) h9)
  refine lv_iload hx hb dL_law_548 (lv_at hl 1 rfl) ?_
  refine lv_if_ne (tgt := 565) hx hb dL_law_550 (by decide) (fun h8 => ?_) (fun h8 => ?_)
  · refine lv_goto (tgt := 1303) hx hb dL_law_565 (by decide) ?_
    exact va_forget (fun q hq => hS.2.2 q hq) (W.widen (k := cells + 100) (n := slots + 5000) (by omega) (by omega) (kk H _ _ _ ⟨hP, hD, ⟨hS.1, hS.2.1, fun _ h => by cases h⟩, hokU, hJ2.1, hJ2.2⟩ (by rw [show lvL b oa t ul.1.1 ad2 = lvL b oa t ad ad2 by unfold lvL; rw [had]]; exact lv_sub hl [2, 3, 4, 5, 6] rfl)))
  · have hV : (V_renew S N (xs (6 * t + 1)) (xs (6 * t + 2)) (xs (6 * t + 3))) = 0 := V_0 (by unfold V_renew; (repeat' split) <;> omega) (er.symm.trans h8)
    have eo : ul.2 0 = (nI (N 2 (ix (xs (6 * t + 1))) (ix (xs (6 * t + 3))))).toInt64 := (hok0 hV).1
    have er2 : ra = nI (N 2 (ix (xs (6 * t + 1))) (ix (xs (6 * t + 3)))) := (j2 hV).1
    refine lv_aload_n hx hb dL_law_553 rfl (lv_at hl 3 rfl) ?_
    refine lv_iconst (v := nI 0) hx hb dL_law_554 (by decide) ?_
    refine va_lald hx hb hK (w_leftP hP) (pl ul.1.2.1 ul.1.1 (cc cy e0 ul.1.1 ul.1.2.2.1 ul.1.2.2.2)).length 5 (app_r (k := 0) rfl) rfl (vp_in_nI (show 0 < 1 by decide) (by decide)) dL_law_555 ?_
    rw [nI_clamp (by decide)]
    refine lv_iload hx hb dL_law_556 (lv_at hl 0 rfl) ?_
    refine lv_i2l hx hb dL_law_558 rfl ?_
    refine W.lcmp hx hb dL_law_559 ?_
    refine to_i (y := 0) (by rw [eo, er2]; exact cmp_rf _) ?_
    refine lv_if_eq (tgt := 565) hx hb dL_law_560 (by decide) (fun _ => ?_) (fun h9 => absurd rfl h9)
    refine lv_goto (tgt := 1303) hx hb dL_law_565 (by decide) ?_
    exact va_forget (fun q hq => hS.2.2 q hq) (W.widen (k := cells + 100) (n := slots + 5000) (by omega) (by omega) (kk H _ _ _ ⟨hP, hD, ⟨hS.1, hS.2.1, fun _ h => by cases h⟩, hokU, hJ2.1, hJ2.2⟩ (by rw [show lvL b oa t ul.1.1 ad2 = lvL b oa t ad ad2 by unfold lvL; rw [had]]; exact lv_sub hl [2, 3, 4, 5, 6] rfl)))

set_option maxHeartbeats 4000000 in
set_option maxRecDepth 100000 in
theorem s_version {p : Program} {l : Launch} {e : Env} {s : State} {m : MethodId} {below : List Frame} {meth : Method} {c : Code} {b Ls : Nat} {xs : Nat → Int32} {dC : Nat → ClassId} {dI : Nat → Nat → Nat} {cy : Nat → ClassId} {e0 mi oa : Nat} {ad : Lc → Nat} {L : List Lc} {S : SS} {N : NN} {f0 : Nat → Int64} {ad2 : Nat → Nat} {F : Nat → Int32} {C : Nat → Nat} {R : Nat → Nat → Int32} {T : Nat → Nat → Nat} {H : Heap} {ls : Array Slot} {t cells slots : Nat} {Q : State → Prop}
    (hF : LF p l s m c b Ls xs dC dI cy e0 mi) (hLs : Ls ≤ 3072) (ht : 6 * t + 6 ≤ Ls) (hc : cells + 100 ≤ 601024) (hsl : slots + 5000 ≤ 7293034) (hI0 : LI dC dI cy e0 oa ad2 s H ((ad, L, S, N), f0) (F, C, R, T)) (hl : lv_has ls 7 (lvL b oa t ad ad2))
    (kk : ∀ (H : Heap) (u : LU) (v : MS) (ls : Array Slot), LI dC dI cy e0 oa ad2 s H u v → lv_has ls 7 (lvL b oa t u.1.1 ad2) → W p l e room_1 s m (#[Value.ref b] : Array Value) below meth c H [] (cells + 100) (slots + 5000) Q (F0 m 1303 ls [])) :
    W p l e room_1 s m (#[Value.ref b] : Array Value) below meth c H [] cells slots Q (F0 m 568 ls []) := by
  obtain ⟨hx, hb, hml, hown, hts, hXs, hbl, hK, ham, hst⟩ := hF
  obtain ⟨hP, hD, hS, ⟨hI, hX⟩, hJ, hM⟩ := hI0
  have hN := okS_of hI
  obtain ⟨q9, q14, qT, qV, qC, qn⟩ := JJ_T hJ hN
  have hA : ∀ q, s.heap.size ≤ q → freshA s q := fun q h => h
  have hbA : ¬ freshA s b := fun h => Nat.lt_irrefl _ (Nat.lt_of_lt_of_le hbl h)
  have hP : va_P (dC, dI) vwCl ((cw cy e0 ad L S N ++ [(oa, .inl (cy 5, 1, .inr (.inl f0)))]) ++ mwU ad2 cy (F, C, R, T)) H := hP
  have hD : va_D (freshA s) ((cw cy e0 ad L S N ++ [(oa, .inl (cy 5, 1, .inr (.inl f0)))]) ++ mwU ad2 cy (F, C, R, T)) := hD
  refine lv_aload_n hx hb dL_law_568 rfl (lv_at hl 3 rfl) ?_
  refine lv_aload_n hx hb dL_law_569 rfl (lv_at hl 4 rfl) ?_
  refine lv_iload hx hb dL_law_570 (lv_at hl 0 rfl) ?_
  refine lv_iconst (v := nI 1) hx hb dL_law_572 (by decide) ?_
  refine lv_iadd hx hb dL_law_573 ?_
  refine to_i (y := nI ((6 * t) + 1)) (nI_add _ _) ?_
  refine va_sld hx hb hXs hbl hbA hS (i := nI (6 * t + 1)) (vp_in_nI (show 6 * t + 1 < Ls by omega) (by omega)) dL_law_574 ?_
  refine to_i (y := xs (6 * t + 1)) (by rw [nI_clamp (show 6 * t + 1 < 2 ^ 31 by omega)]) ?_
  refine lv_aload_n hx hb dL_law_575 rfl (lv_at hl 4 rfl) ?_
  refine lv_iload hx hb dL_law_576 (lv_at hl 0 rfl) ?_
  refine lv_iconst (v := nI 2) hx hb dL_law_578 (by decide) ?_
  refine lv_iadd hx hb dL_law_579 ?_
  refine to_i (y := nI ((6 * t) + 2)) (nI_add _ _) ?_
  refine va_sld hx hb hXs hbl hbA hS (i := nI (6 * t + 2)) (vp_in_nI (show 6 * t + 2 < Ls by omega) (by omega)) dL_law_580 ?_
  refine to_i (y := xs (6 * t + 2)) (by rw [nI_clamp (show 6 * t + 2 < 2 ^ 31 by omega)]) ?_
  refine lv_aload_n hx hb dL_law_581 rfl (lv_at hl 1 rfl) ?_
  refine callY_i hP (vx_runSW (As := [.ref (ad (10, 0)), .int (xs (6 * t + 1)), .int (xs (6 * t + 2)), .ref oa]) (rest := []) ⟨hx, hb, hml, hown, hts⟩ (qL_version l dC dI cy e0 mi oa ad L S N f0 H.size (xs (6 * t + 1)) (xs (6 * t + 2)) hI hX hst) (vx_cwSW 4 hts gL_law_L_version rfl rfl rfl (by decide +kernel) ⟨Nat.le_of_ble_eq_true rfl, Nat.le_of_ble_eq_true rfl⟩) (preLS hK (w_leftP hP) (w_leftD hD) hS hA ham) rfl rfl hl.1 rfl (lv_room (Nat.le_of_ble_eq_true rfl)) dL_law_582 ⟨by show _ ≤ 601024; omega, by show _ ≤ 7293034; omega⟩) hD hS hA (fun rr ul H locs hw hP hD hS => ?_)
  obtain ⟨er, hok0, hno, hokU, had⟩ := hw
  refine lv_istore (lv' := [(5, .int rr), (4, .int (nI (6 * t))), (3, .ref oa), (2, .ref ((ad2 0))), (1, .ref (ad (10, 0))), (0, .ref b)]) hx hb dL_law_585 hl (by decide) rfl (fun ls hl => ?_)
  refine lv_aload_n hx hb dL_law_587 rfl (lv_at hl 3 rfl) ?_
  refine lv_aload_n hx hb dL_law_588 rfl (lv_at hl 5 rfl) ?_
  refine lv_iload hx hb dL_law_589 (lv_at hl 1 rfl) ?_
  refine lv_iconst (v := nI 1) hx hb dL_law_591 (by decide) ?_
  refine lv_iadd hx hb dL_law_592 ?_
  refine to_i (y := nI ((6 * t) + 1)) (nI_add _ _) ?_
  refine va_sld hx hb hXs hbl hbA hS (i := nI (6 * t + 1)) (vp_in_nI (show 6 * t + 1 < Ls by omega) (by omega)) dL_law_593 ?_
  refine to_i (y := xs (6 * t + 1)) (by rw [nI_clamp (show 6 * t + 1 < 2 ^ 31 by omega)]) ?_
  refine lv_aload_n hx hb dL_law_594 rfl (lv_at hl 5 rfl) ?_
  refine lv_iload hx hb dL_law_595 (lv_at hl 1 rfl) ?_
  refine lv_iconst (v := nI 2) hx hb dL_law_597 (by decide) ?_
  refine lv_iadd hx hb dL_law_598 ?_
  refine to_i (y := nI ((6 * t) + 2)) (nI_add _ _) ?_
  refine va_sld hx hb hXs hbl hbA hS (i := nI (6 * t + 2)) (vp_in_nI (show 6 * t + 2 < Ls by omega) (by omega)) dL_law_599 ?_
  refine to_i (y := xs (6 * t + 2)) (by rw [nI_clamp (show 6 * t + 2 < 2 ^ 31 by omega)]) ?_
  have hPm := w_swP hP
  have hDm := w_swD hD
  refine callY_i hPm (va_runV (As := [.int (xs (6 * t + 1)), .int (xs (6 * t + 2))]) (rest := []) ⟨hx, hb, hml, hown, hts⟩ (qX4_version l dC dI cy ad2 F C R T H.size (xs (6 * t + 1)) (xs (6 * t + 2)) q9) (cwV 2 hts gL_law_X4_version rfl rfl rfl (by decide +kernel) ⟨Nat.le_of_ble_eq_true rfl, Nat.le_of_ble_eq_true rfl⟩) (preV hK (w_leftP hPm) (w_leftD hDm) (w_recv (ci := 5) (q0 := 0) hK (w_leftP hPm) rfl rfl)) rfl rfl hl.1 rfl (lv_room (Nat.le_of_ble_eq_true rfl)) dL_law_600 ⟨by show _ ≤ 601024; omega, by show _ ≤ 7293034; omega⟩) hDm hS hA (fun ra vv H locs hw2 hP hD hS => ?_)
  have ev : vv = (M_version F C R T (xs (6 * t + 1)) (xs (6 * t + 2))).2 := congrArg Prod.snd hw2
  have ea : ra = (M_version F C R T (xs (6 * t + 1)) (xs (6 * t + 2))).1 := congrArg Prod.fst hw2
  obtain ⟨j1, j2, j3⟩ := j_version hJ hN (xs (6 * t + 1)) (xs (6 * t + 2))
  rw [← ev] at j1 j2 j3
  rw [← ea] at j2
  have hJ2 : JJ ul.1.2.2 vv ∧ jM ul.1.2.2 := by
    by_cases hV : (V_version N (xs (6 * t + 1)) (xs (6 * t + 2))) = 0
    · rw [(hok0 hV).2]
      exact ⟨(j2 hV).2, hM⟩
    · rw [hno hV]
      exact ⟨j3 hV, hM⟩
  refine lv_istore (lv' := [(6, .int ra), (5, .int rr), (4, .int (nI (6 * t))), (3, .ref oa), (2, .ref ((ad2 0))), (1, .ref (ad (10, 0))), (0, .ref b)]) hx hb dL_law_603 hl (by decide) rfl (fun ls hl => ?_)
  refine lv_aload_n hx hb dL_law_605 rfl (lv_at hl 4 rfl) ?_
  refine callY_i hP (va_runV (As := []) (rest := []) ⟨hx, hb, hml, hown, hts⟩ (qX4_thrown l dC dI cy ad2 vv.1 vv.2.1 vv.2.2.1 vv.2.2.2 H.size) (cwV 0 hts gL_law_X4_thrown rfl rfl rfl (by decide +kernel) ⟨Nat.le_of_ble_eq_true rfl, Nat.le_of_ble_eq_true rfl⟩) (preV hK (w_leftP hP) (w_leftD hD) (w_recv (ci := 5) (q0 := 0) hK (w_leftP hP) rfl rfl)) rfl rfl hl.1 rfl (lv_room (Nat.le_of_ble_eq_true rfl)) dL_law_606 ⟨by show _ ≤ 601024; omega, by show _ ≤ 7293034; omega⟩) hD hS hA (fun rt v2 H locs hw3 hP hD hS => ?_)
  obtain ⟨et, ev2⟩ := hw3
  have ev3 : vv = v2 := ev2.symm
  subst ev3
  have hP := w_swP hP
  have hD := w_swD hD
  refine lv_iload hx hb dL_law_609 (lv_at hl 1 rfl) ?_
  refine lv_icmp_eq (tgt := 616) hx hb dL_law_611 (by decide) (fun _ => ?_) (fun h9 => absurd ((et.trans j1).trans er.symm) h9)
  refine lv_iload hx hb dL_law_616 (lv_at hl 1 rfl) ?_
  refine lv_if_ne (tgt := 633) hx hb dL_law_618 (by decide) (fun h8 => ?_) (fun h8 => ?_)
  · refine lv_goto (tgt := 1303) hx hb dL_law_633 (by decide) ?_
    exact va_forget (fun q hq => hS.2.2 q hq) (W.widen (k := cells + 100) (n := slots + 5000) (by omega) (by omega) (kk H _ _ _ ⟨hP, hD, ⟨hS.1, hS.2.1, fun _ h => by cases h⟩, hokU, hJ2.1, hJ2.2⟩ (by rw [show lvL b oa t ul.1.1 ad2 = lvL b oa t ad ad2 by unfold lvL; rw [had]]; exact lv_sub hl [2, 3, 4, 5, 6] rfl)))
  · have hV : (V_version N (xs (6 * t + 1)) (xs (6 * t + 2))) = 0 := V_0 (by unfold V_version; (repeat' split) <;> omega) (er.symm.trans h8)
    have eo : ul.2 0 = (nI (N 2 (ix (xs (6 * t + 1))) (ix (xs (6 * t + 2))))).toInt64 := (hok0 hV).1
    have er2 : ra = nI (N 2 (ix (xs (6 * t + 1))) (ix (xs (6 * t + 2)))) := (j2 hV).1
    refine lv_aload_n hx hb dL_law_621 rfl (lv_at hl 3 rfl) ?_
    refine lv_iconst (v := nI 0) hx hb dL_law_622 (by decide) ?_
    refine va_lald hx hb hK (w_leftP hP) (pl ul.1.2.1 ul.1.1 (cc cy e0 ul.1.1 ul.1.2.2.1 ul.1.2.2.2)).length 5 (app_r (k := 0) rfl) rfl (vp_in_nI (show 0 < 1 by decide) (by decide)) dL_law_623 ?_
    rw [nI_clamp (by decide)]
    refine lv_iload hx hb dL_law_624 (lv_at hl 0 rfl) ?_
    refine lv_i2l hx hb dL_law_626 rfl ?_
    refine W.lcmp hx hb dL_law_627 ?_
    refine to_i (y := 0) (by rw [eo, er2]; exact cmp_rf _) ?_
    refine lv_if_eq (tgt := 633) hx hb dL_law_628 (by decide) (fun _ => ?_) (fun h9 => absurd rfl h9)
    refine lv_goto (tgt := 1303) hx hb dL_law_633 (by decide) ?_
    exact va_forget (fun q hq => hS.2.2 q hq) (W.widen (k := cells + 100) (n := slots + 5000) (by omega) (by omega) (kk H _ _ _ ⟨hP, hD, ⟨hS.1, hS.2.1, fun _ h => by cases h⟩, hokU, hJ2.1, hJ2.2⟩ (by rw [show lvL b oa t ul.1.1 ad2 = lvL b oa t ad ad2 by unfold lvL; rw [had]]; exact lv_sub hl [2, 3, 4, 5, 6] rfl)))

set_option maxHeartbeats 4000000 in
set_option maxRecDepth 100000 in
theorem s_offered {p : Program} {l : Launch} {e : Env} {s : State} {m : MethodId} {below : List Frame} {meth : Method} {c : Code} {b Ls : Nat} {xs : Nat → Int32} {dC : Nat → ClassId} {dI : Nat → Nat → Nat} {cy : Nat → ClassId} {e0 mi oa : Nat} {ad : Lc → Nat} {L : List Lc} {S : SS} {N : NN} {f0 : Nat → Int64} {ad2 : Nat → Nat} {F : Nat → Int32} {C : Nat → Nat} {R : Nat → Nat → Int32} {T : Nat → Nat → Nat} {H : Heap} {ls : Array Slot} {t cells slots : Nat} {Q : State → Prop}
    (hF : LF p l s m c b Ls xs dC dI cy e0 mi) (hLs : Ls ≤ 3072) (ht : 6 * t + 6 ≤ Ls) (hc : cells + 100 ≤ 601024) (hsl : slots + 5000 ≤ 7293034) (hI0 : LI dC dI cy e0 oa ad2 s H ((ad, L, S, N), f0) (F, C, R, T)) (hl : lv_has ls 7 (lvL b oa t ad ad2))
    (kk : ∀ (H : Heap) (u : LU) (v : MS) (ls : Array Slot), LI dC dI cy e0 oa ad2 s H u v → lv_has ls 7 (lvL b oa t u.1.1 ad2) → W p l e room_1 s m (#[Value.ref b] : Array Value) below meth c H [] (cells + 100) (slots + 5000) Q (F0 m 1303 ls [])) :
    W p l e room_1 s m (#[Value.ref b] : Array Value) below meth c H [] cells slots Q (F0 m 636 ls []) := by
  obtain ⟨hx, hb, hml, hown, hts, hXs, hbl, hK, ham, hst⟩ := hF
  obtain ⟨hP, hD, hS, ⟨hI, hX⟩, hJ, hM⟩ := hI0
  have hN := okS_of hI
  obtain ⟨q9, q14, qT, qV, qC, qn⟩ := JJ_T hJ hN
  have hA : ∀ q, s.heap.size ≤ q → freshA s q := fun q h => h
  have hbA : ¬ freshA s b := fun h => Nat.lt_irrefl _ (Nat.lt_of_lt_of_le hbl h)
  have hP : va_P (dC, dI) vwCl ((cw cy e0 ad L S N ++ [(oa, .inl (cy 5, 1, .inr (.inl f0)))]) ++ mwU ad2 cy (F, C, R, T)) H := hP
  have hD : va_D (freshA s) ((cw cy e0 ad L S N ++ [(oa, .inl (cy 5, 1, .inr (.inl f0)))]) ++ mwU ad2 cy (F, C, R, T)) := hD
  refine lv_aload_n hx hb dL_law_636 rfl (lv_at hl 3 rfl) ?_
  refine lv_aload_n hx hb dL_law_637 rfl (lv_at hl 4 rfl) ?_
  refine lv_iload hx hb dL_law_638 (lv_at hl 0 rfl) ?_
  refine lv_iconst (v := nI 1) hx hb dL_law_640 (by decide) ?_
  refine lv_iadd hx hb dL_law_641 ?_
  refine to_i (y := nI ((6 * t) + 1)) (nI_add _ _) ?_
  refine va_sld hx hb hXs hbl hbA hS (i := nI (6 * t + 1)) (vp_in_nI (show 6 * t + 1 < Ls by omega) (by omega)) dL_law_642 ?_
  refine to_i (y := xs (6 * t + 1)) (by rw [nI_clamp (show 6 * t + 1 < 2 ^ 31 by omega)]) ?_
  refine lv_aload_n hx hb dL_law_643 rfl (lv_at hl 1 rfl) ?_
  refine callY_i hP (vx_runSW (As := [.ref (ad (10, 0)), .int (xs (6 * t + 1)), .ref oa]) (rest := []) ⟨hx, hb, hml, hown, hts⟩ (qL_offered l dC dI cy e0 mi oa ad L S N f0 H.size (xs (6 * t + 1)) hI hX hst) (vx_cwSW 3 hts gL_law_L_offered rfl rfl rfl (by decide +kernel) ⟨Nat.le_of_ble_eq_true rfl, Nat.le_of_ble_eq_true rfl⟩) (preLS hK (w_leftP hP) (w_leftD hD) hS hA ham) rfl rfl hl.1 rfl (lv_room (Nat.le_of_ble_eq_true rfl)) dL_law_644 ⟨by show _ ≤ 601024; omega, by show _ ≤ 7293034; omega⟩) hD hS hA (fun rr ul H locs hw hP hD hS => ?_)
  obtain ⟨er, hok0, hno, hokU, had⟩ := hw
  refine lv_istore (lv' := [(5, .int rr), (4, .int (nI (6 * t))), (3, .ref oa), (2, .ref ((ad2 0))), (1, .ref (ad (10, 0))), (0, .ref b)]) hx hb dL_law_647 hl (by decide) rfl (fun ls hl => ?_)
  refine lv_aload_n hx hb dL_law_649 rfl (lv_at hl 3 rfl) ?_
  refine lv_aload_n hx hb dL_law_650 rfl (lv_at hl 5 rfl) ?_
  refine lv_iload hx hb dL_law_651 (lv_at hl 1 rfl) ?_
  refine lv_iconst (v := nI 1) hx hb dL_law_653 (by decide) ?_
  refine lv_iadd hx hb dL_law_654 ?_
  refine to_i (y := nI ((6 * t) + 1)) (nI_add _ _) ?_
  refine va_sld hx hb hXs hbl hbA hS (i := nI (6 * t + 1)) (vp_in_nI (show 6 * t + 1 < Ls by omega) (by omega)) dL_law_655 ?_
  refine to_i (y := xs (6 * t + 1)) (by rw [nI_clamp (show 6 * t + 1 < 2 ^ 31 by omega)]) ?_
  have hPm := w_swP hP
  have hDm := w_swD hD
  refine callY_i hPm (va_runV (As := [.int (xs (6 * t + 1))]) (rest := []) ⟨hx, hb, hml, hown, hts⟩ (qX4_offered l dC dI cy ad2 F C R T H.size (xs (6 * t + 1)) q9 qT qV) (cwV 1 hts gL_law_X4_offered rfl rfl rfl (by decide +kernel) ⟨Nat.le_of_ble_eq_true rfl, Nat.le_of_ble_eq_true rfl⟩) (preV hK (w_leftP hPm) (w_leftD hDm) (w_recv (ci := 5) (q0 := 0) hK (w_leftP hPm) rfl rfl)) rfl rfl hl.1 rfl (lv_room (Nat.le_of_ble_eq_true rfl)) dL_law_656 ⟨by show _ ≤ 601024; omega, by show _ ≤ 7293034; omega⟩) hDm hS hA (fun ra vv H locs hw2 hP hD hS => ?_)
  have ev : vv = (M_offered F C R T (xs (6 * t + 1))).2 := congrArg Prod.snd hw2
  have ea : ra = (M_offered F C R T (xs (6 * t + 1))).1 := congrArg Prod.fst hw2
  obtain ⟨j1, j2, j3⟩ := j_offered hJ hN (xs (6 * t + 1))
  rw [← ev] at j1 j2 j3
  rw [← ea] at j2
  have hJ2 : JJ ul.1.2.2 vv ∧ jM ul.1.2.2 := by
    by_cases hV : (V_at N 0 (xs (6 * t + 1))) = 0
    · rw [(hok0 hV).2]
      exact ⟨(j2 hV).2, hM⟩
    · rw [hno hV]
      exact ⟨j3 hV, hM⟩
  refine lv_istore (lv' := [(6, .int ra), (5, .int rr), (4, .int (nI (6 * t))), (3, .ref oa), (2, .ref ((ad2 0))), (1, .ref (ad (10, 0))), (0, .ref b)]) hx hb dL_law_659 hl (by decide) rfl (fun ls hl => ?_)
  refine lv_aload_n hx hb dL_law_661 rfl (lv_at hl 4 rfl) ?_
  refine callY_i hP (va_runV (As := []) (rest := []) ⟨hx, hb, hml, hown, hts⟩ (qX4_thrown l dC dI cy ad2 vv.1 vv.2.1 vv.2.2.1 vv.2.2.2 H.size) (cwV 0 hts gL_law_X4_thrown rfl rfl rfl (by decide +kernel) ⟨Nat.le_of_ble_eq_true rfl, Nat.le_of_ble_eq_true rfl⟩) (preV hK (w_leftP hP) (w_leftD hD) (w_recv (ci := 5) (q0 := 0) hK (w_leftP hP) rfl rfl)) rfl rfl hl.1 rfl (lv_room (Nat.le_of_ble_eq_true rfl)) dL_law_662 ⟨by show _ ≤ 601024; omega, by show _ ≤ 7293034; omega⟩) hD hS hA (fun rt v2 H locs hw3 hP hD hS => ?_)
  obtain ⟨et, ev2⟩ := hw3
  have ev3 : vv = v2 := ev2.symm
  subst ev3
  have hP := w_swP hP
  have hD := w_swD hD
  refine lv_iload hx hb dL_law_665 (lv_at hl 1 rfl) ?_
  refine lv_icmp_eq (tgt := 672) hx hb dL_law_667 (by decide) (fun _ => ?_) (fun h9 => absurd ((et.trans j1).trans er.symm) h9)
  refine lv_iload hx hb dL_law_672 (lv_at hl 1 rfl) ?_
  refine lv_if_ne (tgt := 689) hx hb dL_law_674 (by decide) (fun h8 => ?_) (fun h8 => ?_)
  · refine lv_goto (tgt := 1303) hx hb dL_law_689 (by decide) ?_
    exact va_forget (fun q hq => hS.2.2 q hq) (W.widen (k := cells + 100) (n := slots + 5000) (by omega) (by omega) (kk H _ _ _ ⟨hP, hD, ⟨hS.1, hS.2.1, fun _ h => by cases h⟩, hokU, hJ2.1, hJ2.2⟩ (by rw [show lvL b oa t ul.1.1 ad2 = lvL b oa t ad ad2 by unfold lvL; rw [had]]; exact lv_sub hl [2, 3, 4, 5, 6] rfl)))
  · have hV : (V_at N 0 (xs (6 * t + 1))) = 0 := V_0 (by unfold V_at; (repeat' split) <;> omega) (er.symm.trans h8)
    have eo : ul.2 0 = ((if isDr S (ix (xs (6 * t + 1))) then nI (K_off N (ix (xs (6 * t + 1))) 10) else nI 0)).toInt64 := (hok0 hV).1
    have er2 : ra = (if isDr S (ix (xs (6 * t + 1))) then nI (K_off N (ix (xs (6 * t + 1))) 10) else nI 0) := (j2 hV).1
    refine lv_aload_n hx hb dL_law_677 rfl (lv_at hl 3 rfl) ?_
    refine lv_iconst (v := nI 0) hx hb dL_law_678 (by decide) ?_
    refine va_lald hx hb hK (w_leftP hP) (pl ul.1.2.1 ul.1.1 (cc cy e0 ul.1.1 ul.1.2.2.1 ul.1.2.2.2)).length 5 (app_r (k := 0) rfl) rfl (vp_in_nI (show 0 < 1 by decide) (by decide)) dL_law_679 ?_
    rw [nI_clamp (by decide)]
    refine lv_iload hx hb dL_law_680 (lv_at hl 0 rfl) ?_
    refine lv_i2l hx hb dL_law_682 rfl ?_
    refine W.lcmp hx hb dL_law_683 ?_
    refine to_i (y := 0) (by rw [eo, er2]; exact cmp_rf _) ?_
    refine lv_if_eq (tgt := 689) hx hb dL_law_684 (by decide) (fun _ => ?_) (fun h9 => absurd rfl h9)
    refine lv_goto (tgt := 1303) hx hb dL_law_689 (by decide) ?_
    exact va_forget (fun q hq => hS.2.2 q hq) (W.widen (k := cells + 100) (n := slots + 5000) (by omega) (by omega) (kk H _ _ _ ⟨hP, hD, ⟨hS.1, hS.2.1, fun _ h => by cases h⟩, hokU, hJ2.1, hJ2.2⟩ (by rw [show lvL b oa t ul.1.1 ad2 = lvL b oa t ad ad2 by unfold lvL; rw [had]]; exact lv_sub hl [2, 3, 4, 5, 6] rfl)))

set_option maxHeartbeats 4000000 in
set_option maxRecDepth 100000 in
theorem s_whyNot {p : Program} {l : Launch} {e : Env} {s : State} {m : MethodId} {below : List Frame} {meth : Method} {c : Code} {b Ls : Nat} {xs : Nat → Int32} {dC : Nat → ClassId} {dI : Nat → Nat → Nat} {cy : Nat → ClassId} {e0 mi oa : Nat} {ad : Lc → Nat} {L : List Lc} {S : SS} {N : NN} {f0 : Nat → Int64} {ad2 : Nat → Nat} {F : Nat → Int32} {C : Nat → Nat} {R : Nat → Nat → Int32} {T : Nat → Nat → Nat} {H : Heap} {ls : Array Slot} {t cells slots : Nat} {Q : State → Prop}
    (hF : LF p l s m c b Ls xs dC dI cy e0 mi) (hLs : Ls ≤ 3072) (ht : 6 * t + 6 ≤ Ls) (hc : cells + 100 ≤ 601024) (hsl : slots + 5000 ≤ 7293034) (hI0 : LI dC dI cy e0 oa ad2 s H ((ad, L, S, N), f0) (F, C, R, T)) (hl : lv_has ls 7 (lvL b oa t ad ad2))
    (kk : ∀ (H : Heap) (u : LU) (v : MS) (ls : Array Slot), LI dC dI cy e0 oa ad2 s H u v → lv_has ls 7 (lvL b oa t u.1.1 ad2) → W p l e room_1 s m (#[Value.ref b] : Array Value) below meth c H [] (cells + 100) (slots + 5000) Q (F0 m 1303 ls [])) :
    W p l e room_1 s m (#[Value.ref b] : Array Value) below meth c H [] cells slots Q (F0 m 692 ls []) := by
  obtain ⟨hx, hb, hml, hown, hts, hXs, hbl, hK, ham, hst⟩ := hF
  obtain ⟨hP, hD, hS, ⟨hI, hX⟩, hJ, hM⟩ := hI0
  have hN := okS_of hI
  obtain ⟨q9, q14, qT, qV, qC, qn⟩ := JJ_T hJ hN
  have hA : ∀ q, s.heap.size ≤ q → freshA s q := fun q h => h
  have hbA : ¬ freshA s b := fun h => Nat.lt_irrefl _ (Nat.lt_of_lt_of_le hbl h)
  have hP : va_P (dC, dI) vwCl ((cw cy e0 ad L S N ++ [(oa, .inl (cy 5, 1, .inr (.inl f0)))]) ++ mwU ad2 cy (F, C, R, T)) H := hP
  have hD : va_D (freshA s) ((cw cy e0 ad L S N ++ [(oa, .inl (cy 5, 1, .inr (.inl f0)))]) ++ mwU ad2 cy (F, C, R, T)) := hD
  refine lv_aload_n hx hb dL_law_692 rfl (lv_at hl 3 rfl) ?_
  refine lv_aload_n hx hb dL_law_693 rfl (lv_at hl 4 rfl) ?_
  refine lv_iload hx hb dL_law_694 (lv_at hl 0 rfl) ?_
  refine lv_iconst (v := nI 1) hx hb dL_law_696 (by decide) ?_
  refine lv_iadd hx hb dL_law_697 ?_
  refine to_i (y := nI ((6 * t) + 1)) (nI_add _ _) ?_
  refine va_sld hx hb hXs hbl hbA hS (i := nI (6 * t + 1)) (vp_in_nI (show 6 * t + 1 < Ls by omega) (by omega)) dL_law_698 ?_
  refine to_i (y := xs (6 * t + 1)) (by rw [nI_clamp (show 6 * t + 1 < 2 ^ 31 by omega)]) ?_
  refine lv_aload_n hx hb dL_law_699 rfl (lv_at hl 1 rfl) ?_
  refine callY_i hP (vx_runSW (As := [.ref (ad (10, 0)), .int (xs (6 * t + 1)), .ref oa]) (rest := []) ⟨hx, hb, hml, hown, hts⟩ (qL_whyNot l dC dI cy e0 mi oa ad L S N f0 H.size (xs (6 * t + 1)) hI hX hst) (vx_cwSW 3 hts gL_law_L_whyNot rfl rfl rfl (by decide +kernel) ⟨Nat.le_of_ble_eq_true rfl, Nat.le_of_ble_eq_true rfl⟩) (preLS hK (w_leftP hP) (w_leftD hD) hS hA ham) rfl rfl hl.1 rfl (lv_room (Nat.le_of_ble_eq_true rfl)) dL_law_700 ⟨by show _ ≤ 601024; omega, by show _ ≤ 7293034; omega⟩) hD hS hA (fun rr ul H locs hw hP hD hS => ?_)
  obtain ⟨er, hok0, hno, hokU, had⟩ := hw
  refine lv_istore (lv' := [(5, .int rr), (4, .int (nI (6 * t))), (3, .ref oa), (2, .ref ((ad2 0))), (1, .ref (ad (10, 0))), (0, .ref b)]) hx hb dL_law_703 hl (by decide) rfl (fun ls hl => ?_)
  refine lv_aload_n hx hb dL_law_705 rfl (lv_at hl 3 rfl) ?_
  refine lv_aload_n hx hb dL_law_706 rfl (lv_at hl 5 rfl) ?_
  refine lv_iload hx hb dL_law_707 (lv_at hl 1 rfl) ?_
  refine lv_iconst (v := nI 1) hx hb dL_law_709 (by decide) ?_
  refine lv_iadd hx hb dL_law_710 ?_
  refine to_i (y := nI ((6 * t) + 1)) (nI_add _ _) ?_
  refine va_sld hx hb hXs hbl hbA hS (i := nI (6 * t + 1)) (vp_in_nI (show 6 * t + 1 < Ls by omega) (by omega)) dL_law_711 ?_
  refine to_i (y := xs (6 * t + 1)) (by rw [nI_clamp (show 6 * t + 1 < 2 ^ 31 by omega)]) ?_
  have hPm := w_swP hP
  have hDm := w_swD hD
  refine callY_i hPm (va_runV (As := [.int (xs (6 * t + 1))]) (rest := []) ⟨hx, hb, hml, hown, hts⟩ (qX4_whyNot l dC dI cy ad2 F C R T H.size (xs (6 * t + 1)) q9 qV) (cwV 1 hts gL_law_X4_whyNot rfl rfl rfl (by decide +kernel) ⟨Nat.le_of_ble_eq_true rfl, Nat.le_of_ble_eq_true rfl⟩) (preV hK (w_leftP hPm) (w_leftD hDm) (w_recv (ci := 5) (q0 := 0) hK (w_leftP hPm) rfl rfl)) rfl rfl hl.1 rfl (lv_room (Nat.le_of_ble_eq_true rfl)) dL_law_712 ⟨by show _ ≤ 601024; omega, by show _ ≤ 7293034; omega⟩) hDm hS hA (fun ra vv H locs hw2 hP hD hS => ?_)
  have ev : vv = (M_whyNot F C R T (xs (6 * t + 1))).2 := congrArg Prod.snd hw2
  have ea : ra = (M_whyNot F C R T (xs (6 * t + 1))).1 := congrArg Prod.fst hw2
  obtain ⟨j1, j2, j3⟩ := j_whyNot hJ hN (xs (6 * t + 1))
  rw [← ev] at j1 j2 j3
  rw [← ea] at j2
  have hJ2 : JJ ul.1.2.2 vv ∧ jM ul.1.2.2 := by
    by_cases hV : (V_at N 0 (xs (6 * t + 1))) = 0
    · rw [(hok0 hV).2]
      exact ⟨(j2 hV).2, hM⟩
    · rw [hno hV]
      exact ⟨j3 hV, hM⟩
  refine lv_istore (lv' := [(6, .int ra), (5, .int rr), (4, .int (nI (6 * t))), (3, .ref oa), (2, .ref ((ad2 0))), (1, .ref (ad (10, 0))), (0, .ref b)]) hx hb dL_law_715 hl (by decide) rfl (fun ls hl => ?_)
  refine lv_aload_n hx hb dL_law_717 rfl (lv_at hl 4 rfl) ?_
  refine callY_i hP (va_runV (As := []) (rest := []) ⟨hx, hb, hml, hown, hts⟩ (qX4_thrown l dC dI cy ad2 vv.1 vv.2.1 vv.2.2.1 vv.2.2.2 H.size) (cwV 0 hts gL_law_X4_thrown rfl rfl rfl (by decide +kernel) ⟨Nat.le_of_ble_eq_true rfl, Nat.le_of_ble_eq_true rfl⟩) (preV hK (w_leftP hP) (w_leftD hD) (w_recv (ci := 5) (q0 := 0) hK (w_leftP hP) rfl rfl)) rfl rfl hl.1 rfl (lv_room (Nat.le_of_ble_eq_true rfl)) dL_law_718 ⟨by show _ ≤ 601024; omega, by show _ ≤ 7293034; omega⟩) hD hS hA (fun rt v2 H locs hw3 hP hD hS => ?_)
  obtain ⟨et, ev2⟩ := hw3
  have ev3 : vv = v2 := ev2.symm
  subst ev3
  have hP := w_swP hP
  have hD := w_swD hD
  refine lv_iload hx hb dL_law_721 (lv_at hl 1 rfl) ?_
  refine lv_icmp_eq (tgt := 728) hx hb dL_law_723 (by decide) (fun _ => ?_) (fun h9 => absurd ((et.trans j1).trans er.symm) h9)
  refine lv_iload hx hb dL_law_728 (lv_at hl 1 rfl) ?_
  refine lv_if_ne (tgt := 745) hx hb dL_law_730 (by decide) (fun h8 => ?_) (fun h8 => ?_)
  · refine lv_goto (tgt := 1303) hx hb dL_law_745 (by decide) ?_
    exact va_forget (fun q hq => hS.2.2 q hq) (W.widen (k := cells + 100) (n := slots + 5000) (by omega) (by omega) (kk H _ _ _ ⟨hP, hD, ⟨hS.1, hS.2.1, fun _ h => by cases h⟩, hokU, hJ2.1, hJ2.2⟩ (by rw [show lvL b oa t ul.1.1 ad2 = lvL b oa t ad ad2 by unfold lvL; rw [had]]; exact lv_sub hl [2, 3, 4, 5, 6] rfl)))
  · have hV : (V_at N 0 (xs (6 * t + 1))) = 0 := V_0 (by unfold V_at; (repeat' split) <;> omega) (er.symm.trans h8)
    have eo : ul.2 0 = (nI (K_obst S N (ix (xs (6 * t + 1))))).toInt64 := (hok0 hV).1
    have er2 : ra = nI (K_obst S N (ix (xs (6 * t + 1)))) := (j2 hV).1
    refine lv_aload_n hx hb dL_law_733 rfl (lv_at hl 3 rfl) ?_
    refine lv_iconst (v := nI 0) hx hb dL_law_734 (by decide) ?_
    refine va_lald hx hb hK (w_leftP hP) (pl ul.1.2.1 ul.1.1 (cc cy e0 ul.1.1 ul.1.2.2.1 ul.1.2.2.2)).length 5 (app_r (k := 0) rfl) rfl (vp_in_nI (show 0 < 1 by decide) (by decide)) dL_law_735 ?_
    rw [nI_clamp (by decide)]
    refine lv_iload hx hb dL_law_736 (lv_at hl 0 rfl) ?_
    refine lv_i2l hx hb dL_law_738 rfl ?_
    refine W.lcmp hx hb dL_law_739 ?_
    refine to_i (y := 0) (by rw [eo, er2]; exact cmp_rf _) ?_
    refine lv_if_eq (tgt := 745) hx hb dL_law_740 (by decide) (fun _ => ?_) (fun h9 => absurd rfl h9)
    refine lv_goto (tgt := 1303) hx hb dL_law_745 (by decide) ?_
    exact va_forget (fun q hq => hS.2.2 q hq) (W.widen (k := cells + 100) (n := slots + 5000) (by omega) (by omega) (kk H _ _ _ ⟨hP, hD, ⟨hS.1, hS.2.1, fun _ h => by cases h⟩, hokU, hJ2.1, hJ2.2⟩ (by rw [show lvL b oa t ul.1.1 ad2 = lvL b oa t ad ad2 by unfold lvL; rw [had]]; exact lv_sub hl [2, 3, 4, 5, 6] rfl)))

set_option maxHeartbeats 4000000 in
set_option maxRecDepth 100000 in
theorem s_sign {p : Program} {l : Launch} {e : Env} {s : State} {m : MethodId} {below : List Frame} {meth : Method} {c : Code} {b Ls : Nat} {xs : Nat → Int32} {dC : Nat → ClassId} {dI : Nat → Nat → Nat} {cy : Nat → ClassId} {e0 mi oa : Nat} {ad : Lc → Nat} {L : List Lc} {S : SS} {N : NN} {f0 : Nat → Int64} {ad2 : Nat → Nat} {F : Nat → Int32} {C : Nat → Nat} {R : Nat → Nat → Int32} {T : Nat → Nat → Nat} {H : Heap} {ls : Array Slot} {t cells slots : Nat} {Q : State → Prop}
    (hF : LF p l s m c b Ls xs dC dI cy e0 mi) (hLs : Ls ≤ 3072) (ht : 6 * t + 6 ≤ Ls) (hc : cells + 100 ≤ 601024) (hsl : slots + 5000 ≤ 7293034) (hI0 : LI dC dI cy e0 oa ad2 s H ((ad, L, S, N), f0) (F, C, R, T)) (hl : lv_has ls 7 (lvL b oa t ad ad2))
    (kk : ∀ (H : Heap) (u : LU) (v : MS) (ls : Array Slot), LI dC dI cy e0 oa ad2 s H u v → lv_has ls 7 (lvL b oa t u.1.1 ad2) → W p l e room_1 s m (#[Value.ref b] : Array Value) below meth c H [] (cells + 100) (slots + 5000) Q (F0 m 1303 ls [])) :
    W p l e room_1 s m (#[Value.ref b] : Array Value) below meth c H [] cells slots Q (F0 m 748 ls []) := by
  obtain ⟨hx, hb, hml, hown, hts, hXs, hbl, hK, ham, hst⟩ := hF
  obtain ⟨hP, hD, hS, ⟨hI, hX⟩, hJ, hM⟩ := hI0
  have hN := okS_of hI
  obtain ⟨q9, q14, qT, qV, qC, qn⟩ := JJ_T hJ hN
  have hA : ∀ q, s.heap.size ≤ q → freshA s q := fun q h => h
  have hbA : ¬ freshA s b := fun h => Nat.lt_irrefl _ (Nat.lt_of_lt_of_le hbl h)
  have hP : va_P (dC, dI) vwCl ((cw cy e0 ad L S N ++ [(oa, .inl (cy 5, 1, .inr (.inl f0)))]) ++ mwU ad2 cy (F, C, R, T)) H := hP
  have hD : va_D (freshA s) ((cw cy e0 ad L S N ++ [(oa, .inl (cy 5, 1, .inr (.inl f0)))]) ++ mwU ad2 cy (F, C, R, T)) := hD
  refine lv_aload_n hx hb dL_law_748 rfl (lv_at hl 3 rfl) ?_
  refine lv_aload_n hx hb dL_law_749 rfl (lv_at hl 4 rfl) ?_
  refine lv_iload hx hb dL_law_750 (lv_at hl 0 rfl) ?_
  refine lv_iconst (v := nI 1) hx hb dL_law_752 (by decide) ?_
  refine lv_iadd hx hb dL_law_753 ?_
  refine to_i (y := nI ((6 * t) + 1)) (nI_add _ _) ?_
  refine va_sld hx hb hXs hbl hbA hS (i := nI (6 * t + 1)) (vp_in_nI (show 6 * t + 1 < Ls by omega) (by omega)) dL_law_754 ?_
  refine to_i (y := xs (6 * t + 1)) (by rw [nI_clamp (show 6 * t + 1 < 2 ^ 31 by omega)]) ?_
  refine lv_aload_n hx hb dL_law_755 rfl (lv_at hl 4 rfl) ?_
  refine lv_iload hx hb dL_law_756 (lv_at hl 0 rfl) ?_
  refine lv_iconst (v := nI 2) hx hb dL_law_758 (by decide) ?_
  refine lv_iadd hx hb dL_law_759 ?_
  refine to_i (y := nI ((6 * t) + 2)) (nI_add _ _) ?_
  refine va_sld hx hb hXs hbl hbA hS (i := nI (6 * t + 2)) (vp_in_nI (show 6 * t + 2 < Ls by omega) (by omega)) dL_law_760 ?_
  refine to_i (y := xs (6 * t + 2)) (by rw [nI_clamp (show 6 * t + 2 < 2 ^ 31 by omega)]) ?_
  refine lv_aload_n hx hb dL_law_761 rfl (lv_at hl 1 rfl) ?_
  refine callY_i hP (vx_runSW (As := [.ref (ad (10, 0)), .int (xs (6 * t + 1)), .int (xs (6 * t + 2)), .ref oa]) (rest := []) ⟨hx, hb, hml, hown, hts⟩ (qL_sign l dC dI cy e0 mi oa ad L S N f0 H.size (xs (6 * t + 1)) (xs (6 * t + 2)) hI hX (fun i hi hd => dr_bound hJ hN hi hd) hst) (vx_cwSW 4 hts gL_law_L_sign rfl rfl rfl (by decide +kernel) ⟨Nat.le_of_ble_eq_true rfl, Nat.le_of_ble_eq_true rfl⟩) (preLS hK (w_leftP hP) (w_leftD hD) hS hA ham) rfl rfl hl.1 rfl (lv_room (Nat.le_of_ble_eq_true rfl)) dL_law_762 ⟨by show _ ≤ 601024; omega, by show _ ≤ 7293034; omega⟩) hD hS hA (fun rr ul H locs hw hP hD hS => ?_)
  obtain ⟨er, hok0, hno, hokU, had⟩ := hw
  refine lv_istore (lv' := [(5, .int rr), (4, .int (nI (6 * t))), (3, .ref oa), (2, .ref ((ad2 0))), (1, .ref (ad (10, 0))), (0, .ref b)]) hx hb dL_law_765 hl (by decide) rfl (fun ls hl => ?_)
  refine lv_aload_n hx hb dL_law_767 rfl (lv_at hl 3 rfl) ?_
  refine lv_aload_n hx hb dL_law_768 rfl (lv_at hl 5 rfl) ?_
  refine lv_iload hx hb dL_law_769 (lv_at hl 1 rfl) ?_
  refine lv_iconst (v := nI 1) hx hb dL_law_771 (by decide) ?_
  refine lv_iadd hx hb dL_law_772 ?_
  refine to_i (y := nI ((6 * t) + 1)) (nI_add _ _) ?_
  refine va_sld hx hb hXs hbl hbA hS (i := nI (6 * t + 1)) (vp_in_nI (show 6 * t + 1 < Ls by omega) (by omega)) dL_law_773 ?_
  refine to_i (y := xs (6 * t + 1)) (by rw [nI_clamp (show 6 * t + 1 < 2 ^ 31 by omega)]) ?_
  refine lv_aload_n hx hb dL_law_774 rfl (lv_at hl 5 rfl) ?_
  refine lv_iload hx hb dL_law_775 (lv_at hl 1 rfl) ?_
  refine lv_iconst (v := nI 2) hx hb dL_law_777 (by decide) ?_
  refine lv_iadd hx hb dL_law_778 ?_
  refine to_i (y := nI ((6 * t) + 2)) (nI_add _ _) ?_
  refine va_sld hx hb hXs hbl hbA hS (i := nI (6 * t + 2)) (vp_in_nI (show 6 * t + 2 < Ls by omega) (by omega)) dL_law_779 ?_
  refine to_i (y := xs (6 * t + 2)) (by rw [nI_clamp (show 6 * t + 2 < 2 ^ 31 by omega)]) ?_
  have hPm := w_swP hP
  have hDm := w_swD hD
  refine callY_i hPm (va_runV (As := [.int (xs (6 * t + 1)), .int (xs (6 * t + 2))]) (rest := []) ⟨hx, hb, hml, hown, hts⟩ (qX4_sign l dC dI cy ad2 F C R T H.size (xs (6 * t + 1)) (xs (6 * t + 2)) q9 qV qn) (cwV 2 hts gL_law_X4_sign rfl rfl rfl (by decide +kernel) ⟨Nat.le_of_ble_eq_true rfl, Nat.le_of_ble_eq_true rfl⟩) (preV hK (w_leftP hPm) (w_leftD hDm) (w_recv (ci := 5) (q0 := 0) hK (w_leftP hPm) rfl rfl)) rfl rfl hl.1 rfl (lv_room (Nat.le_of_ble_eq_true rfl)) dL_law_780 ⟨by show _ ≤ 601024; omega, by show _ ≤ 7293034; omega⟩) hDm hS hA (fun ra vv H locs hw2 hP hD hS => ?_)
  have ev : vv = (M_sign F C R T (xs (6 * t + 1)) (xs (6 * t + 2))).2 := congrArg Prod.snd hw2
  have ea : ra = (M_sign F C R T (xs (6 * t + 1)) (xs (6 * t + 2))).1 := congrArg Prod.fst hw2
  obtain ⟨⟨j1, j2, j3⟩, jm⟩ := j_sign hJ hN hM (xs (6 * t + 1)) (xs (6 * t + 2))
  rw [← ev] at j1 j2 j3
  rw [← ea] at j2
  have hJ2 : JJ ul.1.2.2 vv ∧ jM ul.1.2.2 := by
    by_cases hV : (V_sign S N (xs (6 * t + 1)) (xs (6 * t + 2))) = 0
    · rw [(hok0 hV).2]
      exact ⟨(j2 hV).2, jm hV⟩
    · rw [hno hV]
      exact ⟨j3 hV, hM⟩
  refine lv_istore (lv' := [(6, .int ra), (5, .int rr), (4, .int (nI (6 * t))), (3, .ref oa), (2, .ref ((ad2 0))), (1, .ref (ad (10, 0))), (0, .ref b)]) hx hb dL_law_783 hl (by decide) rfl (fun ls hl => ?_)
  refine lv_aload_n hx hb dL_law_785 rfl (lv_at hl 4 rfl) ?_
  refine callY_i hP (va_runV (As := []) (rest := []) ⟨hx, hb, hml, hown, hts⟩ (qX4_thrown l dC dI cy ad2 vv.1 vv.2.1 vv.2.2.1 vv.2.2.2 H.size) (cwV 0 hts gL_law_X4_thrown rfl rfl rfl (by decide +kernel) ⟨Nat.le_of_ble_eq_true rfl, Nat.le_of_ble_eq_true rfl⟩) (preV hK (w_leftP hP) (w_leftD hD) (w_recv (ci := 5) (q0 := 0) hK (w_leftP hP) rfl rfl)) rfl rfl hl.1 rfl (lv_room (Nat.le_of_ble_eq_true rfl)) dL_law_786 ⟨by show _ ≤ 601024; omega, by show _ ≤ 7293034; omega⟩) hD hS hA (fun rt v2 H locs hw3 hP hD hS => ?_)
  obtain ⟨et, ev2⟩ := hw3
  have ev3 : vv = v2 := ev2.symm
  subst ev3
  have hP := w_swP hP
  have hD := w_swD hD
  refine lv_iload hx hb dL_law_789 (lv_at hl 1 rfl) ?_
  refine lv_icmp_eq (tgt := 796) hx hb dL_law_791 (by decide) (fun _ => ?_) (fun h9 => absurd ((et.trans j1).trans er.symm) h9)
  refine lv_iload hx hb dL_law_796 (lv_at hl 1 rfl) ?_
  refine lv_if_ne (tgt := 813) hx hb dL_law_798 (by decide) (fun h8 => ?_) (fun h8 => ?_)
  · refine lv_goto (tgt := 1303) hx hb dL_law_813 (by decide) ?_
    exact va_forget (fun q hq => hS.2.2 q hq) (W.widen (k := cells + 100) (n := slots + 5000) (by omega) (by omega) (kk H _ _ _ ⟨hP, hD, ⟨hS.1, hS.2.1, fun _ h => by cases h⟩, hokU, hJ2.1, hJ2.2⟩ (by rw [show lvL b oa t ul.1.1 ad2 = lvL b oa t ad ad2 by unfold lvL; rw [had]]; exact lv_sub hl [2, 3, 4, 5, 6] rfl)))
  · have hV : (V_sign S N (xs (6 * t + 1)) (xs (6 * t + 2))) = 0 := V_0 (by unfold V_sign; (repeat' split) <;> omega) (er.symm.trans h8)
    have eo : ul.2 0 = ((if isDr (S_sgn S (ix (xs (6 * t + 1))) (ix (xs (6 * t + 2)))) (ix (xs (6 * t + 1))) then nI 0 else nI (K_made (S_sgn S (ix (xs (6 * t + 1))) (ix (xs (6 * t + 2)))) N (ix (xs (6 * t + 1))) 10))).toInt64 := (hok0 hV).1
    have er2 : ra = (if isDr (S_sgn S (ix (xs (6 * t + 1))) (ix (xs (6 * t + 2)))) (ix (xs (6 * t + 1))) then nI 0 else nI (K_made (S_sgn S (ix (xs (6 * t + 1))) (ix (xs (6 * t + 2)))) N (ix (xs (6 * t + 1))) 10)) := (j2 hV).1
    refine lv_aload_n hx hb dL_law_801 rfl (lv_at hl 3 rfl) ?_
    refine lv_iconst (v := nI 0) hx hb dL_law_802 (by decide) ?_
    refine va_lald hx hb hK (w_leftP hP) (pl ul.1.2.1 ul.1.1 (cc cy e0 ul.1.1 ul.1.2.2.1 ul.1.2.2.2)).length 5 (app_r (k := 0) rfl) rfl (vp_in_nI (show 0 < 1 by decide) (by decide)) dL_law_803 ?_
    rw [nI_clamp (by decide)]
    refine lv_iload hx hb dL_law_804 (lv_at hl 0 rfl) ?_
    refine lv_i2l hx hb dL_law_806 rfl ?_
    refine W.lcmp hx hb dL_law_807 ?_
    refine to_i (y := 0) (by rw [eo, er2]; exact cmp_rf _) ?_
    refine lv_if_eq (tgt := 813) hx hb dL_law_808 (by decide) (fun _ => ?_) (fun h9 => absurd rfl h9)
    refine lv_goto (tgt := 1303) hx hb dL_law_813 (by decide) ?_
    exact va_forget (fun q hq => hS.2.2 q hq) (W.widen (k := cells + 100) (n := slots + 5000) (by omega) (by omega) (kk H _ _ _ ⟨hP, hD, ⟨hS.1, hS.2.1, fun _ h => by cases h⟩, hokU, hJ2.1, hJ2.2⟩ (by rw [show lvL b oa t ul.1.1 ad2 = lvL b oa t ad ad2 by unfold lvL; rw [had]]; exact lv_sub hl [2, 3, 4, 5, 6] rfl)))

set_option maxHeartbeats 4000000 in
set_option maxRecDepth 100000 in
theorem s_pass {p : Program} {l : Launch} {e : Env} {s : State} {m : MethodId} {below : List Frame} {meth : Method} {c : Code} {b Ls : Nat} {xs : Nat → Int32} {dC : Nat → ClassId} {dI : Nat → Nat → Nat} {cy : Nat → ClassId} {e0 mi oa : Nat} {ad : Lc → Nat} {L : List Lc} {S : SS} {N : NN} {f0 : Nat → Int64} {ad2 : Nat → Nat} {F : Nat → Int32} {C : Nat → Nat} {R : Nat → Nat → Int32} {T : Nat → Nat → Nat} {H : Heap} {ls : Array Slot} {t cells slots : Nat} {Q : State → Prop}
    (hF : LF p l s m c b Ls xs dC dI cy e0 mi) (hLs : Ls ≤ 3072) (ht : 6 * t + 6 ≤ Ls) (hc : cells + 100 ≤ 601024) (hsl : slots + 5000 ≤ 7293034) (hI0 : LI dC dI cy e0 oa ad2 s H ((ad, L, S, N), f0) (F, C, R, T)) (hl : lv_has ls 7 (lvL b oa t ad ad2))
    (kk : ∀ (H : Heap) (u : LU) (v : MS) (ls : Array Slot), LI dC dI cy e0 oa ad2 s H u v → lv_has ls 7 (lvL b oa t u.1.1 ad2) → W p l e room_1 s m (#[Value.ref b] : Array Value) below meth c H [] (cells + 100) (slots + 5000) Q (F0 m 1303 ls [])) :
    W p l e room_1 s m (#[Value.ref b] : Array Value) below meth c H [] cells slots Q (F0 m 816 ls []) := by
  obtain ⟨hx, hb, hml, hown, hts, hXs, hbl, hK, ham, hst⟩ := hF
  obtain ⟨hP, hD, hS, ⟨hI, hX⟩, hJ, hM⟩ := hI0
  have hN := okS_of hI
  obtain ⟨q9, q14, qT, qV, qC, qn⟩ := JJ_T hJ hN
  have hA : ∀ q, s.heap.size ≤ q → freshA s q := fun q h => h
  have hbA : ¬ freshA s b := fun h => Nat.lt_irrefl _ (Nat.lt_of_lt_of_le hbl h)
  have hP : va_P (dC, dI) vwCl ((cw cy e0 ad L S N ++ [(oa, .inl (cy 5, 1, .inr (.inl f0)))]) ++ mwU ad2 cy (F, C, R, T)) H := hP
  have hD : va_D (freshA s) ((cw cy e0 ad L S N ++ [(oa, .inl (cy 5, 1, .inr (.inl f0)))]) ++ mwU ad2 cy (F, C, R, T)) := hD
  refine lv_aload_n hx hb dL_law_816 rfl (lv_at hl 3 rfl) ?_
  refine lv_aload_n hx hb dL_law_817 rfl (lv_at hl 4 rfl) ?_
  refine lv_iload hx hb dL_law_818 (lv_at hl 0 rfl) ?_
  refine lv_iconst (v := nI 1) hx hb dL_law_820 (by decide) ?_
  refine lv_iadd hx hb dL_law_821 ?_
  refine to_i (y := nI ((6 * t) + 1)) (nI_add _ _) ?_
  refine va_sld hx hb hXs hbl hbA hS (i := nI (6 * t + 1)) (vp_in_nI (show 6 * t + 1 < Ls by omega) (by omega)) dL_law_822 ?_
  refine to_i (y := xs (6 * t + 1)) (by rw [nI_clamp (show 6 * t + 1 < 2 ^ 31 by omega)]) ?_
  refine lv_aload_n hx hb dL_law_823 rfl (lv_at hl 1 rfl) ?_
  refine callY_i hP (vx_runSW (As := [.ref (ad (10, 0)), .int (xs (6 * t + 1)), .ref oa]) (rest := []) ⟨hx, hb, hml, hown, hts⟩ (qL_pass l dC dI cy e0 mi oa ad L S N f0 H.size (xs (6 * t + 1)) hI hX hst) (vx_cwSW 3 hts gL_law_L_pass rfl rfl rfl (by decide +kernel) ⟨Nat.le_of_ble_eq_true rfl, Nat.le_of_ble_eq_true rfl⟩) (preLS hK (w_leftP hP) (w_leftD hD) hS hA ham) rfl rfl hl.1 rfl (lv_room (Nat.le_of_ble_eq_true rfl)) dL_law_824 ⟨by show _ ≤ 601024; omega, by show _ ≤ 7293034; omega⟩) hD hS hA (fun rr ul H locs hw hP hD hS => ?_)
  obtain ⟨er, hok0, hno, hokU, had⟩ := hw
  refine lv_istore (lv' := [(5, .int rr), (4, .int (nI (6 * t))), (3, .ref oa), (2, .ref ((ad2 0))), (1, .ref (ad (10, 0))), (0, .ref b)]) hx hb dL_law_827 hl (by decide) rfl (fun ls hl => ?_)
  refine lv_aload_n hx hb dL_law_829 rfl (lv_at hl 3 rfl) ?_
  refine lv_aload_n hx hb dL_law_830 rfl (lv_at hl 5 rfl) ?_
  refine lv_iload hx hb dL_law_831 (lv_at hl 1 rfl) ?_
  refine lv_iconst (v := nI 1) hx hb dL_law_833 (by decide) ?_
  refine lv_iadd hx hb dL_law_834 ?_
  refine to_i (y := nI ((6 * t) + 1)) (nI_add _ _) ?_
  refine va_sld hx hb hXs hbl hbA hS (i := nI (6 * t + 1)) (vp_in_nI (show 6 * t + 1 < Ls by omega) (by omega)) dL_law_835 ?_
  refine to_i (y := xs (6 * t + 1)) (by rw [nI_clamp (show 6 * t + 1 < 2 ^ 31 by omega)]) ?_
  have hPm := w_swP hP
  have hDm := w_swD hD
  refine callY_i hPm (va_runV (As := [.int (xs (6 * t + 1))]) (rest := []) ⟨hx, hb, hml, hown, hts⟩ (qX4_pass l dC dI cy ad2 F C R T H.size (xs (6 * t + 1)) q14 qC) (cwV 1 hts gL_law_X4_pass rfl rfl rfl (by decide +kernel) ⟨Nat.le_of_ble_eq_true rfl, Nat.le_of_ble_eq_true rfl⟩) (preV hK (w_leftP hPm) (w_leftD hDm) (w_recv (ci := 5) (q0 := 0) hK (w_leftP hPm) rfl rfl)) rfl rfl hl.1 rfl (lv_room (Nat.le_of_ble_eq_true rfl)) dL_law_836 ⟨by show _ ≤ 601024; omega, by show _ ≤ 7293034; omega⟩) hDm hS hA (fun ra vv H locs hw2 hP hD hS => ?_)
  have ev : vv = (M_pass F C R T (xs (6 * t + 1))).2 := congrArg Prod.snd hw2
  have ea : ra = (M_pass F C R T (xs (6 * t + 1))).1 := congrArg Prod.fst hw2
  obtain ⟨j1, j2, j3⟩ := j_pass hJ hN (xs (6 * t + 1))
  rw [← ev] at j1 j2 j3
  rw [← ea] at j2
  have hJ2 : JJ ul.1.2.2 vv ∧ jM ul.1.2.2 := by
    by_cases hV : (V_pass S (xs (6 * t + 1))) = 0
    · rw [(hok0 hV).2]
      exact ⟨(j2 hV).2, m_pass hM _⟩
    · rw [hno hV]
      exact ⟨j3 hV, hM⟩
  refine lv_istore (lv' := [(6, .int ra), (5, .int rr), (4, .int (nI (6 * t))), (3, .ref oa), (2, .ref ((ad2 0))), (1, .ref (ad (10, 0))), (0, .ref b)]) hx hb dL_law_839 hl (by decide) rfl (fun ls hl => ?_)
  refine lv_aload_n hx hb dL_law_841 rfl (lv_at hl 4 rfl) ?_
  refine callY_i hP (va_runV (As := []) (rest := []) ⟨hx, hb, hml, hown, hts⟩ (qX4_thrown l dC dI cy ad2 vv.1 vv.2.1 vv.2.2.1 vv.2.2.2 H.size) (cwV 0 hts gL_law_X4_thrown rfl rfl rfl (by decide +kernel) ⟨Nat.le_of_ble_eq_true rfl, Nat.le_of_ble_eq_true rfl⟩) (preV hK (w_leftP hP) (w_leftD hD) (w_recv (ci := 5) (q0 := 0) hK (w_leftP hP) rfl rfl)) rfl rfl hl.1 rfl (lv_room (Nat.le_of_ble_eq_true rfl)) dL_law_842 ⟨by show _ ≤ 601024; omega, by show _ ≤ 7293034; omega⟩) hD hS hA (fun rt v2 H locs hw3 hP hD hS => ?_)
  obtain ⟨et, ev2⟩ := hw3
  have ev3 : vv = v2 := ev2.symm
  subst ev3
  have hP := w_swP hP
  have hD := w_swD hD
  refine lv_iload hx hb dL_law_845 (lv_at hl 1 rfl) ?_
  refine lv_icmp_eq (tgt := 852) hx hb dL_law_847 (by decide) (fun _ => ?_) (fun h9 => absurd ((et.trans j1).trans er.symm) h9)
  refine lv_iload hx hb dL_law_852 (lv_at hl 1 rfl) ?_
  refine lv_if_ne (tgt := 869) hx hb dL_law_854 (by decide) (fun h8 => ?_) (fun h8 => ?_)
  · refine lv_goto (tgt := 1303) hx hb dL_law_869 (by decide) ?_
    exact va_forget (fun q hq => hS.2.2 q hq) (W.widen (k := cells + 100) (n := slots + 5000) (by omega) (by omega) (kk H _ _ _ ⟨hP, hD, ⟨hS.1, hS.2.1, fun _ h => by cases h⟩, hokU, hJ2.1, hJ2.2⟩ (by rw [show lvL b oa t ul.1.1 ad2 = lvL b oa t ad ad2 by unfold lvL; rw [had]]; exact lv_sub hl [2, 3, 4, 5, 6] rfl)))
  · have hV : (V_pass S (xs (6 * t + 1))) = 0 := V_0 (by unfold V_pass; (repeat' split) <;> omega) (er.symm.trans h8)
    have eo : ul.2 0 = (nI (K_passN S N (ix (xs (6 * t + 1))))).toInt64 := (hok0 hV).1
    have er2 : ra = nI (K_passN S N (ix (xs (6 * t + 1)))) := (j2 hV).1
    refine lv_aload_n hx hb dL_law_857 rfl (lv_at hl 3 rfl) ?_
    refine lv_iconst (v := nI 0) hx hb dL_law_858 (by decide) ?_
    refine va_lald hx hb hK (w_leftP hP) (pl ul.1.2.1 ul.1.1 (cc cy e0 ul.1.1 ul.1.2.2.1 ul.1.2.2.2)).length 5 (app_r (k := 0) rfl) rfl (vp_in_nI (show 0 < 1 by decide) (by decide)) dL_law_859 ?_
    rw [nI_clamp (by decide)]
    refine lv_iload hx hb dL_law_860 (lv_at hl 0 rfl) ?_
    refine lv_i2l hx hb dL_law_862 rfl ?_
    refine W.lcmp hx hb dL_law_863 ?_
    refine to_i (y := 0) (by rw [eo, er2]; exact cmp_rf _) ?_
    refine lv_if_eq (tgt := 869) hx hb dL_law_864 (by decide) (fun _ => ?_) (fun h9 => absurd rfl h9)
    refine lv_goto (tgt := 1303) hx hb dL_law_869 (by decide) ?_
    exact va_forget (fun q hq => hS.2.2 q hq) (W.widen (k := cells + 100) (n := slots + 5000) (by omega) (by omega) (kk H _ _ _ ⟨hP, hD, ⟨hS.1, hS.2.1, fun _ h => by cases h⟩, hokU, hJ2.1, hJ2.2⟩ (by rw [show lvL b oa t ul.1.1 ad2 = lvL b oa t ad ad2 by unfold lvL; rw [had]]; exact lv_sub hl [2, 3, 4, 5, 6] rfl)))

set_option maxHeartbeats 4000000 in
set_option maxRecDepth 100000 in
theorem s_state {p : Program} {l : Launch} {e : Env} {s : State} {m : MethodId} {below : List Frame} {meth : Method} {c : Code} {b Ls : Nat} {xs : Nat → Int32} {dC : Nat → ClassId} {dI : Nat → Nat → Nat} {cy : Nat → ClassId} {e0 mi oa : Nat} {ad : Lc → Nat} {L : List Lc} {S : SS} {N : NN} {f0 : Nat → Int64} {ad2 : Nat → Nat} {F : Nat → Int32} {C : Nat → Nat} {R : Nat → Nat → Int32} {T : Nat → Nat → Nat} {H : Heap} {ls : Array Slot} {t cells slots : Nat} {Q : State → Prop}
    (hF : LF p l s m c b Ls xs dC dI cy e0 mi) (hLs : Ls ≤ 3072) (ht : 6 * t + 6 ≤ Ls) (hc : cells + 100 ≤ 601024) (hsl : slots + 5000 ≤ 7293034) (hI0 : LI dC dI cy e0 oa ad2 s H ((ad, L, S, N), f0) (F, C, R, T)) (hl : lv_has ls 7 (lvL b oa t ad ad2))
    (kk : ∀ (H : Heap) (u : LU) (v : MS) (ls : Array Slot), LI dC dI cy e0 oa ad2 s H u v → lv_has ls 7 (lvL b oa t u.1.1 ad2) → W p l e room_1 s m (#[Value.ref b] : Array Value) below meth c H [] (cells + 100) (slots + 5000) Q (F0 m 1303 ls [])) :
    W p l e room_1 s m (#[Value.ref b] : Array Value) below meth c H [] cells slots Q (F0 m 885 ls []) := by
  obtain ⟨hx, hb, hml, hown, hts, hXs, hbl, hK, ham, hst⟩ := hF
  obtain ⟨hP, hD, hS, ⟨hI, hX⟩, hJ, hM⟩ := hI0
  have hN := okS_of hI
  obtain ⟨q9, q14, qT, qV, qC, qn⟩ := JJ_T hJ hN
  have hA : ∀ q, s.heap.size ≤ q → freshA s q := fun q h => h
  have hbA : ¬ freshA s b := fun h => Nat.lt_irrefl _ (Nat.lt_of_lt_of_le hbl h)
  have hP : va_P (dC, dI) vwCl ((cw cy e0 ad L S N ++ [(oa, .inl (cy 5, 1, .inr (.inl f0)))]) ++ mwU ad2 cy (F, C, R, T)) H := hP
  have hD : va_D (freshA s) ((cw cy e0 ad L S N ++ [(oa, .inl (cy 5, 1, .inr (.inl f0)))]) ++ mwU ad2 cy (F, C, R, T)) := hD
  refine lv_aload_n hx hb dL_law_885 rfl (lv_at hl 3 rfl) ?_
  refine lv_aload_n hx hb dL_law_886 rfl (lv_at hl 4 rfl) ?_
  refine lv_iload hx hb dL_law_887 (lv_at hl 0 rfl) ?_
  refine lv_iconst (v := nI 1) hx hb dL_law_889 (by decide) ?_
  refine lv_iadd hx hb dL_law_890 ?_
  refine to_i (y := nI ((6 * t) + 1)) (nI_add _ _) ?_
  refine va_sld hx hb hXs hbl hbA hS (i := nI (6 * t + 1)) (vp_in_nI (show 6 * t + 1 < Ls by omega) (by omega)) dL_law_891 ?_
  refine to_i (y := xs (6 * t + 1)) (by rw [nI_clamp (show 6 * t + 1 < 2 ^ 31 by omega)]) ?_
  refine lv_aload_n hx hb dL_law_892 rfl (lv_at hl 1 rfl) ?_
  refine callY_i hP (vx_runSW (As := [.ref (ad (10, 0)), .int (xs (6 * t + 1)), .ref oa]) (rest := []) ⟨hx, hb, hml, hown, hts⟩ (qL_state l dC dI cy e0 mi oa ad L S N f0 H.size (xs (6 * t + 1)) hI hX hst) (vx_cwSW 3 hts gL_law_L_state rfl rfl rfl (by decide +kernel) ⟨Nat.le_of_ble_eq_true rfl, Nat.le_of_ble_eq_true rfl⟩) (preLS hK (w_leftP hP) (w_leftD hD) hS hA ham) rfl rfl hl.1 rfl (lv_room (Nat.le_of_ble_eq_true rfl)) dL_law_893 ⟨by show _ ≤ 601024; omega, by show _ ≤ 7293034; omega⟩) hD hS hA (fun rr ul H locs hw hP hD hS => ?_)
  obtain ⟨er, hok0, hno, hokU, had⟩ := hw
  refine lv_istore (lv' := [(5, .int rr), (4, .int (nI (6 * t))), (3, .ref oa), (2, .ref ((ad2 0))), (1, .ref (ad (10, 0))), (0, .ref b)]) hx hb dL_law_896 hl (by decide) rfl (fun ls hl => ?_)
  refine lv_aload_n hx hb dL_law_898 rfl (lv_at hl 3 rfl) ?_
  refine lv_aload_n hx hb dL_law_899 rfl (lv_at hl 5 rfl) ?_
  refine lv_iload hx hb dL_law_900 (lv_at hl 1 rfl) ?_
  refine lv_iconst (v := nI 1) hx hb dL_law_902 (by decide) ?_
  refine lv_iadd hx hb dL_law_903 ?_
  refine to_i (y := nI ((6 * t) + 1)) (nI_add _ _) ?_
  refine va_sld hx hb hXs hbl hbA hS (i := nI (6 * t + 1)) (vp_in_nI (show 6 * t + 1 < Ls by omega) (by omega)) dL_law_904 ?_
  refine to_i (y := xs (6 * t + 1)) (by rw [nI_clamp (show 6 * t + 1 < 2 ^ 31 by omega)]) ?_
  have hPm := w_swP hP
  have hDm := w_swD hD
  refine callY_i hPm (va_runV (As := [.int (xs (6 * t + 1))]) (rest := []) ⟨hx, hb, hml, hown, hts⟩ (qX4_state l dC dI cy ad2 F C R T H.size (xs (6 * t + 1)) q14) (cwV 1 hts gL_law_X4_state rfl rfl rfl (by decide +kernel) ⟨Nat.le_of_ble_eq_true rfl, Nat.le_of_ble_eq_true rfl⟩) (preV hK (w_leftP hPm) (w_leftD hDm) (w_recv (ci := 5) (q0 := 0) hK (w_leftP hPm) rfl rfl)) rfl rfl hl.1 rfl (lv_room (Nat.le_of_ble_eq_true rfl)) dL_law_905 ⟨by show _ ≤ 601024; omega, by show _ ≤ 7293034; omega⟩) hDm hS hA (fun ra vv H locs hw2 hP hD hS => ?_)
  have ev : vv = (M_state F C R T (xs (6 * t + 1))).2 := congrArg Prod.snd hw2
  have ea : ra = (M_state F C R T (xs (6 * t + 1))).1 := congrArg Prod.fst hw2
  obtain ⟨j1, j2, j3⟩ := j_state hJ hN (xs (6 * t + 1))
  rw [← ev] at j1 j2 j3
  rw [← ea] at j2
  have hJ2 : JJ ul.1.2.2 vv ∧ jM ul.1.2.2 := by
    by_cases hV : (V_at N 5 (xs (6 * t + 1))) = 0
    · rw [(hok0 hV).2]
      exact ⟨(j2 hV).2, hM⟩
    · rw [hno hV]
      exact ⟨j3 hV, hM⟩
  refine lv_istore (lv' := [(6, .int ra), (5, .int rr), (4, .int (nI (6 * t))), (3, .ref oa), (2, .ref ((ad2 0))), (1, .ref (ad (10, 0))), (0, .ref b)]) hx hb dL_law_908 hl (by decide) rfl (fun ls hl => ?_)
  refine lv_aload_n hx hb dL_law_910 rfl (lv_at hl 4 rfl) ?_
  refine callY_i hP (va_runV (As := []) (rest := []) ⟨hx, hb, hml, hown, hts⟩ (qX4_thrown l dC dI cy ad2 vv.1 vv.2.1 vv.2.2.1 vv.2.2.2 H.size) (cwV 0 hts gL_law_X4_thrown rfl rfl rfl (by decide +kernel) ⟨Nat.le_of_ble_eq_true rfl, Nat.le_of_ble_eq_true rfl⟩) (preV hK (w_leftP hP) (w_leftD hD) (w_recv (ci := 5) (q0 := 0) hK (w_leftP hP) rfl rfl)) rfl rfl hl.1 rfl (lv_room (Nat.le_of_ble_eq_true rfl)) dL_law_911 ⟨by show _ ≤ 601024; omega, by show _ ≤ 7293034; omega⟩) hD hS hA (fun rt v2 H locs hw3 hP hD hS => ?_)
  obtain ⟨et, ev2⟩ := hw3
  have ev3 : vv = v2 := ev2.symm
  subst ev3
  have hP := w_swP hP
  have hD := w_swD hD
  refine lv_iload hx hb dL_law_914 (lv_at hl 1 rfl) ?_
  refine lv_icmp_eq (tgt := 921) hx hb dL_law_916 (by decide) (fun _ => ?_) (fun h9 => absurd ((et.trans j1).trans er.symm) h9)
  refine lv_iload hx hb dL_law_921 (lv_at hl 1 rfl) ?_
  refine lv_if_ne (tgt := 938) hx hb dL_law_923 (by decide) (fun h8 => ?_) (fun h8 => ?_)
  · refine lv_goto (tgt := 1303) hx hb dL_law_938 (by decide) ?_
    exact va_forget (fun q hq => hS.2.2 q hq) (W.widen (k := cells + 100) (n := slots + 5000) (by omega) (by omega) (kk H _ _ _ ⟨hP, hD, ⟨hS.1, hS.2.1, fun _ h => by cases h⟩, hokU, hJ2.1, hJ2.2⟩ (by rw [show lvL b oa t ul.1.1 ad2 = lvL b oa t ad ad2 by unfold lvL; rw [had]]; exact lv_sub hl [2, 3, 4, 5, 6] rfl)))
  · have hV : (V_at N 5 (xs (6 * t + 1))) = 0 := V_0 (by unfold V_at; (repeat' split) <;> omega) (er.symm.trans h8)
    have eo : ul.2 0 = (S 9 (ix (xs (6 * t + 1))) 0).toInt64 := (hok0 hV).1
    have er2 : ra = S 9 (ix (xs (6 * t + 1))) 0 := (j2 hV).1
    refine lv_aload_n hx hb dL_law_926 rfl (lv_at hl 3 rfl) ?_
    refine lv_iconst (v := nI 0) hx hb dL_law_927 (by decide) ?_
    refine va_lald hx hb hK (w_leftP hP) (pl ul.1.2.1 ul.1.1 (cc cy e0 ul.1.1 ul.1.2.2.1 ul.1.2.2.2)).length 5 (app_r (k := 0) rfl) rfl (vp_in_nI (show 0 < 1 by decide) (by decide)) dL_law_928 ?_
    rw [nI_clamp (by decide)]
    refine lv_iload hx hb dL_law_929 (lv_at hl 0 rfl) ?_
    refine lv_i2l hx hb dL_law_931 rfl ?_
    refine W.lcmp hx hb dL_law_932 ?_
    refine to_i (y := 0) (by rw [eo, er2]; exact cmp_rf _) ?_
    refine lv_if_eq (tgt := 938) hx hb dL_law_933 (by decide) (fun _ => ?_) (fun h9 => absurd rfl h9)
    refine lv_goto (tgt := 1303) hx hb dL_law_938 (by decide) ?_
    exact va_forget (fun q hq => hS.2.2 q hq) (W.widen (k := cells + 100) (n := slots + 5000) (by omega) (by omega) (kk H _ _ _ ⟨hP, hD, ⟨hS.1, hS.2.1, fun _ h => by cases h⟩, hokU, hJ2.1, hJ2.2⟩ (by rw [show lvL b oa t ul.1.1 ad2 = lvL b oa t ad ad2 by unfold lvL; rw [had]]; exact lv_sub hl [2, 3, 4, 5, 6] rfl)))

set_option maxHeartbeats 4000000 in
set_option maxRecDepth 100000 in
theorem s_day {p : Program} {l : Launch} {e : Env} {s : State} {m : MethodId} {below : List Frame} {meth : Method} {c : Code} {b Ls : Nat} {xs : Nat → Int32} {dC : Nat → ClassId} {dI : Nat → Nat → Nat} {cy : Nat → ClassId} {e0 mi oa : Nat} {ad : Lc → Nat} {L : List Lc} {S : SS} {N : NN} {f0 : Nat → Int64} {ad2 : Nat → Nat} {F : Nat → Int32} {C : Nat → Nat} {R : Nat → Nat → Int32} {T : Nat → Nat → Nat} {H : Heap} {ls : Array Slot} {t cells slots : Nat} {Q : State → Prop}
    (hF : LF p l s m c b Ls xs dC dI cy e0 mi) (hLs : Ls ≤ 3072) (ht : 6 * t + 6 ≤ Ls) (hc : cells + 100 ≤ 601024) (hsl : slots + 5000 ≤ 7293034) (hI0 : LI dC dI cy e0 oa ad2 s H ((ad, L, S, N), f0) (F, C, R, T)) (hl : lv_has ls 7 (lvL b oa t ad ad2))
    (kk : ∀ (H : Heap) (u : LU) (v : MS) (ls : Array Slot), LI dC dI cy e0 oa ad2 s H u v → lv_has ls 7 (lvL b oa t u.1.1 ad2) → W p l e room_1 s m (#[Value.ref b] : Array Value) below meth c H [] (cells + 100) (slots + 5000) Q (F0 m 1303 ls [])) :
    W p l e room_1 s m (#[Value.ref b] : Array Value) below meth c H [] cells slots Q (F0 m 941 ls []) := by
  obtain ⟨hx, hb, hml, hown, hts, hXs, hbl, hK, ham, hst⟩ := hF
  obtain ⟨hP, hD, hS, ⟨hI, hX⟩, hJ, hM⟩ := hI0
  have hN := okS_of hI
  obtain ⟨q9, q14, qT, qV, qC, qn⟩ := JJ_T hJ hN
  have hA : ∀ q, s.heap.size ≤ q → freshA s q := fun q h => h
  have hbA : ¬ freshA s b := fun h => Nat.lt_irrefl _ (Nat.lt_of_lt_of_le hbl h)
  have hP : va_P (dC, dI) vwCl ((cw cy e0 ad L S N ++ [(oa, .inl (cy 5, 1, .inr (.inl f0)))]) ++ mwU ad2 cy (F, C, R, T)) H := hP
  have hD : va_D (freshA s) ((cw cy e0 ad L S N ++ [(oa, .inl (cy 5, 1, .inr (.inl f0)))]) ++ mwU ad2 cy (F, C, R, T)) := hD
  refine lv_aload_n hx hb dL_law_941 rfl (lv_at hl 3 rfl) ?_
  refine lv_aload_n hx hb dL_law_942 rfl (lv_at hl 4 rfl) ?_
  refine lv_iload hx hb dL_law_943 (lv_at hl 0 rfl) ?_
  refine lv_iconst (v := nI 1) hx hb dL_law_945 (by decide) ?_
  refine lv_iadd hx hb dL_law_946 ?_
  refine to_i (y := nI ((6 * t) + 1)) (nI_add _ _) ?_
  refine va_sld hx hb hXs hbl hbA hS (i := nI (6 * t + 1)) (vp_in_nI (show 6 * t + 1 < Ls by omega) (by omega)) dL_law_947 ?_
  refine to_i (y := xs (6 * t + 1)) (by rw [nI_clamp (show 6 * t + 1 < 2 ^ 31 by omega)]) ?_
  refine lv_aload_n hx hb dL_law_948 rfl (lv_at hl 1 rfl) ?_
  refine callY_i hP (vx_runSW (As := [.ref (ad (10, 0)), .int (xs (6 * t + 1)), .ref oa]) (rest := []) ⟨hx, hb, hml, hown, hts⟩ (qL_day l dC dI cy e0 mi oa ad L S N f0 H.size (xs (6 * t + 1)) hI hX hst) (vx_cwSW 3 hts gL_law_L_day rfl rfl rfl (by decide +kernel) ⟨Nat.le_of_ble_eq_true rfl, Nat.le_of_ble_eq_true rfl⟩) (preLS hK (w_leftP hP) (w_leftD hD) hS hA ham) rfl rfl hl.1 rfl (lv_room (Nat.le_of_ble_eq_true rfl)) dL_law_949 ⟨by show _ ≤ 601024; omega, by show _ ≤ 7293034; omega⟩) hD hS hA (fun rr ul H locs hw hP hD hS => ?_)
  obtain ⟨er, hok0, hno, hokU, had⟩ := hw
  refine lv_istore (lv' := [(5, .int rr), (4, .int (nI (6 * t))), (3, .ref oa), (2, .ref ((ad2 0))), (1, .ref (ad (10, 0))), (0, .ref b)]) hx hb dL_law_952 hl (by decide) rfl (fun ls hl => ?_)
  refine lv_aload_n hx hb dL_law_954 rfl (lv_at hl 3 rfl) ?_
  refine lv_aload_n hx hb dL_law_955 rfl (lv_at hl 5 rfl) ?_
  refine lv_iload hx hb dL_law_956 (lv_at hl 1 rfl) ?_
  refine lv_iconst (v := nI 1) hx hb dL_law_958 (by decide) ?_
  refine lv_iadd hx hb dL_law_959 ?_
  refine to_i (y := nI ((6 * t) + 1)) (nI_add _ _) ?_
  refine va_sld hx hb hXs hbl hbA hS (i := nI (6 * t + 1)) (vp_in_nI (show 6 * t + 1 < Ls by omega) (by omega)) dL_law_960 ?_
  refine to_i (y := xs (6 * t + 1)) (by rw [nI_clamp (show 6 * t + 1 < 2 ^ 31 by omega)]) ?_
  have hPm := w_swP hP
  have hDm := w_swD hD
  refine callY_i hPm (va_runV (As := [.int (xs (6 * t + 1))]) (rest := []) ⟨hx, hb, hml, hown, hts⟩ (qX4_day l dC dI cy ad2 F C R T H.size (xs (6 * t + 1)) q14) (cwV 1 hts gL_law_X4_day rfl rfl rfl (by decide +kernel) ⟨Nat.le_of_ble_eq_true rfl, Nat.le_of_ble_eq_true rfl⟩) (preV hK (w_leftP hPm) (w_leftD hDm) (w_recv (ci := 5) (q0 := 0) hK (w_leftP hPm) rfl rfl)) rfl rfl hl.1 rfl (lv_room (Nat.le_of_ble_eq_true rfl)) dL_law_961 ⟨by show _ ≤ 601024; omega, by show _ ≤ 7293034; omega⟩) hDm hS hA (fun ra vv H locs hw2 hP hD hS => ?_)
  have ev : vv = (M_day F C R T (xs (6 * t + 1))).2 := congrArg Prod.snd hw2
  have ea : ra = (M_day F C R T (xs (6 * t + 1))).1 := congrArg Prod.fst hw2
  obtain ⟨j1, j2, j3⟩ := j_day hJ hN (xs (6 * t + 1))
  rw [← ev] at j1 j2 j3
  rw [← ea] at j2
  have hJ2 : JJ ul.1.2.2 vv ∧ jM ul.1.2.2 := by
    by_cases hV : (V_at N 5 (xs (6 * t + 1))) = 0
    · rw [(hok0 hV).2]
      exact ⟨(j2 hV).2, hM⟩
    · rw [hno hV]
      exact ⟨j3 hV, hM⟩
  refine lv_istore (lv' := [(6, .int ra), (5, .int rr), (4, .int (nI (6 * t))), (3, .ref oa), (2, .ref ((ad2 0))), (1, .ref (ad (10, 0))), (0, .ref b)]) hx hb dL_law_964 hl (by decide) rfl (fun ls hl => ?_)
  refine lv_aload_n hx hb dL_law_966 rfl (lv_at hl 4 rfl) ?_
  refine callY_i hP (va_runV (As := []) (rest := []) ⟨hx, hb, hml, hown, hts⟩ (qX4_thrown l dC dI cy ad2 vv.1 vv.2.1 vv.2.2.1 vv.2.2.2 H.size) (cwV 0 hts gL_law_X4_thrown rfl rfl rfl (by decide +kernel) ⟨Nat.le_of_ble_eq_true rfl, Nat.le_of_ble_eq_true rfl⟩) (preV hK (w_leftP hP) (w_leftD hD) (w_recv (ci := 5) (q0 := 0) hK (w_leftP hP) rfl rfl)) rfl rfl hl.1 rfl (lv_room (Nat.le_of_ble_eq_true rfl)) dL_law_967 ⟨by show _ ≤ 601024; omega, by show _ ≤ 7293034; omega⟩) hD hS hA (fun rt v2 H locs hw3 hP hD hS => ?_)
  obtain ⟨et, ev2⟩ := hw3
  have ev3 : vv = v2 := ev2.symm
  subst ev3
  have hP := w_swP hP
  have hD := w_swD hD
  refine lv_iload hx hb dL_law_970 (lv_at hl 1 rfl) ?_
  refine lv_icmp_eq (tgt := 977) hx hb dL_law_972 (by decide) (fun _ => ?_) (fun h9 => absurd ((et.trans j1).trans er.symm) h9)
  refine lv_iload hx hb dL_law_977 (lv_at hl 1 rfl) ?_
  refine lv_if_ne (tgt := 994) hx hb dL_law_979 (by decide) (fun h8 => ?_) (fun h8 => ?_)
  · refine lv_goto (tgt := 1303) hx hb dL_law_994 (by decide) ?_
    exact va_forget (fun q hq => hS.2.2 q hq) (W.widen (k := cells + 100) (n := slots + 5000) (by omega) (by omega) (kk H _ _ _ ⟨hP, hD, ⟨hS.1, hS.2.1, fun _ h => by cases h⟩, hokU, hJ2.1, hJ2.2⟩ (by rw [show lvL b oa t ul.1.1 ad2 = lvL b oa t ad ad2 by unfold lvL; rw [had]]; exact lv_sub hl [2, 3, 4, 5, 6] rfl)))
  · have hV : (V_at N 5 (xs (6 * t + 1))) = 0 := V_0 (by unfold V_at; (repeat' split) <;> omega) (er.symm.trans h8)
    have eo : ul.2 0 = (S 9 (ix (xs (6 * t + 1))) 1).toInt64 := (hok0 hV).1
    have er2 : ra = S 9 (ix (xs (6 * t + 1))) 1 := (j2 hV).1
    refine lv_aload_n hx hb dL_law_982 rfl (lv_at hl 3 rfl) ?_
    refine lv_iconst (v := nI 0) hx hb dL_law_983 (by decide) ?_
    refine va_lald hx hb hK (w_leftP hP) (pl ul.1.2.1 ul.1.1 (cc cy e0 ul.1.1 ul.1.2.2.1 ul.1.2.2.2)).length 5 (app_r (k := 0) rfl) rfl (vp_in_nI (show 0 < 1 by decide) (by decide)) dL_law_984 ?_
    rw [nI_clamp (by decide)]
    refine lv_iload hx hb dL_law_985 (lv_at hl 0 rfl) ?_
    refine lv_i2l hx hb dL_law_987 rfl ?_
    refine W.lcmp hx hb dL_law_988 ?_
    refine to_i (y := 0) (by rw [eo, er2]; exact cmp_rf _) ?_
    refine lv_if_eq (tgt := 994) hx hb dL_law_989 (by decide) (fun _ => ?_) (fun h9 => absurd rfl h9)
    refine lv_goto (tgt := 1303) hx hb dL_law_994 (by decide) ?_
    exact va_forget (fun q hq => hS.2.2 q hq) (W.widen (k := cells + 100) (n := slots + 5000) (by omega) (by omega) (kk H _ _ _ ⟨hP, hD, ⟨hS.1, hS.2.1, fun _ h => by cases h⟩, hokU, hJ2.1, hJ2.2⟩ (by rw [show lvL b oa t ul.1.1 ad2 = lvL b oa t ad ad2 by unfold lvL; rw [had]]; exact lv_sub hl [2, 3, 4, 5, 6] rfl)))

set_option maxHeartbeats 4000000 in
set_option maxRecDepth 100000 in
theorem s_isSuspended {p : Program} {l : Launch} {e : Env} {s : State} {m : MethodId} {below : List Frame} {meth : Method} {c : Code} {b Ls : Nat} {xs : Nat → Int32} {dC : Nat → ClassId} {dI : Nat → Nat → Nat} {cy : Nat → ClassId} {e0 mi oa : Nat} {ad : Lc → Nat} {L : List Lc} {S : SS} {N : NN} {f0 : Nat → Int64} {ad2 : Nat → Nat} {F : Nat → Int32} {C : Nat → Nat} {R : Nat → Nat → Int32} {T : Nat → Nat → Nat} {H : Heap} {ls : Array Slot} {t cells slots : Nat} {Q : State → Prop}
    (hF : LF p l s m c b Ls xs dC dI cy e0 mi) (hLs : Ls ≤ 3072) (ht : 6 * t + 6 ≤ Ls) (hc : cells + 100 ≤ 601024) (hsl : slots + 5000 ≤ 7293034) (hI0 : LI dC dI cy e0 oa ad2 s H ((ad, L, S, N), f0) (F, C, R, T)) (hl : lv_has ls 7 (lvL b oa t ad ad2))
    (kk : ∀ (H : Heap) (u : LU) (v : MS) (ls : Array Slot), LI dC dI cy e0 oa ad2 s H u v → lv_has ls 7 (lvL b oa t u.1.1 ad2) → W p l e room_1 s m (#[Value.ref b] : Array Value) below meth c H [] (cells + 100) (slots + 5000) Q (F0 m 1303 ls [])) :
    W p l e room_1 s m (#[Value.ref b] : Array Value) below meth c H [] cells slots Q (F0 m 997 ls []) := by
  obtain ⟨hx, hb, hml, hown, hts, hXs, hbl, hK, ham, hst⟩ := hF
  obtain ⟨hP, hD, hS, ⟨hI, hX⟩, hJ, hM⟩ := hI0
  have hN := okS_of hI
  obtain ⟨q9, q14, qT, qV, qC, qn⟩ := JJ_T hJ hN
  have hA : ∀ q, s.heap.size ≤ q → freshA s q := fun q h => h
  have hbA : ¬ freshA s b := fun h => Nat.lt_irrefl _ (Nat.lt_of_lt_of_le hbl h)
  have hP : va_P (dC, dI) vwCl ((cw cy e0 ad L S N ++ [(oa, .inl (cy 5, 1, .inr (.inl f0)))]) ++ mwU ad2 cy (F, C, R, T)) H := hP
  have hD : va_D (freshA s) ((cw cy e0 ad L S N ++ [(oa, .inl (cy 5, 1, .inr (.inl f0)))]) ++ mwU ad2 cy (F, C, R, T)) := hD
  refine lv_aload_n hx hb dL_law_997 rfl (lv_at hl 3 rfl) ?_
  refine lv_aload_n hx hb dL_law_998 rfl (lv_at hl 4 rfl) ?_
  refine lv_iload hx hb dL_law_999 (lv_at hl 0 rfl) ?_
  refine lv_iconst (v := nI 1) hx hb dL_law_1001 (by decide) ?_
  refine lv_iadd hx hb dL_law_1002 ?_
  refine to_i (y := nI ((6 * t) + 1)) (nI_add _ _) ?_
  refine va_sld hx hb hXs hbl hbA hS (i := nI (6 * t + 1)) (vp_in_nI (show 6 * t + 1 < Ls by omega) (by omega)) dL_law_1003 ?_
  refine to_i (y := xs (6 * t + 1)) (by rw [nI_clamp (show 6 * t + 1 < 2 ^ 31 by omega)]) ?_
  refine lv_aload_n hx hb dL_law_1004 rfl (lv_at hl 1 rfl) ?_
  refine callY_i hP (vx_runSW (As := [.ref (ad (10, 0)), .int (xs (6 * t + 1)), .ref oa]) (rest := []) ⟨hx, hb, hml, hown, hts⟩ (qL_isSuspended l dC dI cy e0 mi oa ad L S N f0 H.size (xs (6 * t + 1)) hI hX hst) (vx_cwSW 3 hts gL_law_L_isSuspended rfl rfl rfl (by decide +kernel) ⟨Nat.le_of_ble_eq_true rfl, Nat.le_of_ble_eq_true rfl⟩) (preLS hK (w_leftP hP) (w_leftD hD) hS hA ham) rfl rfl hl.1 rfl (lv_room (Nat.le_of_ble_eq_true rfl)) dL_law_1005 ⟨by show _ ≤ 601024; omega, by show _ ≤ 7293034; omega⟩) hD hS hA (fun rr ul H locs hw hP hD hS => ?_)
  obtain ⟨er, hok0, hno, hokU, had⟩ := hw
  refine lv_istore (lv' := [(5, .int rr), (4, .int (nI (6 * t))), (3, .ref oa), (2, .ref ((ad2 0))), (1, .ref (ad (10, 0))), (0, .ref b)]) hx hb dL_law_1008 hl (by decide) rfl (fun ls hl => ?_)
  refine lv_aload_n hx hb dL_law_1010 rfl (lv_at hl 3 rfl) ?_
  refine lv_aload_n hx hb dL_law_1011 rfl (lv_at hl 5 rfl) ?_
  refine lv_iload hx hb dL_law_1012 (lv_at hl 1 rfl) ?_
  refine lv_iconst (v := nI 1) hx hb dL_law_1014 (by decide) ?_
  refine lv_iadd hx hb dL_law_1015 ?_
  refine to_i (y := nI ((6 * t) + 1)) (nI_add _ _) ?_
  refine va_sld hx hb hXs hbl hbA hS (i := nI (6 * t + 1)) (vp_in_nI (show 6 * t + 1 < Ls by omega) (by omega)) dL_law_1016 ?_
  refine to_i (y := xs (6 * t + 1)) (by rw [nI_clamp (show 6 * t + 1 < 2 ^ 31 by omega)]) ?_
  have hPm := w_swP hP
  have hDm := w_swD hD
  refine callY_i hPm (va_runV (As := [.int (xs (6 * t + 1))]) (rest := []) ⟨hx, hb, hml, hown, hts⟩ (qX4_isSuspended l dC dI cy ad2 F C R T H.size (xs (6 * t + 1)) q14 qC) (cwV 1 hts gL_law_X4_isSuspended rfl rfl rfl (by decide +kernel) ⟨Nat.le_of_ble_eq_true rfl, Nat.le_of_ble_eq_true rfl⟩) (preV hK (w_leftP hPm) (w_leftD hDm) (w_recv (ci := 5) (q0 := 0) hK (w_leftP hPm) rfl rfl)) rfl rfl hl.1 rfl (lv_room (Nat.le_of_ble_eq_true rfl)) dL_law_1017 ⟨by show _ ≤ 601024; omega, by show _ ≤ 7293034; omega⟩) hDm hS hA (fun ra vv H locs hw2 hP hD hS => ?_)
  have ev : vv = (M_isSuspended F C R T (xs (6 * t + 1))).2 := congrArg Prod.snd hw2
  have ea : ra = (M_isSuspended F C R T (xs (6 * t + 1))).1 := congrArg Prod.fst hw2
  obtain ⟨j1, j2, j3⟩ := j_isSuspended hJ hN (xs (6 * t + 1))
  rw [← ev] at j1 j2 j3
  rw [← ea] at j2
  have hJ2 : JJ ul.1.2.2 vv ∧ jM ul.1.2.2 := by
    by_cases hV : (V_at N 5 (xs (6 * t + 1))) = 0
    · rw [(hok0 hV).2]
      exact ⟨(j2 hV).2, hM⟩
    · rw [hno hV]
      exact ⟨j3 hV, hM⟩
  refine lv_istore (lv' := [(6, .int ra), (5, .int rr), (4, .int (nI (6 * t))), (3, .ref oa), (2, .ref ((ad2 0))), (1, .ref (ad (10, 0))), (0, .ref b)]) hx hb dL_law_1020 hl (by decide) rfl (fun ls hl => ?_)
  refine lv_aload_n hx hb dL_law_1022 rfl (lv_at hl 4 rfl) ?_
  refine callY_i hP (va_runV (As := []) (rest := []) ⟨hx, hb, hml, hown, hts⟩ (qX4_thrown l dC dI cy ad2 vv.1 vv.2.1 vv.2.2.1 vv.2.2.2 H.size) (cwV 0 hts gL_law_X4_thrown rfl rfl rfl (by decide +kernel) ⟨Nat.le_of_ble_eq_true rfl, Nat.le_of_ble_eq_true rfl⟩) (preV hK (w_leftP hP) (w_leftD hD) (w_recv (ci := 5) (q0 := 0) hK (w_leftP hP) rfl rfl)) rfl rfl hl.1 rfl (lv_room (Nat.le_of_ble_eq_true rfl)) dL_law_1023 ⟨by show _ ≤ 601024; omega, by show _ ≤ 7293034; omega⟩) hD hS hA (fun rt v2 H locs hw3 hP hD hS => ?_)
  obtain ⟨et, ev2⟩ := hw3
  have ev3 : vv = v2 := ev2.symm
  subst ev3
  have hP := w_swP hP
  have hD := w_swD hD
  refine lv_iload hx hb dL_law_1026 (lv_at hl 1 rfl) ?_
  refine lv_icmp_eq (tgt := 1033) hx hb dL_law_1028 (by decide) (fun _ => ?_) (fun h9 => absurd ((et.trans j1).trans er.symm) h9)
  refine lv_iload hx hb dL_law_1033 (lv_at hl 1 rfl) ?_
  refine lv_if_ne (tgt := 1057) hx hb dL_law_1035 (by decide) (fun h8 => ?_) (fun h8 => ?_)
  · refine lv_goto (tgt := 1303) hx hb dL_law_1057 (by decide) ?_
    exact va_forget (fun q hq => hS.2.2 q hq) (W.widen (k := cells + 100) (n := slots + 5000) (by omega) (by omega) (kk H _ _ _ ⟨hP, hD, ⟨hS.1, hS.2.1, fun _ h => by cases h⟩, hokU, hJ2.1, hJ2.2⟩ (by rw [show lvL b oa t ul.1.1 ad2 = lvL b oa t ad ad2 by unfold lvL; rw [had]]; exact lv_sub hl [2, 3, 4, 5, 6] rfl)))
  · have hV : (V_at N 5 (xs (6 * t + 1))) = 0 := V_0 (by unfold V_at; (repeat' split) <;> omega) (er.symm.trans h8)
    have eo : ul.2 0 = (bi (isHeld S N (ix (xs (6 * t + 1))))).toInt64 := (hok0 hV).1
    have er2 : ra = bi (isHeld S N (ix (xs (6 * t + 1)))) := (j2 hV).1
    refine lv_aload_n hx hb dL_law_1038 rfl (lv_at hl 3 rfl) ?_
    refine lv_iconst (v := nI 0) hx hb dL_law_1039 (by decide) ?_
    refine va_lald hx hb hK (w_leftP hP) (pl ul.1.2.1 ul.1.1 (cc cy e0 ul.1.1 ul.1.2.2.1 ul.1.2.2.2)).length 5 (app_r (k := 0) rfl) rfl (vp_in_nI (show 0 < 1 by decide) (by decide)) dL_law_1040 ?_
    rw [nI_clamp (by decide)]
    refine lv_iload hx hb dL_law_1041 (lv_at hl 0 rfl) ?_
    refine to_i (y := bi (isHeld S N (ix (xs (6 * t + 1))))) er2 ?_
    refine br_eq (tgt := 1050) hx hb dL_law_1043 (by decide) (fun c_1 => ?_) (fun c_1 => ?_)
    · refine lv_lconst hx hb dL_law_1050 (v := 0) rfl ?_
      refine W.lcmp hx hb dL_law_1051 ?_
      refine to_i (y := 0) (by rw [eo, show (bi (isHeld S N (ix (xs (6 * t + 1))))).toInt64 = 0 from by rw [bi_f c_1]; rfl]; exact cmp_rf _) ?_
      refine lv_if_eq (tgt := 1057) hx hb dL_law_1052 (by decide) (fun _ => ?_) (fun h9 => absurd rfl h9)
      refine lv_goto (tgt := 1303) hx hb dL_law_1057 (by decide) ?_
      exact va_forget (fun q hq => hS.2.2 q hq) (W.widen (k := cells + 100) (n := slots + 5000) (by omega) (by omega) (kk H _ _ _ ⟨hP, hD, ⟨hS.1, hS.2.1, fun _ h => by cases h⟩, hokU, hJ2.1, hJ2.2⟩ (by rw [show lvL b oa t ul.1.1 ad2 = lvL b oa t ad ad2 by unfold lvL; rw [had]]; exact lv_sub hl [2, 3, 4, 5, 6] rfl)))
    · refine lv_lconst hx hb dL_law_1046 (v := 1) rfl ?_
      refine lv_goto (tgt := 1051) hx hb dL_law_1047 (by decide) ?_
      refine W.lcmp hx hb dL_law_1051 ?_
      refine to_i (y := 0) (by rw [eo, show (bi (isHeld S N (ix (xs (6 * t + 1))))).toInt64 = 1 from by rw [bi_t c_1]; rfl]; exact cmp_rf _) ?_
      refine lv_if_eq (tgt := 1057) hx hb dL_law_1052 (by decide) (fun _ => ?_) (fun h9 => absurd rfl h9)
      refine lv_goto (tgt := 1303) hx hb dL_law_1057 (by decide) ?_
      exact va_forget (fun q hq => hS.2.2 q hq) (W.widen (k := cells + 100) (n := slots + 5000) (by omega) (by omega) (kk H _ _ _ ⟨hP, hD, ⟨hS.1, hS.2.1, fun _ h => by cases h⟩, hokU, hJ2.1, hJ2.2⟩ (by rw [show lvL b oa t ul.1.1 ad2 = lvL b oa t ad ad2 by unfold lvL; rw [had]]; exact lv_sub hl [2, 3, 4, 5, 6] rfl)))

set_option maxHeartbeats 4000000 in
set_option maxRecDepth 100000 in
theorem s_perform {p : Program} {l : Launch} {e : Env} {s : State} {m : MethodId} {below : List Frame} {meth : Method} {c : Code} {b Ls : Nat} {xs : Nat → Int32} {dC : Nat → ClassId} {dI : Nat → Nat → Nat} {cy : Nat → ClassId} {e0 mi oa : Nat} {ad : Lc → Nat} {L : List Lc} {S : SS} {N : NN} {f0 : Nat → Int64} {ad2 : Nat → Nat} {F : Nat → Int32} {C : Nat → Nat} {R : Nat → Nat → Int32} {T : Nat → Nat → Nat} {H : Heap} {ls : Array Slot} {t cells slots : Nat} {Q : State → Prop}
    (hF : LF p l s m c b Ls xs dC dI cy e0 mi) (hLs : Ls ≤ 3072) (ht : 6 * t + 6 ≤ Ls) (hc : cells + 100 ≤ 601024) (hsl : slots + 5000 ≤ 7293034) (hI0 : LI dC dI cy e0 oa ad2 s H ((ad, L, S, N), f0) (F, C, R, T)) (hl : lv_has ls 7 (lvL b oa t ad ad2))
    (kk : ∀ (H : Heap) (u : LU) (v : MS) (ls : Array Slot), LI dC dI cy e0 oa ad2 s H u v → lv_has ls 7 (lvL b oa t u.1.1 ad2) → W p l e room_1 s m (#[Value.ref b] : Array Value) below meth c H [] (cells + 100) (slots + 5000) Q (F0 m 1303 ls [])) :
    W p l e room_1 s m (#[Value.ref b] : Array Value) below meth c H [] cells slots Q (F0 m 1060 ls []) := by
  obtain ⟨hx, hb, hml, hown, hts, hXs, hbl, hK, ham, hst⟩ := hF
  obtain ⟨hP, hD, hS, ⟨hI, hX⟩, hJ, hM⟩ := hI0
  have hN := okS_of hI
  obtain ⟨q9, q14, qT, qV, qC, qn⟩ := JJ_T hJ hN
  have hA : ∀ q, s.heap.size ≤ q → freshA s q := fun q h => h
  have hbA : ¬ freshA s b := fun h => Nat.lt_irrefl _ (Nat.lt_of_lt_of_le hbl h)
  have hP : va_P (dC, dI) vwCl ((cw cy e0 ad L S N ++ [(oa, .inl (cy 5, 1, .inr (.inl f0)))]) ++ mwU ad2 cy (F, C, R, T)) H := hP
  have hD : va_D (freshA s) ((cw cy e0 ad L S N ++ [(oa, .inl (cy 5, 1, .inr (.inl f0)))]) ++ mwU ad2 cy (F, C, R, T)) := hD
  refine lv_aload_n hx hb dL_law_1060 rfl (lv_at hl 3 rfl) ?_
  refine lv_aload_n hx hb dL_law_1061 rfl (lv_at hl 4 rfl) ?_
  refine lv_iload hx hb dL_law_1062 (lv_at hl 0 rfl) ?_
  refine lv_iconst (v := nI 1) hx hb dL_law_1064 (by decide) ?_
  refine lv_iadd hx hb dL_law_1065 ?_
  refine to_i (y := nI ((6 * t) + 1)) (nI_add _ _) ?_
  refine va_sld hx hb hXs hbl hbA hS (i := nI (6 * t + 1)) (vp_in_nI (show 6 * t + 1 < Ls by omega) (by omega)) dL_law_1066 ?_
  refine to_i (y := xs (6 * t + 1)) (by rw [nI_clamp (show 6 * t + 1 < 2 ^ 31 by omega)]) ?_
  refine lv_aload_n hx hb dL_law_1067 rfl (lv_at hl 1 rfl) ?_
  refine callY_i hP (vx_runSW (As := [.ref (ad (10, 0)), .int (xs (6 * t + 1)), .ref oa]) (rest := []) ⟨hx, hb, hml, hown, hts⟩ (qL_perform l dC dI cy e0 mi oa ad L S N f0 H.size (xs (6 * t + 1)) hI hX hst) (vx_cwSW 3 hts gL_law_L_perform rfl rfl rfl (by decide +kernel) ⟨Nat.le_of_ble_eq_true rfl, Nat.le_of_ble_eq_true rfl⟩) (preLS hK (w_leftP hP) (w_leftD hD) hS hA ham) rfl rfl hl.1 rfl (lv_room (Nat.le_of_ble_eq_true rfl)) dL_law_1068 ⟨by show _ ≤ 601024; omega, by show _ ≤ 7293034; omega⟩) hD hS hA (fun rr ul H locs hw hP hD hS => ?_)
  obtain ⟨er, hok0, hno, hokU, had⟩ := hw
  refine lv_istore (lv' := [(5, .int rr), (4, .int (nI (6 * t))), (3, .ref oa), (2, .ref ((ad2 0))), (1, .ref (ad (10, 0))), (0, .ref b)]) hx hb dL_law_1071 hl (by decide) rfl (fun ls hl => ?_)
  refine lv_aload_n hx hb dL_law_1073 rfl (lv_at hl 3 rfl) ?_
  refine lv_aload_n hx hb dL_law_1074 rfl (lv_at hl 5 rfl) ?_
  refine lv_iload hx hb dL_law_1075 (lv_at hl 1 rfl) ?_
  refine lv_iconst (v := nI 1) hx hb dL_law_1077 (by decide) ?_
  refine lv_iadd hx hb dL_law_1078 ?_
  refine to_i (y := nI ((6 * t) + 1)) (nI_add _ _) ?_
  refine va_sld hx hb hXs hbl hbA hS (i := nI (6 * t + 1)) (vp_in_nI (show 6 * t + 1 < Ls by omega) (by omega)) dL_law_1079 ?_
  refine to_i (y := xs (6 * t + 1)) (by rw [nI_clamp (show 6 * t + 1 < 2 ^ 31 by omega)]) ?_
  have hPm := w_swP hP
  have hDm := w_swD hD
  refine callY_i hPm (va_runV (As := [.int (xs (6 * t + 1))]) (rest := []) ⟨hx, hb, hml, hown, hts⟩ (qX4_perform l dC dI cy ad2 F C R T H.size (xs (6 * t + 1)) q14) (cwV 1 hts gL_law_X4_perform rfl rfl rfl (by decide +kernel) ⟨Nat.le_of_ble_eq_true rfl, Nat.le_of_ble_eq_true rfl⟩) (preV hK (w_leftP hPm) (w_leftD hDm) (w_recv (ci := 5) (q0 := 0) hK (w_leftP hPm) rfl rfl)) rfl rfl hl.1 rfl (lv_room (Nat.le_of_ble_eq_true rfl)) dL_law_1080 ⟨by show _ ≤ 601024; omega, by show _ ≤ 7293034; omega⟩) hDm hS hA (fun ra vv H locs hw2 hP hD hS => ?_)
  have ev : vv = (M_perform F C R T (xs (6 * t + 1))).2 := congrArg Prod.snd hw2
  have ea : ra = (M_perform F C R T (xs (6 * t + 1))).1 := congrArg Prod.fst hw2
  obtain ⟨j1, j2, j3⟩ := j_perform hJ hN (xs (6 * t + 1))
  rw [← ev] at j1 j2 j3
  rw [← ea] at j2
  have hJ2 : JJ ul.1.2.2 vv ∧ jM ul.1.2.2 := by
    by_cases hV : (V_perform S N (xs (6 * t + 1))) = 0
    · rw [(hok0 hV).2]
      exact ⟨(j2 hV).2, hM⟩
    · rw [hno hV]
      exact ⟨j3 hV, hM⟩
  refine lv_istore (lv' := [(6, .int ra), (5, .int rr), (4, .int (nI (6 * t))), (3, .ref oa), (2, .ref ((ad2 0))), (1, .ref (ad (10, 0))), (0, .ref b)]) hx hb dL_law_1083 hl (by decide) rfl (fun ls hl => ?_)
  refine lv_aload_n hx hb dL_law_1085 rfl (lv_at hl 4 rfl) ?_
  refine callY_i hP (va_runV (As := []) (rest := []) ⟨hx, hb, hml, hown, hts⟩ (qX4_thrown l dC dI cy ad2 vv.1 vv.2.1 vv.2.2.1 vv.2.2.2 H.size) (cwV 0 hts gL_law_X4_thrown rfl rfl rfl (by decide +kernel) ⟨Nat.le_of_ble_eq_true rfl, Nat.le_of_ble_eq_true rfl⟩) (preV hK (w_leftP hP) (w_leftD hD) (w_recv (ci := 5) (q0 := 0) hK (w_leftP hP) rfl rfl)) rfl rfl hl.1 rfl (lv_room (Nat.le_of_ble_eq_true rfl)) dL_law_1086 ⟨by show _ ≤ 601024; omega, by show _ ≤ 7293034; omega⟩) hD hS hA (fun rt v2 H locs hw3 hP hD hS => ?_)
  obtain ⟨et, ev2⟩ := hw3
  have ev3 : vv = v2 := ev2.symm
  subst ev3
  have hP := w_swP hP
  have hD := w_swD hD
  refine lv_iload hx hb dL_law_1089 (lv_at hl 1 rfl) ?_
  refine lv_icmp_eq (tgt := 1096) hx hb dL_law_1091 (by decide) (fun _ => ?_) (fun h9 => absurd ((et.trans j1).trans er.symm) h9)
  refine lv_iload hx hb dL_law_1096 (lv_at hl 1 rfl) ?_
  refine lv_if_ne (tgt := 1120) hx hb dL_law_1098 (by decide) (fun h8 => ?_) (fun h8 => ?_)
  · refine lv_goto (tgt := 1303) hx hb dL_law_1120 (by decide) ?_
    exact va_forget (fun q hq => hS.2.2 q hq) (W.widen (k := cells + 100) (n := slots + 5000) (by omega) (by omega) (kk H _ _ _ ⟨hP, hD, ⟨hS.1, hS.2.1, fun _ h => by cases h⟩, hokU, hJ2.1, hJ2.2⟩ (by rw [show lvL b oa t ul.1.1 ad2 = lvL b oa t ad ad2 by unfold lvL; rw [had]]; exact lv_sub hl [2, 3, 4, 5, 6] rfl)))
  · have hV : (V_perform S N (xs (6 * t + 1))) = 0 := V_0 (by unfold V_perform; (repeat' split) <;> omega) (er.symm.trans h8)
    have eo : ul.2 0 = (bi (S 9 (ix (xs (6 * t + 1))) 0 = nI 2 ∨ S 9 (ix (xs (6 * t + 1))) 1 < S 0 0 0)).toInt64 := (hok0 hV).1
    have er2 : ra = bi (S 9 (ix (xs (6 * t + 1))) 0 = nI 2 ∨ S 9 (ix (xs (6 * t + 1))) 1 < S 0 0 0) := (j2 hV).1
    refine lv_aload_n hx hb dL_law_1101 rfl (lv_at hl 3 rfl) ?_
    refine lv_iconst (v := nI 0) hx hb dL_law_1102 (by decide) ?_
    refine va_lald hx hb hK (w_leftP hP) (pl ul.1.2.1 ul.1.1 (cc cy e0 ul.1.1 ul.1.2.2.1 ul.1.2.2.2)).length 5 (app_r (k := 0) rfl) rfl (vp_in_nI (show 0 < 1 by decide) (by decide)) dL_law_1103 ?_
    rw [nI_clamp (by decide)]
    refine lv_iload hx hb dL_law_1104 (lv_at hl 0 rfl) ?_
    refine to_i (y := bi (S 9 (ix (xs (6 * t + 1))) 0 = nI 2 ∨ S 9 (ix (xs (6 * t + 1))) 1 < S 0 0 0)) er2 ?_
    refine br_eq (tgt := 1113) hx hb dL_law_1106 (by decide) (fun c_1 => ?_) (fun c_1 => ?_)
    · refine lv_lconst hx hb dL_law_1113 (v := 0) rfl ?_
      refine W.lcmp hx hb dL_law_1114 ?_
      refine to_i (y := 0) (by rw [eo, show (bi (S 9 (ix (xs (6 * t + 1))) 0 = nI 2 ∨ S 9 (ix (xs (6 * t + 1))) 1 < S 0 0 0)).toInt64 = 0 from by rw [bi_f c_1]; rfl]; exact cmp_rf _) ?_
      refine lv_if_eq (tgt := 1120) hx hb dL_law_1115 (by decide) (fun _ => ?_) (fun h9 => absurd rfl h9)
      refine lv_goto (tgt := 1303) hx hb dL_law_1120 (by decide) ?_
      exact va_forget (fun q hq => hS.2.2 q hq) (W.widen (k := cells + 100) (n := slots + 5000) (by omega) (by omega) (kk H _ _ _ ⟨hP, hD, ⟨hS.1, hS.2.1, fun _ h => by cases h⟩, hokU, hJ2.1, hJ2.2⟩ (by rw [show lvL b oa t ul.1.1 ad2 = lvL b oa t ad ad2 by unfold lvL; rw [had]]; exact lv_sub hl [2, 3, 4, 5, 6] rfl)))
    · refine lv_lconst hx hb dL_law_1109 (v := 1) rfl ?_
      refine lv_goto (tgt := 1114) hx hb dL_law_1110 (by decide) ?_
      refine W.lcmp hx hb dL_law_1114 ?_
      refine to_i (y := 0) (by rw [eo, show (bi (S 9 (ix (xs (6 * t + 1))) 0 = nI 2 ∨ S 9 (ix (xs (6 * t + 1))) 1 < S 0 0 0)).toInt64 = 1 from by rw [bi_t c_1]; rfl]; exact cmp_rf _) ?_
      refine lv_if_eq (tgt := 1120) hx hb dL_law_1115 (by decide) (fun _ => ?_) (fun h9 => absurd rfl h9)
      refine lv_goto (tgt := 1303) hx hb dL_law_1120 (by decide) ?_
      exact va_forget (fun q hq => hS.2.2 q hq) (W.widen (k := cells + 100) (n := slots + 5000) (by omega) (by omega) (kk H _ _ _ ⟨hP, hD, ⟨hS.1, hS.2.1, fun _ h => by cases h⟩, hokU, hJ2.1, hJ2.2⟩ (by rw [show lvL b oa t ul.1.1 ad2 = lvL b oa t ad ad2 by unfold lvL; rw [had]]; exact lv_sub hl [2, 3, 4, 5, 6] rfl)))

set_option maxHeartbeats 4000000 in
set_option maxRecDepth 100000 in
theorem s_notice {p : Program} {l : Launch} {e : Env} {s : State} {m : MethodId} {below : List Frame} {meth : Method} {c : Code} {b Ls : Nat} {xs : Nat → Int32} {dC : Nat → ClassId} {dI : Nat → Nat → Nat} {cy : Nat → ClassId} {e0 mi oa : Nat} {ad : Lc → Nat} {L : List Lc} {S : SS} {N : NN} {f0 : Nat → Int64} {ad2 : Nat → Nat} {F : Nat → Int32} {C : Nat → Nat} {R : Nat → Nat → Int32} {T : Nat → Nat → Nat} {H : Heap} {ls : Array Slot} {t cells slots : Nat} {Q : State → Prop}
    (hF : LF p l s m c b Ls xs dC dI cy e0 mi) (hLs : Ls ≤ 3072) (ht : 6 * t + 6 ≤ Ls) (hc : cells + 100 ≤ 601024) (hsl : slots + 5000 ≤ 7293034) (hI0 : LI dC dI cy e0 oa ad2 s H ((ad, L, S, N), f0) (F, C, R, T)) (hl : lv_has ls 7 (lvL b oa t ad ad2))
    (kk : ∀ (H : Heap) (u : LU) (v : MS) (ls : Array Slot), LI dC dI cy e0 oa ad2 s H u v → lv_has ls 7 (lvL b oa t u.1.1 ad2) → W p l e room_1 s m (#[Value.ref b] : Array Value) below meth c H [] (cells + 100) (slots + 5000) Q (F0 m 1303 ls [])) :
    W p l e room_1 s m (#[Value.ref b] : Array Value) below meth c H [] cells slots Q (F0 m 1123 ls []) := by
  obtain ⟨hx, hb, hml, hown, hts, hXs, hbl, hK, ham, hst⟩ := hF
  obtain ⟨hP, hD, hS, ⟨hI, hX⟩, hJ, hM⟩ := hI0
  have hN := okS_of hI
  obtain ⟨q9, q14, qT, qV, qC, qn⟩ := JJ_T hJ hN
  have hA : ∀ q, s.heap.size ≤ q → freshA s q := fun q h => h
  have hbA : ¬ freshA s b := fun h => Nat.lt_irrefl _ (Nat.lt_of_lt_of_le hbl h)
  have hP : va_P (dC, dI) vwCl ((cw cy e0 ad L S N ++ [(oa, .inl (cy 5, 1, .inr (.inl f0)))]) ++ mwU ad2 cy (F, C, R, T)) H := hP
  have hD : va_D (freshA s) ((cw cy e0 ad L S N ++ [(oa, .inl (cy 5, 1, .inr (.inl f0)))]) ++ mwU ad2 cy (F, C, R, T)) := hD
  refine lv_aload_n hx hb dL_law_1123 rfl (lv_at hl 3 rfl) ?_
  refine lv_aload_n hx hb dL_law_1124 rfl (lv_at hl 4 rfl) ?_
  refine lv_iload hx hb dL_law_1125 (lv_at hl 0 rfl) ?_
  refine lv_iconst (v := nI 1) hx hb dL_law_1127 (by decide) ?_
  refine lv_iadd hx hb dL_law_1128 ?_
  refine to_i (y := nI ((6 * t) + 1)) (nI_add _ _) ?_
  refine va_sld hx hb hXs hbl hbA hS (i := nI (6 * t + 1)) (vp_in_nI (show 6 * t + 1 < Ls by omega) (by omega)) dL_law_1129 ?_
  refine to_i (y := xs (6 * t + 1)) (by rw [nI_clamp (show 6 * t + 1 < 2 ^ 31 by omega)]) ?_
  refine lv_aload_n hx hb dL_law_1130 rfl (lv_at hl 1 rfl) ?_
  refine callY_i hP (vx_runSW (As := [.ref (ad (10, 0)), .int (xs (6 * t + 1)), .ref oa]) (rest := []) ⟨hx, hb, hml, hown, hts⟩ (qL_notice l dC dI cy e0 mi oa ad L S N f0 H.size (xs (6 * t + 1)) hI hX hst) (vx_cwSW 3 hts gL_law_L_notice rfl rfl rfl (by decide +kernel) ⟨Nat.le_of_ble_eq_true rfl, Nat.le_of_ble_eq_true rfl⟩) (preLS hK (w_leftP hP) (w_leftD hD) hS hA ham) rfl rfl hl.1 rfl (lv_room (Nat.le_of_ble_eq_true rfl)) dL_law_1131 ⟨by show _ ≤ 601024; omega, by show _ ≤ 7293034; omega⟩) hD hS hA (fun rr ul H locs hw hP hD hS => ?_)
  obtain ⟨er, hok0, hno, hokU, had⟩ := hw
  refine lv_istore (lv' := [(5, .int rr), (4, .int (nI (6 * t))), (3, .ref oa), (2, .ref ((ad2 0))), (1, .ref (ad (10, 0))), (0, .ref b)]) hx hb dL_law_1134 hl (by decide) rfl (fun ls hl => ?_)
  refine lv_aload_n hx hb dL_law_1136 rfl (lv_at hl 3 rfl) ?_
  refine lv_aload_n hx hb dL_law_1137 rfl (lv_at hl 5 rfl) ?_
  refine lv_iload hx hb dL_law_1138 (lv_at hl 1 rfl) ?_
  refine lv_iconst (v := nI 1) hx hb dL_law_1140 (by decide) ?_
  refine lv_iadd hx hb dL_law_1141 ?_
  refine to_i (y := nI ((6 * t) + 1)) (nI_add _ _) ?_
  refine va_sld hx hb hXs hbl hbA hS (i := nI (6 * t + 1)) (vp_in_nI (show 6 * t + 1 < Ls by omega) (by omega)) dL_law_1142 ?_
  refine to_i (y := xs (6 * t + 1)) (by rw [nI_clamp (show 6 * t + 1 < 2 ^ 31 by omega)]) ?_
  have hPm := w_swP hP
  have hDm := w_swD hD
  refine callY_i hPm (va_runV (As := [.int (xs (6 * t + 1))]) (rest := []) ⟨hx, hb, hml, hown, hts⟩ (qX4_notice l dC dI cy ad2 F C R T H.size (xs (6 * t + 1)) q14) (cwV 1 hts gL_law_X4_notice rfl rfl rfl (by decide +kernel) ⟨Nat.le_of_ble_eq_true rfl, Nat.le_of_ble_eq_true rfl⟩) (preV hK (w_leftP hPm) (w_leftD hDm) (w_recv (ci := 5) (q0 := 0) hK (w_leftP hPm) rfl rfl)) rfl rfl hl.1 rfl (lv_room (Nat.le_of_ble_eq_true rfl)) dL_law_1143 ⟨by show _ ≤ 601024; omega, by show _ ≤ 7293034; omega⟩) hDm hS hA (fun ra vv H locs hw2 hP hD hS => ?_)
  have ev : vv = (M_notice F C R T (xs (6 * t + 1))).2 := congrArg Prod.snd hw2
  have ea : ra = (M_notice F C R T (xs (6 * t + 1))).1 := congrArg Prod.fst hw2
  obtain ⟨j1, j2, j3⟩ := j_notice hJ hN (xs (6 * t + 1))
  rw [← ev] at j1 j2 j3
  rw [← ea] at j2
  have hJ2 : JJ ul.1.2.2 vv ∧ jM ul.1.2.2 := by
    by_cases hV : (V_notice S N (xs (6 * t + 1))) = 0
    · rw [(hok0 hV).2]
      exact ⟨(j2 hV).2, hM⟩
    · rw [hno hV]
      exact ⟨j3 hV, hM⟩
  refine lv_istore (lv' := [(6, .int ra), (5, .int rr), (4, .int (nI (6 * t))), (3, .ref oa), (2, .ref ((ad2 0))), (1, .ref (ad (10, 0))), (0, .ref b)]) hx hb dL_law_1146 hl (by decide) rfl (fun ls hl => ?_)
  refine lv_aload_n hx hb dL_law_1148 rfl (lv_at hl 4 rfl) ?_
  refine callY_i hP (va_runV (As := []) (rest := []) ⟨hx, hb, hml, hown, hts⟩ (qX4_thrown l dC dI cy ad2 vv.1 vv.2.1 vv.2.2.1 vv.2.2.2 H.size) (cwV 0 hts gL_law_X4_thrown rfl rfl rfl (by decide +kernel) ⟨Nat.le_of_ble_eq_true rfl, Nat.le_of_ble_eq_true rfl⟩) (preV hK (w_leftP hP) (w_leftD hD) (w_recv (ci := 5) (q0 := 0) hK (w_leftP hP) rfl rfl)) rfl rfl hl.1 rfl (lv_room (Nat.le_of_ble_eq_true rfl)) dL_law_1149 ⟨by show _ ≤ 601024; omega, by show _ ≤ 7293034; omega⟩) hD hS hA (fun rt v2 H locs hw3 hP hD hS => ?_)
  obtain ⟨et, ev2⟩ := hw3
  have ev3 : vv = v2 := ev2.symm
  subst ev3
  have hP := w_swP hP
  have hD := w_swD hD
  refine lv_iload hx hb dL_law_1152 (lv_at hl 1 rfl) ?_
  refine lv_icmp_eq (tgt := 1159) hx hb dL_law_1154 (by decide) (fun _ => ?_) (fun h9 => absurd ((et.trans j1).trans er.symm) h9)
  refine lv_iload hx hb dL_law_1159 (lv_at hl 1 rfl) ?_
  refine lv_if_ne (tgt := 1176) hx hb dL_law_1161 (by decide) (fun h8 => ?_) (fun h8 => ?_)
  · refine lv_goto (tgt := 1303) hx hb dL_law_1176 (by decide) ?_
    exact va_forget (fun q hq => hS.2.2 q hq) (W.widen (k := cells + 100) (n := slots + 5000) (by omega) (by omega) (kk H _ _ _ ⟨hP, hD, ⟨hS.1, hS.2.1, fun _ h => by cases h⟩, hokU, hJ2.1, hJ2.2⟩ (by rw [show lvL b oa t ul.1.1 ad2 = lvL b oa t ad ad2 by unfold lvL; rw [had]]; exact lv_sub hl [2, 3, 4, 5, 6] rfl)))
  · have hV : (V_notice S N (xs (6 * t + 1))) = 0 := V_0 (by unfold V_notice; (repeat' split) <;> omega) (er.symm.trans h8)
    have eo : ul.2 0 = (S 0 0 0 + S 3 (N 3 (ix (xs (6 * t + 1))) 1) 2).toInt64 := (hok0 hV).1
    have er2 : ra = S 0 0 0 + S 3 (N 3 (ix (xs (6 * t + 1))) 1) 2 := (j2 hV).1
    refine lv_aload_n hx hb dL_law_1164 rfl (lv_at hl 3 rfl) ?_
    refine lv_iconst (v := nI 0) hx hb dL_law_1165 (by decide) ?_
    refine va_lald hx hb hK (w_leftP hP) (pl ul.1.2.1 ul.1.1 (cc cy e0 ul.1.1 ul.1.2.2.1 ul.1.2.2.2)).length 5 (app_r (k := 0) rfl) rfl (vp_in_nI (show 0 < 1 by decide) (by decide)) dL_law_1166 ?_
    rw [nI_clamp (by decide)]
    refine lv_iload hx hb dL_law_1167 (lv_at hl 0 rfl) ?_
    refine lv_i2l hx hb dL_law_1169 rfl ?_
    refine W.lcmp hx hb dL_law_1170 ?_
    refine to_i (y := 0) (by rw [eo, er2]; exact cmp_rf _) ?_
    refine lv_if_eq (tgt := 1176) hx hb dL_law_1171 (by decide) (fun _ => ?_) (fun h9 => absurd rfl h9)
    refine lv_goto (tgt := 1303) hx hb dL_law_1176 (by decide) ?_
    exact va_forget (fun q hq => hS.2.2 q hq) (W.widen (k := cells + 100) (n := slots + 5000) (by omega) (by omega) (kk H _ _ _ ⟨hP, hD, ⟨hS.1, hS.2.1, fun _ h => by cases h⟩, hokU, hJ2.1, hJ2.2⟩ (by rw [show lvL b oa t ul.1.1 ad2 = lvL b oa t ad ad2 by unfold lvL; rw [had]]; exact lv_sub hl [2, 3, 4, 5, 6] rfl)))

set_option maxHeartbeats 4000000 in
set_option maxRecDepth 100000 in
theorem s_settle {p : Program} {l : Launch} {e : Env} {s : State} {m : MethodId} {below : List Frame} {meth : Method} {c : Code} {b Ls : Nat} {xs : Nat → Int32} {dC : Nat → ClassId} {dI : Nat → Nat → Nat} {cy : Nat → ClassId} {e0 mi oa : Nat} {ad : Lc → Nat} {L : List Lc} {S : SS} {N : NN} {f0 : Nat → Int64} {ad2 : Nat → Nat} {F : Nat → Int32} {C : Nat → Nat} {R : Nat → Nat → Int32} {T : Nat → Nat → Nat} {H : Heap} {ls : Array Slot} {t cells slots : Nat} {Q : State → Prop}
    (hF : LF p l s m c b Ls xs dC dI cy e0 mi) (hLs : Ls ≤ 3072) (ht : 6 * t + 6 ≤ Ls) (hc : cells + 100 ≤ 601024) (hsl : slots + 5000 ≤ 7293034) (hI0 : LI dC dI cy e0 oa ad2 s H ((ad, L, S, N), f0) (F, C, R, T)) (hl : lv_has ls 7 (lvL b oa t ad ad2))
    (kk : ∀ (H : Heap) (u : LU) (v : MS) (ls : Array Slot), LI dC dI cy e0 oa ad2 s H u v → lv_has ls 7 (lvL b oa t u.1.1 ad2) → W p l e room_1 s m (#[Value.ref b] : Array Value) below meth c H [] (cells + 100) (slots + 5000) Q (F0 m 1303 ls [])) :
    W p l e room_1 s m (#[Value.ref b] : Array Value) below meth c H [] cells slots Q (F0 m 1179 ls []) := by
  obtain ⟨hx, hb, hml, hown, hts, hXs, hbl, hK, ham, hst⟩ := hF
  obtain ⟨hP, hD, hS, ⟨hI, hX⟩, hJ, hM⟩ := hI0
  have hN := okS_of hI
  obtain ⟨q9, q14, qT, qV, qC, qn⟩ := JJ_T hJ hN
  have hA : ∀ q, s.heap.size ≤ q → freshA s q := fun q h => h
  have hbA : ¬ freshA s b := fun h => Nat.lt_irrefl _ (Nat.lt_of_lt_of_le hbl h)
  have hP : va_P (dC, dI) vwCl ((cw cy e0 ad L S N ++ [(oa, .inl (cy 5, 1, .inr (.inl f0)))]) ++ mwU ad2 cy (F, C, R, T)) H := hP
  have hD : va_D (freshA s) ((cw cy e0 ad L S N ++ [(oa, .inl (cy 5, 1, .inr (.inl f0)))]) ++ mwU ad2 cy (F, C, R, T)) := hD
  refine lv_aload_n hx hb dL_law_1179 rfl (lv_at hl 3 rfl) ?_
  refine lv_aload_n hx hb dL_law_1180 rfl (lv_at hl 4 rfl) ?_
  refine lv_iload hx hb dL_law_1181 (lv_at hl 0 rfl) ?_
  refine lv_iconst (v := nI 1) hx hb dL_law_1183 (by decide) ?_
  refine lv_iadd hx hb dL_law_1184 ?_
  refine to_i (y := nI ((6 * t) + 1)) (nI_add _ _) ?_
  refine va_sld hx hb hXs hbl hbA hS (i := nI (6 * t + 1)) (vp_in_nI (show 6 * t + 1 < Ls by omega) (by omega)) dL_law_1185 ?_
  refine to_i (y := xs (6 * t + 1)) (by rw [nI_clamp (show 6 * t + 1 < 2 ^ 31 by omega)]) ?_
  refine lv_aload_n hx hb dL_law_1186 rfl (lv_at hl 1 rfl) ?_
  refine callY_i hP (vx_runSW (As := [.ref (ad (10, 0)), .int (xs (6 * t + 1)), .ref oa]) (rest := []) ⟨hx, hb, hml, hown, hts⟩ (qL_settle l dC dI cy e0 mi oa ad L S N f0 H.size (xs (6 * t + 1)) hI hX hst) (vx_cwSW 3 hts gL_law_L_settle rfl rfl rfl (by decide +kernel) ⟨Nat.le_of_ble_eq_true rfl, Nat.le_of_ble_eq_true rfl⟩) (preLS hK (w_leftP hP) (w_leftD hD) hS hA ham) rfl rfl hl.1 rfl (lv_room (Nat.le_of_ble_eq_true rfl)) dL_law_1187 ⟨by show _ ≤ 601024; omega, by show _ ≤ 7293034; omega⟩) hD hS hA (fun rr ul H locs hw hP hD hS => ?_)
  obtain ⟨er, hok0, hno, hokU, had⟩ := hw
  refine lv_istore (lv' := [(5, .int rr), (4, .int (nI (6 * t))), (3, .ref oa), (2, .ref ((ad2 0))), (1, .ref (ad (10, 0))), (0, .ref b)]) hx hb dL_law_1190 hl (by decide) rfl (fun ls hl => ?_)
  refine lv_aload_n hx hb dL_law_1192 rfl (lv_at hl 3 rfl) ?_
  refine lv_aload_n hx hb dL_law_1193 rfl (lv_at hl 5 rfl) ?_
  refine lv_iload hx hb dL_law_1194 (lv_at hl 1 rfl) ?_
  refine lv_iconst (v := nI 1) hx hb dL_law_1196 (by decide) ?_
  refine lv_iadd hx hb dL_law_1197 ?_
  refine to_i (y := nI ((6 * t) + 1)) (nI_add _ _) ?_
  refine va_sld hx hb hXs hbl hbA hS (i := nI (6 * t + 1)) (vp_in_nI (show 6 * t + 1 < Ls by omega) (by omega)) dL_law_1198 ?_
  refine to_i (y := xs (6 * t + 1)) (by rw [nI_clamp (show 6 * t + 1 < 2 ^ 31 by omega)]) ?_
  have hPm := w_swP hP
  have hDm := w_swD hD
  refine callY_i hPm (va_runV (As := [.int (xs (6 * t + 1))]) (rest := []) ⟨hx, hb, hml, hown, hts⟩ (qX4_settle l dC dI cy ad2 F C R T H.size (xs (6 * t + 1)) q14) (cwV 1 hts gL_law_X4_settle rfl rfl rfl (by decide +kernel) ⟨Nat.le_of_ble_eq_true rfl, Nat.le_of_ble_eq_true rfl⟩) (preV hK (w_leftP hPm) (w_leftD hDm) (w_recv (ci := 5) (q0 := 0) hK (w_leftP hPm) rfl rfl)) rfl rfl hl.1 rfl (lv_room (Nat.le_of_ble_eq_true rfl)) dL_law_1199 ⟨by show _ ≤ 601024; omega, by show _ ≤ 7293034; omega⟩) hDm hS hA (fun ra vv H locs hw2 hP hD hS => ?_)
  have ev : vv = (M_settle F C R T (xs (6 * t + 1))).2 := congrArg Prod.snd hw2
  have ea : ra = (M_settle F C R T (xs (6 * t + 1))).1 := congrArg Prod.fst hw2
  obtain ⟨j1, j2, j3⟩ := j_settle hJ hN (xs (6 * t + 1))
  rw [← ev] at j1 j2 j3
  rw [← ea] at j2
  have hJ2 : JJ ul.1.2.2 vv ∧ jM ul.1.2.2 := by
    by_cases hV : (V_settle S N (xs (6 * t + 1))) = 0
    · rw [(hok0 hV).2]
      exact ⟨(j2 hV).2, hM⟩
    · rw [hno hV]
      exact ⟨j3 hV, hM⟩
  refine lv_istore (lv' := [(6, .int ra), (5, .int rr), (4, .int (nI (6 * t))), (3, .ref oa), (2, .ref ((ad2 0))), (1, .ref (ad (10, 0))), (0, .ref b)]) hx hb dL_law_1202 hl (by decide) rfl (fun ls hl => ?_)
  refine lv_aload_n hx hb dL_law_1204 rfl (lv_at hl 4 rfl) ?_
  refine callY_i hP (va_runV (As := []) (rest := []) ⟨hx, hb, hml, hown, hts⟩ (qX4_thrown l dC dI cy ad2 vv.1 vv.2.1 vv.2.2.1 vv.2.2.2 H.size) (cwV 0 hts gL_law_X4_thrown rfl rfl rfl (by decide +kernel) ⟨Nat.le_of_ble_eq_true rfl, Nat.le_of_ble_eq_true rfl⟩) (preV hK (w_leftP hP) (w_leftD hD) (w_recv (ci := 5) (q0 := 0) hK (w_leftP hP) rfl rfl)) rfl rfl hl.1 rfl (lv_room (Nat.le_of_ble_eq_true rfl)) dL_law_1205 ⟨by show _ ≤ 601024; omega, by show _ ≤ 7293034; omega⟩) hD hS hA (fun rt v2 H locs hw3 hP hD hS => ?_)
  obtain ⟨et, ev2⟩ := hw3
  have ev3 : vv = v2 := ev2.symm
  subst ev3
  have hP := w_swP hP
  have hD := w_swD hD
  refine lv_iload hx hb dL_law_1208 (lv_at hl 1 rfl) ?_
  refine lv_icmp_eq (tgt := 1215) hx hb dL_law_1210 (by decide) (fun _ => ?_) (fun h9 => absurd ((et.trans j1).trans er.symm) h9)
  refine lv_iload hx hb dL_law_1215 (lv_at hl 1 rfl) ?_
  refine lv_if_ne (tgt := 1232) hx hb dL_law_1217 (by decide) (fun h8 => ?_) (fun h8 => ?_)
  · refine lv_goto (tgt := 1303) hx hb dL_law_1232 (by decide) ?_
    exact va_forget (fun q hq => hS.2.2 q hq) (W.widen (k := cells + 100) (n := slots + 5000) (by omega) (by omega) (kk H _ _ _ ⟨hP, hD, ⟨hS.1, hS.2.1, fun _ h => by cases h⟩, hokU, hJ2.1, hJ2.2⟩ (by rw [show lvL b oa t ul.1.1 ad2 = lvL b oa t ad ad2 by unfold lvL; rw [had]]; exact lv_sub hl [2, 3, 4, 5, 6] rfl)))
  · have hV : (V_settle S N (xs (6 * t + 1))) = 0 := V_0 (by unfold V_settle; (repeat' split) <;> omega) (er.symm.trans h8)
    have eo : ul.2 0 = (S 3 (N 3 (ix (xs (6 * t + 1))) 1) 3).toInt64 := (hok0 hV).1
    have er2 : ra = S 3 (N 3 (ix (xs (6 * t + 1))) 1) 3 := (j2 hV).1
    refine lv_aload_n hx hb dL_law_1220 rfl (lv_at hl 3 rfl) ?_
    refine lv_iconst (v := nI 0) hx hb dL_law_1221 (by decide) ?_
    refine va_lald hx hb hK (w_leftP hP) (pl ul.1.2.1 ul.1.1 (cc cy e0 ul.1.1 ul.1.2.2.1 ul.1.2.2.2)).length 5 (app_r (k := 0) rfl) rfl (vp_in_nI (show 0 < 1 by decide) (by decide)) dL_law_1222 ?_
    rw [nI_clamp (by decide)]
    refine lv_iload hx hb dL_law_1223 (lv_at hl 0 rfl) ?_
    refine lv_i2l hx hb dL_law_1225 rfl ?_
    refine W.lcmp hx hb dL_law_1226 ?_
    refine to_i (y := 0) (by rw [eo, er2]; exact cmp_rf _) ?_
    refine lv_if_eq (tgt := 1232) hx hb dL_law_1227 (by decide) (fun _ => ?_) (fun h9 => absurd rfl h9)
    refine lv_goto (tgt := 1303) hx hb dL_law_1232 (by decide) ?_
    exact va_forget (fun q hq => hS.2.2 q hq) (W.widen (k := cells + 100) (n := slots + 5000) (by omega) (by omega) (kk H _ _ _ ⟨hP, hD, ⟨hS.1, hS.2.1, fun _ h => by cases h⟩, hokU, hJ2.1, hJ2.2⟩ (by rw [show lvL b oa t ul.1.1 ad2 = lvL b oa t ad ad2 by unfold lvL; rw [had]]; exact lv_sub hl [2, 3, 4, 5, 6] rfl)))

set_option maxHeartbeats 4000000 in
set_option maxRecDepth 100000 in
theorem s_owes {p : Program} {l : Launch} {e : Env} {s : State} {m : MethodId} {below : List Frame} {meth : Method} {c : Code} {b Ls : Nat} {xs : Nat → Int32} {dC : Nat → ClassId} {dI : Nat → Nat → Nat} {cy : Nat → ClassId} {e0 mi oa : Nat} {ad : Lc → Nat} {L : List Lc} {S : SS} {N : NN} {f0 : Nat → Int64} {ad2 : Nat → Nat} {F : Nat → Int32} {C : Nat → Nat} {R : Nat → Nat → Int32} {T : Nat → Nat → Nat} {H : Heap} {ls : Array Slot} {t cells slots : Nat} {Q : State → Prop}
    (hF : LF p l s m c b Ls xs dC dI cy e0 mi) (hLs : Ls ≤ 3072) (ht : 6 * t + 6 ≤ Ls) (hc : cells + 100 ≤ 601024) (hsl : slots + 5000 ≤ 7293034) (hI0 : LI dC dI cy e0 oa ad2 s H ((ad, L, S, N), f0) (F, C, R, T)) (hl : lv_has ls 7 (lvL b oa t ad ad2))
    (kk : ∀ (H : Heap) (u : LU) (v : MS) (ls : Array Slot), LI dC dI cy e0 oa ad2 s H u v → lv_has ls 7 (lvL b oa t u.1.1 ad2) → W p l e room_1 s m (#[Value.ref b] : Array Value) below meth c H [] (cells + 100) (slots + 5000) Q (F0 m 1303 ls [])) :
    W p l e room_1 s m (#[Value.ref b] : Array Value) below meth c H [] cells slots Q (F0 m 1235 ls []) := by
  obtain ⟨hx, hb, hml, hown, hts, hXs, hbl, hK, ham, hst⟩ := hF
  obtain ⟨hP, hD, hS, ⟨hI, hX⟩, hJ, hM⟩ := hI0
  have hN := okS_of hI
  obtain ⟨q9, q14, qT, qV, qC, qn⟩ := JJ_T hJ hN
  have hA : ∀ q, s.heap.size ≤ q → freshA s q := fun q h => h
  have hbA : ¬ freshA s b := fun h => Nat.lt_irrefl _ (Nat.lt_of_lt_of_le hbl h)
  have hP : va_P (dC, dI) vwCl ((cw cy e0 ad L S N ++ [(oa, .inl (cy 5, 1, .inr (.inl f0)))]) ++ mwU ad2 cy (F, C, R, T)) H := hP
  have hD : va_D (freshA s) ((cw cy e0 ad L S N ++ [(oa, .inl (cy 5, 1, .inr (.inl f0)))]) ++ mwU ad2 cy (F, C, R, T)) := hD
  refine lv_aload_n hx hb dL_law_1235 rfl (lv_at hl 3 rfl) ?_
  refine lv_aload_n hx hb dL_law_1236 rfl (lv_at hl 4 rfl) ?_
  refine lv_iload hx hb dL_law_1237 (lv_at hl 0 rfl) ?_
  refine lv_iconst (v := nI 1) hx hb dL_law_1239 (by decide) ?_
  refine lv_iadd hx hb dL_law_1240 ?_
  refine to_i (y := nI ((6 * t) + 1)) (nI_add _ _) ?_
  refine va_sld hx hb hXs hbl hbA hS (i := nI (6 * t + 1)) (vp_in_nI (show 6 * t + 1 < Ls by omega) (by omega)) dL_law_1241 ?_
  refine to_i (y := xs (6 * t + 1)) (by rw [nI_clamp (show 6 * t + 1 < 2 ^ 31 by omega)]) ?_
  refine lv_aload_n hx hb dL_law_1242 rfl (lv_at hl 4 rfl) ?_
  refine lv_iload hx hb dL_law_1243 (lv_at hl 0 rfl) ?_
  refine lv_iconst (v := nI 2) hx hb dL_law_1245 (by decide) ?_
  refine lv_iadd hx hb dL_law_1246 ?_
  refine to_i (y := nI ((6 * t) + 2)) (nI_add _ _) ?_
  refine va_sld hx hb hXs hbl hbA hS (i := nI (6 * t + 2)) (vp_in_nI (show 6 * t + 2 < Ls by omega) (by omega)) dL_law_1247 ?_
  refine to_i (y := xs (6 * t + 2)) (by rw [nI_clamp (show 6 * t + 2 < 2 ^ 31 by omega)]) ?_
  refine lv_aload_n hx hb dL_law_1248 rfl (lv_at hl 1 rfl) ?_
  refine callY_i hP (vx_runSW (As := [.ref (ad (10, 0)), .int (xs (6 * t + 1)), .int (xs (6 * t + 2)), .ref oa]) (rest := []) ⟨hx, hb, hml, hown, hts⟩ (qL_owes l dC dI cy e0 mi oa ad L S N f0 H.size (xs (6 * t + 1)) (xs (6 * t + 2)) hI hX hst) (vx_cwSW 4 hts gL_law_L_owes rfl rfl rfl (by decide +kernel) ⟨Nat.le_of_ble_eq_true rfl, Nat.le_of_ble_eq_true rfl⟩) (preLS hK (w_leftP hP) (w_leftD hD) hS hA ham) rfl rfl hl.1 rfl (lv_room (Nat.le_of_ble_eq_true rfl)) dL_law_1249 ⟨by show _ ≤ 601024; omega, by show _ ≤ 7293034; omega⟩) hD hS hA (fun rr ul H locs hw hP hD hS => ?_)
  obtain ⟨er, hok0, hno, hokU, had⟩ := hw
  refine lv_istore (lv' := [(5, .int rr), (4, .int (nI (6 * t))), (3, .ref oa), (2, .ref ((ad2 0))), (1, .ref (ad (10, 0))), (0, .ref b)]) hx hb dL_law_1252 hl (by decide) rfl (fun ls hl => ?_)
  refine lv_aload_n hx hb dL_law_1254 rfl (lv_at hl 3 rfl) ?_
  refine lv_aload_n hx hb dL_law_1255 rfl (lv_at hl 5 rfl) ?_
  refine lv_iload hx hb dL_law_1256 (lv_at hl 1 rfl) ?_
  refine lv_iconst (v := nI 1) hx hb dL_law_1258 (by decide) ?_
  refine lv_iadd hx hb dL_law_1259 ?_
  refine to_i (y := nI ((6 * t) + 1)) (nI_add _ _) ?_
  refine va_sld hx hb hXs hbl hbA hS (i := nI (6 * t + 1)) (vp_in_nI (show 6 * t + 1 < Ls by omega) (by omega)) dL_law_1260 ?_
  refine to_i (y := xs (6 * t + 1)) (by rw [nI_clamp (show 6 * t + 1 < 2 ^ 31 by omega)]) ?_
  refine lv_aload_n hx hb dL_law_1261 rfl (lv_at hl 5 rfl) ?_
  refine lv_iload hx hb dL_law_1262 (lv_at hl 1 rfl) ?_
  refine lv_iconst (v := nI 2) hx hb dL_law_1264 (by decide) ?_
  refine lv_iadd hx hb dL_law_1265 ?_
  refine to_i (y := nI ((6 * t) + 2)) (nI_add _ _) ?_
  refine va_sld hx hb hXs hbl hbA hS (i := nI (6 * t + 2)) (vp_in_nI (show 6 * t + 2 < Ls by omega) (by omega)) dL_law_1266 ?_
  refine to_i (y := xs (6 * t + 2)) (by rw [nI_clamp (show 6 * t + 2 < 2 ^ 31 by omega)]) ?_
  have hPm := w_swP hP
  have hDm := w_swD hD
  refine callY_i hPm (va_runV (As := [.int (xs (6 * t + 1)), .int (xs (6 * t + 2))]) (rest := []) ⟨hx, hb, hml, hown, hts⟩ (qX4_owes l dC dI cy ad2 F C R T H.size (xs (6 * t + 1)) (xs (6 * t + 2)) q9 q14 qC) (cwV 2 hts gL_law_X4_owes rfl rfl rfl (by decide +kernel) ⟨Nat.le_of_ble_eq_true rfl, Nat.le_of_ble_eq_true rfl⟩) (preV hK (w_leftP hPm) (w_leftD hDm) (w_recv (ci := 5) (q0 := 0) hK (w_leftP hPm) rfl rfl)) rfl rfl hl.1 rfl (lv_room (Nat.le_of_ble_eq_true rfl)) dL_law_1267 ⟨by show _ ≤ 601024; omega, by show _ ≤ 7293034; omega⟩) hDm hS hA (fun ra vv H locs hw2 hP hD hS => ?_)
  have ev : vv = (M_owes F C R T (xs (6 * t + 1)) (xs (6 * t + 2))).2 := congrArg Prod.snd hw2
  have ea : ra = (M_owes F C R T (xs (6 * t + 1)) (xs (6 * t + 2))).1 := congrArg Prod.fst hw2
  obtain ⟨j1, j2, j3⟩ := j_owes hJ hN (xs (6 * t + 1)) (xs (6 * t + 2))
  rw [← ev] at j1 j2 j3
  rw [← ea] at j2
  have hJ2 : JJ ul.1.2.2 vv ∧ jM ul.1.2.2 := by
    by_cases hV : (V_owes N (xs (6 * t + 1)) (xs (6 * t + 2))) = 0
    · rw [(hok0 hV).2]
      exact ⟨(j2 hV).2, hM⟩
    · rw [hno hV]
      exact ⟨j3 hV, hM⟩
  refine lv_istore (lv' := [(6, .int ra), (5, .int rr), (4, .int (nI (6 * t))), (3, .ref oa), (2, .ref ((ad2 0))), (1, .ref (ad (10, 0))), (0, .ref b)]) hx hb dL_law_1270 hl (by decide) rfl (fun ls hl => ?_)
  refine lv_aload_n hx hb dL_law_1272 rfl (lv_at hl 4 rfl) ?_
  refine callY_i hP (va_runV (As := []) (rest := []) ⟨hx, hb, hml, hown, hts⟩ (qX4_thrown l dC dI cy ad2 vv.1 vv.2.1 vv.2.2.1 vv.2.2.2 H.size) (cwV 0 hts gL_law_X4_thrown rfl rfl rfl (by decide +kernel) ⟨Nat.le_of_ble_eq_true rfl, Nat.le_of_ble_eq_true rfl⟩) (preV hK (w_leftP hP) (w_leftD hD) (w_recv (ci := 5) (q0 := 0) hK (w_leftP hP) rfl rfl)) rfl rfl hl.1 rfl (lv_room (Nat.le_of_ble_eq_true rfl)) dL_law_1273 ⟨by show _ ≤ 601024; omega, by show _ ≤ 7293034; omega⟩) hD hS hA (fun rt v2 H locs hw3 hP hD hS => ?_)
  obtain ⟨et, ev2⟩ := hw3
  have ev3 : vv = v2 := ev2.symm
  subst ev3
  have hP := w_swP hP
  have hD := w_swD hD
  refine lv_iload hx hb dL_law_1276 (lv_at hl 1 rfl) ?_
  refine lv_icmp_eq (tgt := 1283) hx hb dL_law_1278 (by decide) (fun _ => ?_) (fun h9 => absurd ((et.trans j1).trans er.symm) h9)
  refine lv_iload hx hb dL_law_1283 (lv_at hl 1 rfl) ?_
  refine lv_if_ne (tgt := 1300) hx hb dL_law_1285 (by decide) (fun h8 => ?_) (fun h8 => ?_)
  · refine lv_goto (tgt := 1303) hx hb dL_law_1300 (by decide) ?_
    exact va_forget (fun q hq => hS.2.2 q hq) (W.widen (k := cells + 100) (n := slots + 5000) (by omega) (by omega) (kk H _ _ _ ⟨hP, hD, ⟨hS.1, hS.2.1, fun _ h => by cases h⟩, hokU, hJ2.1, hJ2.2⟩ (by rw [show lvL b oa t ul.1.1 ad2 = lvL b oa t ad ad2 by unfold lvL; rw [had]]; exact lv_sub hl [2, 3, 4, 5, 6] rfl)))
  · have hV : (V_owes N (xs (6 * t + 1)) (xs (6 * t + 2))) = 0 := V_0 (by unfold V_owes; (repeat' split) <;> omega) (er.symm.trans h8)
    have eo : ul.2 0 = ((if nI 0 < S 8 (ix (xs (6 * t + 1))) (ix (xs (6 * t + 2))) - S 8 (ix (xs (6 * t + 1))) (1 - ix (xs (6 * t + 2))) then S 8 (ix (xs (6 * t + 1))) (ix (xs (6 * t + 2))) - S 8 (ix (xs (6 * t + 1))) (1 - ix (xs (6 * t + 2))) else nI 0)).toInt64 := (hok0 hV).1
    have er2 : ra = (if nI 0 < S 8 (ix (xs (6 * t + 1))) (ix (xs (6 * t + 2))) - S 8 (ix (xs (6 * t + 1))) (1 - ix (xs (6 * t + 2))) then S 8 (ix (xs (6 * t + 1))) (ix (xs (6 * t + 2))) - S 8 (ix (xs (6 * t + 1))) (1 - ix (xs (6 * t + 2))) else nI 0) := (j2 hV).1
    refine lv_aload_n hx hb dL_law_1288 rfl (lv_at hl 3 rfl) ?_
    refine lv_iconst (v := nI 0) hx hb dL_law_1289 (by decide) ?_
    refine va_lald hx hb hK (w_leftP hP) (pl ul.1.2.1 ul.1.1 (cc cy e0 ul.1.1 ul.1.2.2.1 ul.1.2.2.2)).length 5 (app_r (k := 0) rfl) rfl (vp_in_nI (show 0 < 1 by decide) (by decide)) dL_law_1290 ?_
    rw [nI_clamp (by decide)]
    refine lv_iload hx hb dL_law_1291 (lv_at hl 0 rfl) ?_
    refine lv_i2l hx hb dL_law_1293 rfl ?_
    refine W.lcmp hx hb dL_law_1294 ?_
    refine to_i (y := 0) (by rw [eo, er2]; exact cmp_rf _) ?_
    refine lv_if_eq (tgt := 1300) hx hb dL_law_1295 (by decide) (fun _ => ?_) (fun h9 => absurd rfl h9)
    refine lv_goto (tgt := 1303) hx hb dL_law_1300 (by decide) ?_
    exact va_forget (fun q hq => hS.2.2 q hq) (W.widen (k := cells + 100) (n := slots + 5000) (by omega) (by omega) (kk H _ _ _ ⟨hP, hD, ⟨hS.1, hS.2.1, fun _ h => by cases h⟩, hokU, hJ2.1, hJ2.2⟩ (by rw [show lvL b oa t ul.1.1 ad2 = lvL b oa t ad ad2 by unfold lvL; rw [had]]; exact lv_sub hl [2, 3, 4, 5, 6] rfl)))

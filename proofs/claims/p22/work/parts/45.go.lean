/-! the law: from its first question to its end -/
set_option maxHeartbeats 8000000 in
set_option maxRecDepth 100000 in
theorem law_go {p : Program} {l : Launch} {e : Env} {s : State} {m : MethodId} {below : List Frame} {meth : Method} {c : Code} {sb Ls : Nat} {xs : Nat → Int32} {dC : Nat → ClassId} {dI : Nat → Nat → Nat} {cy : Nat → ClassId} {e0 mi oc : Nat} {ab : Nat → Nat} {ad : Lc → Nat} {L : List Lc} {S : SS} {N : NN} {Y : Nat → Nat → Nat} {t : Nat → Int32} {D : Int32} {a b : Nat} {H : Heap} {locs : List Loc} {ls : Array Slot}
    (hF : LF p l s m c sb Ls xs dC dI cy e0 mi) (hLs : Ls ≤ 260) (hr : meth.sig.returnType = ret) (hlocks : meth.locks = false) (hP : va_P (dC, dI) vwCl (cw cy e0 ad L S N ++ yw ab cy Y t D a b) H) (hD : va_D (freshA s) (cw cy e0 ad L S N ++ yw ab cy Y t D a b)) (hS : va_S (freshA s) s.heap H locs) (hl : lv_has ls 15 [(0, .ref sb), (1, .ref oc), (2, .ref (ab 0)), (3, .ref (ab 1)), (4, .ref (ab 2)), (5, .ref (ab 3)), (6, .ref (ab 4)), (7, .ref (ab 5)), (8, .ref (ab 6)), (9, .ref (ab 7))]) (hI : okC L N) (hX : okX L N) (hoc : ad (10, 0) = oc) (hR : RZ S N Y t D a b) :
    W p l e room_1 s m (#[Value.ref sb] : Array Value) below meth c H locs 20 400 (lw_Z below #[Value.ref sb] s) (F0 m 53 ls []) := by
  obtain ⟨hx, hb, hml, hown, hts, hXs, hbl, hK, ham, hst⟩ := hF
  have hA : ∀ q, s.heap.size ≤ q → freshA s q := fun q h => h
  have hbA : ¬ freshA s sb := fun h => Nat.lt_irrefl _ (Nat.lt_of_lt_of_le hbl h)
  generalize hAA : freshA s = A at hD hS ham hA hbA
  refine lv_aload_n hx hb dL_law_53 rfl (lv_at hl 1 rfl) ?_
  refine lv_iconst (v := nI 0) hx hb dL_law_54 (by decide) ?_
  refine lv_aload_n hx hb dL_law_55 rfl (lv_at hl 2 rfl) ?_
  refine lv_aload_n hx hb dL_law_56 rfl (lv_at hl 3 rfl) ?_
  refine lv_aload hx hb dL_law_57 (lv_at hl 5 rfl) ?_
  refine lv_aload hx hb dL_law_59 (lv_at hl 6 rfl) ?_
  refine lv_aload hx hb dL_law_61 (lv_at hl 7 rfl) ?_
  refine lv_aload hx hb dL_law_63 (lv_at hl 8 rfl) ?_
  refine lv_aload hx hb dL_law_65 (lv_at hl 9 rfl) ?_
  refine call_i (va_runS (As := [.ref oc, .int (nI 0), .ref ((ab 0)), .ref ((ab 1)), .ref ((ab 3)), .ref ((ab 4)), .ref ((ab 5)), .ref ((ab 6)), .ref ((ab 7))]) (rest := []) ⟨hx, hb, hml, hown, hts⟩ (qL_isTold l dC dI cy e0 mi oc ab ad L S N Y t D a b H.size (nI 0) hI hX hst hoc hR) (va_cwS 9 hts gL_law_L_isTold rfl rfl rfl (by decide +kernel) ⟨Nat.le_of_ble_eq_true rfl, Nat.le_of_ble_eq_true rfl⟩) (preLS hK hP hD hS hA ham) rfl rfl hl.1 rfl (lv_room (Nat.le_of_ble_eq_true rfl)) dL_law_67 ⟨by show _ ≤ 683262; omega, by show _ ≤ 7051911; omega⟩) hD hS hA (fun rr uu H locs hw hP hD hS => ?_)
  obtain ⟨rfl, hIN⟩ := hw
  obtain ⟨⟨ad, L, S, N⟩, Y, t, D, a, b⟩ := uu
  obtain ⟨⟨hI, hX⟩, hoc, hR⟩ := hIN
  have hP : va_P (dC, dI) vwCl (cw cy e0 ad L S N ++ yw ab cy Y t D a b) H := hP
  have hD : va_D A (cw cy e0 ad L S N ++ yw ab cy Y t D a b) := hD
  refine lv_if_ne (tgt := 75) hx hb dL_law_70 (by decide) (fun _ => ?_) (fun h9 => absurd h9 (by decide))
  refine lv_iconst (v := nI 0) hx hb dL_law_75 (by decide) ?_
  refine lv_istore (lv' := [(10, .int (nI 0)), (0, .ref sb), (1, .ref oc), (2, .ref ((ab 0))), (3, .ref ((ab 1))), (4, .ref ((ab 2))), (5, .ref ((ab 3))), (6, .ref ((ab 4))), (7, .ref ((ab 5))), (8, .ref ((ab 6))), (9, .ref ((ab 7)))]) hx hb dL_law_76 hl (by decide) rfl (fun ls hl => ?_)
  have hl_l : ∀ (k9 k : Nat) (ad : Lc → Nat) (L : List Lc) (S : SS) (N : NN) (Y : Nat → Nat → Nat) (t : Nat → Int32) (D : Int32) (a b : Nat), 140 - k = k9 → k ≤ 140 → (okC L N) → (okX L N) → (ad (10, 0) = oc) → (RZ S N Y t D a b) → ∀ (H : Heap) (locs : List Loc) (ls : Array Slot), va_P (dC, dI) vwCl (cw cy e0 ad L S N ++ yw ab cy Y t D a b) H → va_D A (cw cy e0 ad L S N ++ yw ab cy Y t D a b) → va_S A s.heap H locs → lv_has ls 15 [(0, .ref sb), (1, .ref oc), (2, .ref ((ab 0))), (3, .ref ((ab 1))), (4, .ref ((ab 2))), (5, .ref ((ab 3))), (6, .ref ((ab 4))), (7, .ref ((ab 5))), (8, .ref ((ab 6))), (9, .ref ((ab 7))), (10, .int (nI k))] → W p l e room_1 s m ((#[Value.ref sb] : Array Value)) below meth c H locs (600 + 700 * k) (4000 + 23000 * k) (lw_Z below #[Value.ref sb] s) (F0 m 78 ls []) := by
    intro k9
    induction k9 using Nat.strongRecOn with
    | _ k9 ih_l =>
      intro k ad L S N Y t D a b hk9 hle9 hI hX hoc hR H locs ls hP hD hS hl
      refine lv_iload hx hb dL_law_78 (lv_at hl 10 rfl) ?_
      refine lv_sipush (v := nI 140) hx hb dL_law_80 (by decide) ?_
      refine n_ge (tgt := 306) hx hb dL_law_83 (by decide) (by omega) (by omega) (fun c_2 => ?_) (fun c_2 => ?_)
      · refine lv_iconst (v := nI 1) hx hb dL_law_306 (by decide) ?_
        exact va_forget (fun q hq => by have z := hS.2.2 q hq; rw [← hAA] at z; exact z) (W.widen (k := 683262) (n := 7051911) (by omega) (by omega) (lw_ret hx hb hr hlocks dL_law_307))
      · refine lv_aload_n hx hb dL_law_86 rfl (lv_at hl 0 rfl) ?_
        refine lv_iconst (v := nI 3) hx hb dL_law_87 (by decide) ?_
        refine lv_iload hx hb dL_law_88 (lv_at hl 10 rfl) ?_
        refine lv_imul hx hb dL_law_90 ?_
        refine to_i (y := nI (3 * k)) (pk_mul _ _) ?_
        refine call_i (va_runS (As := [.ref sb, .int (nI (3 * k))]) (rest := []) ⟨hx, hb, hml, hown, hts⟩ (qL_cell l dC dI cy (cw cy e0 ad L S N ++ yw ab cy Y t D a b) H.size sb Ls (3 * k) xs (by omega) (by omega)) (va_cwS 2 hts gL_law_L_cell rfl rfl rfl (by decide +kernel) ⟨Nat.le_of_ble_eq_true rfl, Nat.le_of_ble_eq_true rfl⟩) (preSc hK hP hD hS hA hXs hbl hbA) rfl rfl hl.1 rfl (lv_room (Nat.le_of_ble_eq_true rfl)) dL_law_91 ⟨by show _ ≤ 683262; omega, by show _ ≤ 7051911; omega⟩) hD hS hA (fun wv uu H locs hw hP hD hS => ?_)
        have hP : va_P (dC, dI) vwCl (cw cy e0 ad L S N ++ yw ab cy Y t D a b) H := hP
        have hD : va_D A (cw cy e0 ad L S N ++ yw ab cy Y t D a b) := hD
        refine lv_istore (lv' := [(11, .int wv), (0, .ref sb), (1, .ref oc), (2, .ref ((ab 0))), (3, .ref ((ab 1))), (4, .ref ((ab 2))), (5, .ref ((ab 3))), (6, .ref ((ab 4))), (7, .ref ((ab 5))), (8, .ref ((ab 6))), (9, .ref ((ab 7))), (10, .int (nI k))]) hx hb dL_law_94 hl (by decide) rfl (fun ls hl => ?_)
        refine lv_aload_n hx hb dL_law_96 rfl (lv_at hl 1 rfl) ?_
        refine lv_iconst (v := nI 3) hx hb dL_law_97 (by decide) ?_
        refine lv_iload hx hb dL_law_98 (lv_at hl 11 rfl) ?_
        refine lv_imul hx hb dL_law_100 ?_
        refine to_i (y := nI (3 * k)) (pk_mul _ _) ?_
        refine lv_iconst (v := nI 1) hx hb dL_law_101 (by decide) ?_
        refine lv_iadd hx hb dL_law_102 ?_
        refine to_i (y := nI ((3 * k) + 1)) (nI_add _ _) ?_
        refine call_i (va_runS (As := [.ref sb, .int (nI ((3 * k) + 1))]) (rest := []) ⟨hx, hb, hml, hown, hts⟩ (qL_cell l dC dI cy (cw cy e0 ad L S N ++ yw ab cy Y t D a b) H.size sb Ls ((3 * k) + 1) xs (by omega) (by omega)) (va_cwS 2 hts gL_law_L_cell rfl rfl rfl (by decide +kernel) ⟨Nat.le_of_ble_eq_true rfl, Nat.le_of_ble_eq_true rfl⟩) (preSc hK hP hD hS hA hXs hbl hbA) rfl rfl hl.1 rfl (lv_room (Nat.le_of_ble_eq_true rfl)) dL_law_103 ⟨by show _ ≤ 683262; omega, by show _ ≤ 7051911; omega⟩) hD hS hA (fun yv uu H locs hw hP hD hS => ?_)
        have hP : va_P (dC, dI) vwCl (cw cy e0 ad L S N ++ yw ab cy Y t D a b) H := hP
        have hD : va_D A (cw cy e0 ad L S N ++ yw ab cy Y t D a b) := hD
        refine lv_istore (lv' := [(12, .int yv), (11, .int wv), (0, .ref sb), (1, .ref oc), (2, .ref ((ab 0))), (3, .ref ((ab 1))), (4, .ref ((ab 2))), (5, .ref ((ab 3))), (6, .ref ((ab 4))), (7, .ref ((ab 5))), (8, .ref ((ab 6))), (9, .ref ((ab 7))), (10, .int (nI k))]) hx hb dL_law_106 hl (by decide) rfl (fun ls hl => ?_)
        refine lv_aload_n hx hb dL_law_108 rfl (lv_at hl 2 rfl) ?_
        refine lv_iconst (v := nI 3) hx hb dL_law_109 (by decide) ?_
        refine lv_iload hx hb dL_law_110 (lv_at hl 12 rfl) ?_
        refine lv_imul hx hb dL_law_112 ?_
        refine to_i (y := nI (3 * k)) (pk_mul _ _) ?_
        refine lv_iconst (v := nI 2) hx hb dL_law_113 (by decide) ?_
        refine lv_iadd hx hb dL_law_114 ?_
        refine to_i (y := nI ((3 * k) + 2)) (nI_add _ _) ?_
        refine call_i (va_runS (As := [.ref sb, .int (nI ((3 * k) + 2))]) (rest := []) ⟨hx, hb, hml, hown, hts⟩ (qL_cell l dC dI cy (cw cy e0 ad L S N ++ yw ab cy Y t D a b) H.size sb Ls ((3 * k) + 2) xs (by omega) (by omega)) (va_cwS 2 hts gL_law_L_cell rfl rfl rfl (by decide +kernel) ⟨Nat.le_of_ble_eq_true rfl, Nat.le_of_ble_eq_true rfl⟩) (preSc hK hP hD hS hA hXs hbl hbA) rfl rfl hl.1 rfl (lv_room (Nat.le_of_ble_eq_true rfl)) dL_law_115 ⟨by show _ ≤ 683262; omega, by show _ ≤ 7051911; omega⟩) hD hS hA (fun xv uu H locs hw hP hD hS => ?_)
        have hP : va_P (dC, dI) vwCl (cw cy e0 ad L S N ++ yw ab cy Y t D a b) H := hP
        have hD : va_D A (cw cy e0 ad L S N ++ yw ab cy Y t D a b) := hD
        refine lv_istore (lv' := [(13, .int xv), (12, .int yv), (11, .int wv), (0, .ref sb), (1, .ref oc), (2, .ref ((ab 0))), (3, .ref ((ab 1))), (4, .ref ((ab 2))), (5, .ref ((ab 3))), (6, .ref ((ab 4))), (7, .ref ((ab 5))), (8, .ref ((ab 6))), (9, .ref ((ab 7))), (10, .int (nI k))]) hx hb dL_law_118 hl (by decide) rfl (fun ls hl => ?_)
        refine lv_iload hx hb dL_law_120 (lv_at hl 13 rfl) ?_
        refine lv_bipush (v := nI 6) hx hb dL_law_122 (by decide) ?_
        have J150 : ∀ (act : Nat), act < 28 → ∀ (H : Heap) (locs : List Loc), va_P (dC, dI) vwCl (cw cy e0 ad L S N ++ yw ab cy Y t D a b) H → va_D A (cw cy e0 ad L S N ++ yw ab cy Y t D a b) → va_S A s.heap H locs → W p l e room_1 s m ((#[Value.ref sb] : Array Value)) below meth c H locs (600 + 700 * k) (4000 + 23000 * k) (lw_Z below #[Value.ref sb] s) (F0 m 150 ls [.int (nI act)]) := by
          intro act hact H locs hP hD hS
          refine lv_istore (lv' := [(14, .int (nI act)), (13, .int xv), (12, .int yv), (11, .int wv), (0, .ref sb), (1, .ref oc), (2, .ref ((ab 0))), (3, .ref ((ab 1))), (4, .ref ((ab 2))), (5, .ref ((ab 3))), (6, .ref ((ab 4))), (7, .ref ((ab 5))), (8, .ref ((ab 6))), (9, .ref ((ab 7))), (10, .int (nI k))]) hx hb dL_law_150 hl (by decide) rfl (fun ls hl => ?_)
          refine lv_iload hx hb dL_law_152 (lv_at hl 0 rfl) ?_
          refine lv_bipush (v := nI 6) hx hb dL_law_154 (by decide) ?_
          refine n_ge (tgt := 179) hx hb dL_law_156 (by decide) (by omega) (by omega) (fun c_3 => ?_) (fun c_3 => ?_)
          · refine lv_iload hx hb dL_law_179 (lv_at hl 0 rfl) ?_
            refine lv_bipush (v := nI 18) hx hb dL_law_181 (by decide) ?_
            refine n_ge (tgt := 250) hx hb dL_law_183 (by decide) (by omega) (by omega) (fun c_4 => ?_) (fun c_4 => ?_)
            · refine lv_aload_n hx hb dL_law_250 rfl (lv_at hl 5 rfl) ?_
              refine lv_iload hx hb dL_law_251 (lv_at hl 0 rfl) ?_
              refine lv_bipush (v := nI 18) hx hb dL_law_253 (by decide) ?_
              refine lv_isub hx hb dL_law_255 ?_
              refine to_i (y := nI (act - 18)) (pk_sub (by omega)) ?_
              refine lv_iload hx hb dL_law_256 (lv_at hl 2 rfl) ?_
              refine lv_iload hx hb dL_law_258 (lv_at hl 1 rfl) ?_
              refine lv_aload hx hb dL_law_260 (lv_at hl 11 rfl) ?_
              refine lv_aload hx hb dL_law_262 (lv_at hl 12 rfl) ?_
              refine lv_aload hx hb dL_law_264 (lv_at hl 13 rfl) ?_
              refine call_i (va_runS (As := [.ref oc, .int (nI (act - 18)), .int yv, .int xv, .ref ((ab 5)), .ref ((ab 6)), .ref ((ab 7))]) (rest := []) ⟨hx, hb, hml, hown, hts⟩ (qL_works l dC dI cy e0 mi oc ab ad L S N Y t D a b H.size (act - 18) yv xv hI hX hst hoc hR (by omega)) (va_cwS 7 hts gL_law_L_works rfl rfl rfl (by decide +kernel) ⟨Nat.le_of_ble_eq_true rfl, Nat.le_of_ble_eq_true rfl⟩) (preLS hK hP hD hS hA ham) rfl rfl hl.1 rfl (lv_room (Nat.le_of_ble_eq_true rfl)) dL_law_266 ⟨by show _ ≤ 683262; omega, by show _ ≤ 7051911; omega⟩) hD hS hA (fun rr uu H locs hw hP hD hS => ?_)
              obtain ⟨rfl, hIN⟩ := hw
              obtain ⟨⟨ad, L, S, N⟩, Y, t, D, a, b⟩ := uu
              obtain ⟨⟨hI, hX⟩, hoc, hR⟩ := hIN
              have hP : va_P (dC, dI) vwCl (cw cy e0 ad L S N ++ yw ab cy Y t D a b) H := hP
              have hD : va_D A (cw cy e0 ad L S N ++ yw ab cy Y t D a b) := hD
              refine lv_if_eq (tgt := 298) hx hb dL_law_269 (by decide) (fun h9 => absurd h9 (by decide)) (fun _ => ?_)
              refine lv_aload_n hx hb dL_law_272 rfl (lv_at hl 5 rfl) ?_
              refine lv_iload hx hb dL_law_273 (lv_at hl 3 rfl) ?_
              refine lv_iconst (v := nI 5) hx hb dL_law_275 (by decide) ?_
              refine lv_ishr hx hb dL_law_276 ?_
              refine lv_iload hx hb dL_law_277 (lv_at hl 2 rfl) ?_
              refine lv_ixor hx hb dL_law_279 ?_
              refine lv_aload_n hx hb dL_law_280 rfl (lv_at hl 6 rfl) ?_
              refine lv_aload_n hx hb dL_law_281 rfl (lv_at hl 7 rfl) ?_
              refine lv_aload hx hb dL_law_282 (lv_at hl 9 rfl) ?_
              refine lv_aload hx hb dL_law_284 (lv_at hl 10 rfl) ?_
              refine lv_aload hx hb dL_law_286 (lv_at hl 11 rfl) ?_
              refine lv_aload hx hb dL_law_288 (lv_at hl 12 rfl) ?_
              refine lv_aload hx hb dL_law_290 (lv_at hl 13 rfl) ?_
              refine call_i (va_runS (As := [.ref oc, .int ((wv >>> ((nI 5) &&& 31)) ^^^ yv), .ref ((ab 0)), .ref ((ab 1)), .ref ((ab 3)), .ref ((ab 4)), .ref ((ab 5)), .ref ((ab 6)), .ref ((ab 7))]) (rest := []) ⟨hx, hb, hml, hown, hts⟩ (qL_isTold l dC dI cy e0 mi oc ab ad L S N Y t D a b H.size ((wv >>> ((nI 5) &&& 31)) ^^^ yv) hI hX hst hoc hR) (va_cwS 9 hts gL_law_L_isTold rfl rfl rfl (by decide +kernel) ⟨Nat.le_of_ble_eq_true rfl, Nat.le_of_ble_eq_true rfl⟩) (preLS hK hP hD hS hA ham) rfl rfl hl.1 rfl (lv_room (Nat.le_of_ble_eq_true rfl)) dL_law_292 ⟨by show _ ≤ 683262; omega, by show _ ≤ 7051911; omega⟩) hD hS hA (fun rr uu H locs hw hP hD hS => ?_)
              obtain ⟨rfl, hIN⟩ := hw
              obtain ⟨⟨ad, L, S, N⟩, Y, t, D, a, b⟩ := uu
              obtain ⟨⟨hI, hX⟩, hoc, hR⟩ := hIN
              have hP : va_P (dC, dI) vwCl (cw cy e0 ad L S N ++ yw ab cy Y t D a b) H := hP
              have hD : va_D A (cw cy e0 ad L S N ++ yw ab cy Y t D a b) := hD
              refine lv_if_ne (tgt := 300) hx hb dL_law_295 (by decide) (fun _ => ?_) (fun h9 => absurd h9 (by decide))
              refine lv_iinc (v := nI (k + 1)) (lv' := [(10, .int (nI (k + 1))), (14, .int (nI act)), (13, .int xv), (12, .int yv), (11, .int wv), (0, .ref sb), (1, .ref oc), (2, .ref ((ab 0))), (3, .ref ((ab 1))), (4, .ref ((ab 2))), (5, .ref ((ab 3))), (6, .ref ((ab 4))), (7, .ref ((ab 5))), (8, .ref ((ab 6))), (9, .ref ((ab 7)))]) hx hb dL_law_300 hl (k := 14) rfl (by rw [show Int32.ofInt 1 = 1 from rfl]; exact nI_1 _) (by decide) rfl (fun ls hl => ?_)
              refine lv_goto (tgt := 78) hx hb dL_law_303 (by decide) ?_
              exact W.widen (k := 600 + 700 * (k + 1)) (n := 4000 + 23000 * (k + 1)) (by omega) (by omega) (ih_l (140 - (k + 1)) (by omega) (k + 1) ad L S N Y t D a b rfl (by omega) hI hX hoc hR H locs ls hP hD hS (by exact lv_sub hl [5, 6, 7, 8, 9, 10, 11, 12, 13, 14, 0] rfl))
            · refine lv_aload_n hx hb dL_law_186 rfl (lv_at hl 5 rfl) ?_
              refine lv_iload hx hb dL_law_187 (lv_at hl 0 rfl) ?_
              refine lv_bipush (v := nI 6) hx hb dL_law_189 (by decide) ?_
              have J223 : ∀ (ac : Nat), ac < 10 → ∀ (H : Heap) (locs : List Loc), va_P (dC, dI) vwCl (cw cy e0 ad L S N ++ yw ab cy Y t D a b) H → va_D A (cw cy e0 ad L S N ++ yw ab cy Y t D a b) → va_S A s.heap H locs → W p l e room_1 s m ((#[Value.ref sb] : Array Value)) below meth c H locs (600 + 700 * k) (4000 + 23000 * k) (lw_Z below #[Value.ref sb] s) (F0 m 223 ls [.int (nI ac), .ref oc]) := by
                intro ac hac H locs hP hD hS
                refine lv_iload hx hb dL_law_223 (lv_at hl 2 rfl) ?_
                refine lv_iload hx hb dL_law_225 (lv_at hl 1 rfl) ?_
                refine lv_aload_n hx hb dL_law_227 rfl (lv_at hl 6 rfl) ?_
                refine lv_aload_n hx hb dL_law_228 rfl (lv_at hl 7 rfl) ?_
                refine lv_aload hx hb dL_law_229 (lv_at hl 8 rfl) ?_
                refine lv_aload hx hb dL_law_231 (lv_at hl 9 rfl) ?_
                refine lv_aload hx hb dL_law_233 (lv_at hl 10 rfl) ?_
                refine lv_aload hx hb dL_law_235 (lv_at hl 11 rfl) ?_
                refine lv_aload hx hb dL_law_237 (lv_at hl 12 rfl) ?_
                refine lv_aload hx hb dL_law_239 (lv_at hl 13 rfl) ?_
                refine call_i (va_runS (As := [.ref oc, .int (nI ac), .int yv, .int xv, .ref ((ab 0)), .ref ((ab 1)), .ref ((ab 2)), .ref ((ab 3)), .ref ((ab 4)), .ref ((ab 5)), .ref ((ab 6)), .ref ((ab 7))]) (rest := []) ⟨hx, hb, hml, hown, hts⟩ (qL_drafts l dC dI cy e0 mi oc ab ad L S N Y t D a b H.size ac yv xv hI hX hst hoc hR (by omega)) (va_cwS 12 hts gL_law_L_drafts rfl rfl rfl (by decide +kernel) ⟨Nat.le_of_ble_eq_true rfl, Nat.le_of_ble_eq_true rfl⟩) (preLS hK hP hD hS hA ham) rfl rfl hl.1 rfl (lv_room (Nat.le_of_ble_eq_true rfl)) dL_law_241 ⟨by show _ ≤ 683262; omega, by show _ ≤ 7051911; omega⟩) hD hS hA (fun rr uu H locs hw hP hD hS => ?_)
                obtain ⟨rfl, hIN⟩ := hw
                obtain ⟨⟨ad, L, S, N⟩, Y, t, D, a, b⟩ := uu
                obtain ⟨⟨hI, hX⟩, hoc, hR⟩ := hIN
                have hP : va_P (dC, dI) vwCl (cw cy e0 ad L S N ++ yw ab cy Y t D a b) H := hP
                have hD : va_D A (cw cy e0 ad L S N ++ yw ab cy Y t D a b) := hD
                refine lv_if_eq (tgt := 298) hx hb dL_law_244 (by decide) (fun h9 => absurd h9 (by decide)) (fun _ => ?_)
                refine lv_goto (tgt := 272) hx hb dL_law_247 (by decide) ?_
                refine lv_aload_n hx hb dL_law_272 rfl (lv_at hl 5 rfl) ?_
                refine lv_iload hx hb dL_law_273 (lv_at hl 3 rfl) ?_
                refine lv_iconst (v := nI 5) hx hb dL_law_275 (by decide) ?_
                refine lv_ishr hx hb dL_law_276 ?_
                refine lv_iload hx hb dL_law_277 (lv_at hl 2 rfl) ?_
                refine lv_ixor hx hb dL_law_279 ?_
                refine lv_aload_n hx hb dL_law_280 rfl (lv_at hl 6 rfl) ?_
                refine lv_aload_n hx hb dL_law_281 rfl (lv_at hl 7 rfl) ?_
                refine lv_aload hx hb dL_law_282 (lv_at hl 9 rfl) ?_
                refine lv_aload hx hb dL_law_284 (lv_at hl 10 rfl) ?_
                refine lv_aload hx hb dL_law_286 (lv_at hl 11 rfl) ?_
                refine lv_aload hx hb dL_law_288 (lv_at hl 12 rfl) ?_
                refine lv_aload hx hb dL_law_290 (lv_at hl 13 rfl) ?_
                refine call_i (va_runS (As := [.ref oc, .int ((wv >>> ((nI 5) &&& 31)) ^^^ yv), .ref ((ab 0)), .ref ((ab 1)), .ref ((ab 3)), .ref ((ab 4)), .ref ((ab 5)), .ref ((ab 6)), .ref ((ab 7))]) (rest := []) ⟨hx, hb, hml, hown, hts⟩ (qL_isTold l dC dI cy e0 mi oc ab ad L S N Y t D a b H.size ((wv >>> ((nI 5) &&& 31)) ^^^ yv) hI hX hst hoc hR) (va_cwS 9 hts gL_law_L_isTold rfl rfl rfl (by decide +kernel) ⟨Nat.le_of_ble_eq_true rfl, Nat.le_of_ble_eq_true rfl⟩) (preLS hK hP hD hS hA ham) rfl rfl hl.1 rfl (lv_room (Nat.le_of_ble_eq_true rfl)) dL_law_292 ⟨by show _ ≤ 683262; omega, by show _ ≤ 7051911; omega⟩) hD hS hA (fun rr uu H locs hw hP hD hS => ?_)
                obtain ⟨rfl, hIN⟩ := hw
                obtain ⟨⟨ad, L, S, N⟩, Y, t, D, a, b⟩ := uu
                obtain ⟨⟨hI, hX⟩, hoc, hR⟩ := hIN
                have hP : va_P (dC, dI) vwCl (cw cy e0 ad L S N ++ yw ab cy Y t D a b) H := hP
                have hD : va_D A (cw cy e0 ad L S N ++ yw ab cy Y t D a b) := hD
                refine lv_if_ne (tgt := 300) hx hb dL_law_295 (by decide) (fun _ => ?_) (fun h9 => absurd h9 (by decide))
                refine lv_iinc (v := nI (k + 1)) (lv' := [(10, .int (nI (k + 1))), (14, .int (nI act)), (13, .int xv), (12, .int yv), (11, .int wv), (0, .ref sb), (1, .ref oc), (2, .ref ((ab 0))), (3, .ref ((ab 1))), (4, .ref ((ab 2))), (5, .ref ((ab 3))), (6, .ref ((ab 4))), (7, .ref ((ab 5))), (8, .ref ((ab 6))), (9, .ref ((ab 7)))]) hx hb dL_law_300 hl (k := 14) rfl (by rw [show Int32.ofInt 1 = 1 from rfl]; exact nI_1 _) (by decide) rfl (fun ls hl => ?_)
                refine lv_goto (tgt := 78) hx hb dL_law_303 (by decide) ?_
                exact W.widen (k := 600 + 700 * (k + 1)) (n := 4000 + 23000 * (k + 1)) (by omega) (by omega) (ih_l (140 - (k + 1)) (by omega) (k + 1) ad L S N Y t D a b rfl (by omega) hI hX hoc hR H locs ls hP hD hS (by exact lv_sub hl [5, 6, 7, 8, 9, 10, 11, 12, 13, 14, 0] rfl))
              refine n_ne (tgt := 198) hx hb dL_law_191 (by decide) (by omega) (by omega) (fun c_9 => ?_) (fun c_9 => ?_)
              · refine lv_iload hx hb dL_law_198 (lv_at hl 0 rfl) ?_
                refine lv_bipush (v := nI 13) hx hb dL_law_200 (by decide) ?_
                refine n_ge (tgt := 209) hx hb dL_law_202 (by decide) (by omega) (by omega) (fun c_10 => ?_) (fun c_10 => ?_)
                · refine lv_iload hx hb dL_law_209 (lv_at hl 0 rfl) ?_
                  refine lv_bipush (v := nI 13) hx hb dL_law_211 (by decide) ?_
                  refine n_ne (tgt := 221) hx hb dL_law_213 (by decide) (by omega) (by omega) (fun c_11 => ?_) (fun c_11 => ?_)
                  · refine lv_bipush (v := nI 9) hx hb dL_law_221 (by decide) ?_
                    exact J223 9 (by decide) H locs hP hD hS
                  · refine lv_bipush (v := nI 8) hx hb dL_law_216 (by decide) ?_
                    refine lv_goto (tgt := 223) hx hb dL_law_218 (by decide) ?_
                    exact J223 8 (by decide) H locs hP hD hS
                · refine lv_iconst (v := nI 1) hx hb dL_law_205 (by decide) ?_
                  refine lv_goto (tgt := 223) hx hb dL_law_206 (by decide) ?_
                  exact J223 1 (by decide) H locs hP hD hS
              · refine lv_iconst (v := nI 0) hx hb dL_law_194 (by decide) ?_
                refine lv_goto (tgt := 223) hx hb dL_law_195 (by decide) ?_
                exact J223 0 (by decide) H locs hP hD hS
          · refine lv_aload_n hx hb dL_law_159 rfl (lv_at hl 5 rfl) ?_
            refine lv_iload hx hb dL_law_160 (lv_at hl 0 rfl) ?_
            refine lv_iload hx hb dL_law_162 (lv_at hl 2 rfl) ?_
            refine lv_iload hx hb dL_law_164 (lv_at hl 1 rfl) ?_
            refine lv_aload_n hx hb dL_law_166 rfl (lv_at hl 6 rfl) ?_
            refine lv_aload_n hx hb dL_law_167 rfl (lv_at hl 7 rfl) ?_
            refine lv_aload hx hb dL_law_168 (lv_at hl 8 rfl) ?_
            refine call_i (va_runS (As := [.ref oc, .int (nI act), .int yv, .int xv, .ref ((ab 0)), .ref ((ab 1)), .ref ((ab 2))]) (rest := []) ⟨hx, hb, hml, hown, hts⟩ (qL_writes l dC dI cy e0 mi oc ab ad L S N Y t D a b H.size act yv xv hI hX hst hoc hR (by omega)) (va_cwS 7 hts gL_law_L_writes rfl rfl rfl (by decide +kernel) ⟨Nat.le_of_ble_eq_true rfl, Nat.le_of_ble_eq_true rfl⟩) (preLS hK hP hD hS hA ham) rfl rfl hl.1 rfl (lv_room (Nat.le_of_ble_eq_true rfl)) dL_law_170 ⟨by show _ ≤ 683262; omega, by show _ ≤ 7051911; omega⟩) hD hS hA (fun rr uu H locs hw hP hD hS => ?_)
            obtain ⟨rfl, hIN⟩ := hw
            obtain ⟨⟨ad, L, S, N⟩, Y, t, D, a, b⟩ := uu
            obtain ⟨⟨hI, hX⟩, hoc, hR⟩ := hIN
            have hP : va_P (dC, dI) vwCl (cw cy e0 ad L S N ++ yw ab cy Y t D a b) H := hP
            have hD : va_D A (cw cy e0 ad L S N ++ yw ab cy Y t D a b) := hD
            refine lv_if_eq (tgt := 298) hx hb dL_law_173 (by decide) (fun h9 => absurd h9 (by decide)) (fun _ => ?_)
            refine lv_goto (tgt := 272) hx hb dL_law_176 (by decide) ?_
            refine lv_aload_n hx hb dL_law_272 rfl (lv_at hl 5 rfl) ?_
            refine lv_iload hx hb dL_law_273 (lv_at hl 3 rfl) ?_
            refine lv_iconst (v := nI 5) hx hb dL_law_275 (by decide) ?_
            refine lv_ishr hx hb dL_law_276 ?_
            refine lv_iload hx hb dL_law_277 (lv_at hl 2 rfl) ?_
            refine lv_ixor hx hb dL_law_279 ?_
            refine lv_aload_n hx hb dL_law_280 rfl (lv_at hl 6 rfl) ?_
            refine lv_aload_n hx hb dL_law_281 rfl (lv_at hl 7 rfl) ?_
            refine lv_aload hx hb dL_law_282 (lv_at hl 9 rfl) ?_
            refine lv_aload hx hb dL_law_284 (lv_at hl 10 rfl) ?_
            refine lv_aload hx hb dL_law_286 (lv_at hl 11 rfl) ?_
            refine lv_aload hx hb dL_law_288 (lv_at hl 12 rfl) ?_
            refine lv_aload hx hb dL_law_290 (lv_at hl 13 rfl) ?_
            refine call_i (va_runS (As := [.ref oc, .int ((wv >>> ((nI 5) &&& 31)) ^^^ yv), .ref ((ab 0)), .ref ((ab 1)), .ref ((ab 3)), .ref ((ab 4)), .ref ((ab 5)), .ref ((ab 6)), .ref ((ab 7))]) (rest := []) ⟨hx, hb, hml, hown, hts⟩ (qL_isTold l dC dI cy e0 mi oc ab ad L S N Y t D a b H.size ((wv >>> ((nI 5) &&& 31)) ^^^ yv) hI hX hst hoc hR) (va_cwS 9 hts gL_law_L_isTold rfl rfl rfl (by decide +kernel) ⟨Nat.le_of_ble_eq_true rfl, Nat.le_of_ble_eq_true rfl⟩) (preLS hK hP hD hS hA ham) rfl rfl hl.1 rfl (lv_room (Nat.le_of_ble_eq_true rfl)) dL_law_292 ⟨by show _ ≤ 683262; omega, by show _ ≤ 7051911; omega⟩) hD hS hA (fun rr uu H locs hw hP hD hS => ?_)
            obtain ⟨rfl, hIN⟩ := hw
            obtain ⟨⟨ad, L, S, N⟩, Y, t, D, a, b⟩ := uu
            obtain ⟨⟨hI, hX⟩, hoc, hR⟩ := hIN
            have hP : va_P (dC, dI) vwCl (cw cy e0 ad L S N ++ yw ab cy Y t D a b) H := hP
            have hD : va_D A (cw cy e0 ad L S N ++ yw ab cy Y t D a b) := hD
            refine lv_if_ne (tgt := 300) hx hb dL_law_295 (by decide) (fun _ => ?_) (fun h9 => absurd h9 (by decide))
            refine lv_iinc (v := nI (k + 1)) (lv' := [(10, .int (nI (k + 1))), (14, .int (nI act)), (13, .int xv), (12, .int yv), (11, .int wv), (0, .ref sb), (1, .ref oc), (2, .ref ((ab 0))), (3, .ref ((ab 1))), (4, .ref ((ab 2))), (5, .ref ((ab 3))), (6, .ref ((ab 4))), (7, .ref ((ab 5))), (8, .ref ((ab 6))), (9, .ref ((ab 7)))]) hx hb dL_law_300 hl (k := 14) rfl (by rw [show Int32.ofInt 1 = 1 from rfl]; exact nI_1 _) (by decide) rfl (fun ls hl => ?_)
            refine lv_goto (tgt := 78) hx hb dL_law_303 (by decide) ?_
            exact W.widen (k := 600 + 700 * (k + 1)) (n := 4000 + 23000 * (k + 1)) (by omega) (by omega) (ih_l (140 - (k + 1)) (by omega) (k + 1) ad L S N Y t D a b rfl (by omega) hI hX hoc hR H locs ls hP hD hS (by exact lv_sub hl [5, 6, 7, 8, 9, 10, 11, 12, 13, 14, 0] rfl))
        refine n_ge (tgt := 131) hx hb dL_law_124 (by decide) (by omega) (by omega) (fun c_14 => ?_) (fun c_14 => ?_)
        · refine lv_iload hx hb dL_law_131 (lv_at hl 13 rfl) ?_
          refine lv_bipush (v := nI 7) hx hb dL_law_133 (by decide) ?_
          refine n_ge (tgt := 143) hx hb dL_law_135 (by decide) (by omega) (by omega) (fun c_15 => ?_) (fun c_15 => ?_)
          · refine lv_iload hx hb dL_law_143 (lv_at hl 2 rfl) ?_
            refine lv_bipush (v := nI 28) hx hb dL_law_145 (by decide) ?_
            refine call_i (va_runS (As := [.int wv, .int (nI 28)]) (rest := []) ⟨hx, hb, hml, hown, hts⟩ (qL_low l dC dI cy (cw cy e0 ad L S N ++ yw ab cy Y t D a b) H.size wv 28 (by omega) (by omega)) (va_cwS 2 hts gL_law_L_low rfl rfl rfl (by decide +kernel) ⟨Nat.le_of_ble_eq_true rfl, Nat.le_of_ble_eq_true rfl⟩) (preS hK hP hD) rfl rfl hl.1 rfl (lv_room (Nat.le_of_ble_eq_true rfl)) dL_law_147 ⟨by show _ ≤ 683262; omega, by show _ ≤ 7051911; omega⟩) hD hS hA (fun rr uu H locs hw hP hD hS => ?_)
            obtain ⟨act, hact, rfl⟩ := hw
            have hP : va_P (dC, dI) vwCl (cw cy e0 ad L S N ++ yw ab cy Y t D a b) H := hP
            have hD : va_D A (cw cy e0 ad L S N ++ yw ab cy Y t D a b) := hD
            exact J150 act (by omega) H locs hP hD hS
          · refine lv_bipush (v := nI 6) hx hb dL_law_138 (by decide) ?_
            refine lv_goto (tgt := 150) hx hb dL_law_140 (by decide) ?_
            exact J150 6 (by omega) H locs hP hD hS
        · refine lv_iconst (v := nI 0) hx hb dL_law_127 (by decide) ?_
          refine lv_goto (tgt := 150) hx hb dL_law_128 (by decide) ?_
          exact J150 0 (by omega) H locs hP hD hS
  exact W.widen (k := 600 + 700 * 0) (n := 4000 + 23000 * 0) (by omega) (by omega) (hl_l 140 0 ad L S N Y t D a b rfl (Nat.zero_le _) hI hX hoc hR H locs ls hP hD hS (lv_sub hl [1, 2, 3, 4, 5, 6, 7, 8, 9, 10, 0] rfl))

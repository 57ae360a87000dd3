set_option maxHeartbeats 4000000 in
set_option maxRecDepth 100000 in
/-- from the loop's head to the end -/
theorem law_loop {p : Program} {l : Launch} {e : Env} {s : State} {m : MethodId} {below : List Frame} {meth : Method} {c : Code} {b Ls : Nat} {xs : Nat → Int32} {dC : Nat → ClassId} {dI : Nat → Nat → Nat} {cy : Nat → ClassId} {e0 mi oa : Nat} {ad2 : Nat → Nat}
    (hF : LF p l s m c b Ls xs dC dI cy e0 mi) (hLs : Ls ≤ 3072) (hr : meth.sig.returnType = ret) (hlocks : meth.locks = false) :
    ∀ (k t : Nat), 512 - t = k → t ≤ 512 → ∀ (H : Heap) (u : LU) (v : MS) (ls : Array Slot), LI dC dI cy e0 oa ad2 s H u v → lv_has ls 7 (lvL b oa t u.1.1 ad2) →
      W p l e room_1 s m (#[Value.ref b] : Array Value) below meth c H [] (40 + 100 * t) (2000 + 5000 * t) (lw_Z below #[Value.ref b] s) (F0 m 23 ls []) := by
  intro k
  induction k using Nat.strongRecOn with
  | _ k ih =>
  intro t hk ht H u v ls hI hl
  obtain ⟨hx, hb, hml, hown, hts, hXs, hbl, hK, ham, hst⟩ := id hF
  have hS : va_S (freshA s) s.heap H [] := hI.2.2.1
  have hbA : ¬ freshA s b := fun h => Nat.lt_irrefl _ (Nat.lt_of_lt_of_le hbl h)
  refine lv_iload hx hb dL_law_23 (lv_at hl 0 rfl) ?_
  refine lv_aload_n hx hb dL_law_25 rfl (lv_at hl 4 rfl) ?_
  refine va_slen hx hb hXs hbl hbA hS dL_law_26 ?_
  refine to_i (y := nI Ls) rfl ?_
  refine lv_bipush (v := nI 6) hx hb dL_law_27 (by decide) ?_
  refine lv_isub hx hb dL_law_29 ?_
  refine lv_icmp_gt (tgt := 1309) hx hb dL_law_30 (by decide) (fun _ => ?_) (fun h1 => ?_)
  · refine lv_iconst (v := nI 1) hx hb dL_law_1309 (by decide) ?_
    exact W.widen (k := 601024) (n := 7293034) (by omega) (by omega) (lw_ret hx hb hr hlocks dL_law_1310)
  · have hin : 6 * t + 6 ≤ Ls := loop_in hLs (by omega) h1
    refine lv_aload_n hx hb dL_law_33 rfl (lv_at hl 4 rfl) ?_
    refine lv_iload hx hb dL_law_34 (lv_at hl 0 rfl) ?_
    refine va_sld hx hb hXs hbl hbA hS (vp_in_nI (show 6 * t < Ls by omega) (by omega)) dL_law_36 ?_
    refine lv_bipush (v := nI 31) hx hb dL_law_37 (by decide) ?_
    refine lv_iand hx hb dL_law_39 ?_
    have K : ∀ (H : Heap) (u : LU) (v : MS) (ls : Array Slot), LI dC dI cy e0 oa ad2 s H u v → lv_has ls 7 (lvL b oa t u.1.1 ad2) → W p l e room_1 s m (#[Value.ref b] : Array Value) below meth c H [] (40 + 100 * t + 100) (2000 + 5000 * t + 5000) (lw_Z below #[Value.ref b] s) (F0 m 1303 ls []) := by
      intro H u v ls hI hl
      refine lv_iinc (v := nI (6 * (t + 1))) (lv' := lvL b oa (t + 1) u.1.1 ad2) hx hb dL_law_1303 hl (k := 0) rfl (by rw [show Int32.ofInt 6 = nI 6 from by decide, nI_add]; exact congrArg nI (by omega)) (by decide) rfl (fun ls hl => ?_)
      refine lv_goto (tgt := 23) hx hb dL_law_1306 (by decide) ?_
      have z := ih (512 - (t + 1)) (by omega) (t + 1) rfl (by omega) H u v ls hI hl
      rw [show 40 + 100 * (t + 1) = 40 + 100 * t + 100 by omega, show 2000 + 5000 * (t + 1) = 2000 + 5000 * t + 5000 by omega] at z
      exact z
    obtain ⟨j, hj, ej⟩ := and31 (xs (nI (6 * t)).toNatClampNeg)
    obtain ⟨⟨ad, L, S, N⟩, f0⟩ := u
    obtain ⟨F, C, R, T⟩ := v
    by_cases h19 : j < 19
    · revert h19 ej
      intro ej h19
      match j, h19, ej with
      | 0, _, ej =>
        rw [ej]
        exact lv_tableIn (off := 92) (tgt := 132) hx hb dL_law_40 (by decide) (by decide) rfl (by decide) (s_issue hF hLs hin (by omega) (by omega) hI hl K)
      | 1, _, ej =>
        rw [ej]
        exact lv_tableIn (off := 196) (tgt := 236) hx hb dL_law_40 (by decide) (by decide) rfl (by decide) (s_relate hF hLs hin (by omega) (by omega) hI hl K)
      | 2, _, ej =>
        rw [ej]
        exact lv_tableIn (off := 256) (tgt := 296) hx hb dL_law_40 (by decide) (by decide) rfl (by decide) (s_latest hF hLs hin (by omega) (by omega) hI hl K)
      | 3, _, ej =>
        rw [ej]
        exact lv_tableIn (off := 312) (tgt := 352) hx hb dL_law_40 (by decide) (by decide) rfl (by decide) (s_begin hF hLs hin (by omega) (by omega) hI hl K)
      | 4, _, ej =>
        rw [ej]
        exact lv_tableIn (off := 356) (tgt := 396) hx hb dL_law_40 (by decide) (by decide) rfl (by decide) (s_mark hF hLs hin (by omega) (by omega) hI hl K)
      | 5, _, ej =>
        rw [ej]
        exact lv_tableIn (off := 448) (tgt := 488) hx hb dL_law_40 (by decide) (by decide) rfl (by decide) (s_renew hF hLs hin (by omega) (by omega) hI hl K)
      | 6, _, ej =>
        rw [ej]
        exact lv_tableIn (off := 528) (tgt := 568) hx hb dL_law_40 (by decide) (by decide) rfl (by decide) (s_version hF hLs hin (by omega) (by omega) hI hl K)
      | 7, _, ej =>
        rw [ej]
        exact lv_tableIn (off := 596) (tgt := 636) hx hb dL_law_40 (by decide) (by decide) rfl (by decide) (s_offered hF hLs hin (by omega) (by omega) hI hl K)
      | 8, _, ej =>
        rw [ej]
        exact lv_tableIn (off := 652) (tgt := 692) hx hb dL_law_40 (by decide) (by decide) rfl (by decide) (s_whyNot hF hLs hin (by omega) (by omega) hI hl K)
      | 9, _, ej =>
        rw [ej]
        exact lv_tableIn (off := 708) (tgt := 748) hx hb dL_law_40 (by decide) (by decide) rfl (by decide) (s_sign hF hLs hin (by omega) (by omega) hI hl K)
      | 10, _, ej =>
        rw [ej]
        exact lv_tableIn (off := 776) (tgt := 816) hx hb dL_law_40 (by decide) (by decide) rfl (by decide) (s_pass hF hLs hin (by omega) (by omega) hI hl K)
      | 11, _, ej =>
        rw [ej]
        exact lv_tableIn (off := 832) (tgt := 872) hx hb dL_law_40 (by decide) (by decide) rfl (by decide) (s_duties hF hLs hin (by omega) (by omega) hI hl K)
      | 12, _, ej =>
        rw [ej]
        exact lv_tableIn (off := 845) (tgt := 885) hx hb dL_law_40 (by decide) (by decide) rfl (by decide) (s_state hF hLs hin (by omega) (by omega) hI hl K)
      | 13, _, ej =>
        rw [ej]
        exact lv_tableIn (off := 901) (tgt := 941) hx hb dL_law_40 (by decide) (by decide) rfl (by decide) (s_day hF hLs hin (by omega) (by omega) hI hl K)
      | 14, _, ej =>
        rw [ej]
        exact lv_tableIn (off := 957) (tgt := 997) hx hb dL_law_40 (by decide) (by decide) rfl (by decide) (s_isSuspended hF hLs hin (by omega) (by omega) hI hl K)
      | 15, _, ej =>
        rw [ej]
        exact lv_tableIn (off := 1020) (tgt := 1060) hx hb dL_law_40 (by decide) (by decide) rfl (by decide) (s_perform hF hLs hin (by omega) (by omega) hI hl K)
      | 16, _, ej =>
        rw [ej]
        exact lv_tableIn (off := 1083) (tgt := 1123) hx hb dL_law_40 (by decide) (by decide) rfl (by decide) (s_notice hF hLs hin (by omega) (by omega) hI hl K)
      | 17, _, ej =>
        rw [ej]
        exact lv_tableIn (off := 1139) (tgt := 1179) hx hb dL_law_40 (by decide) (by decide) rfl (by decide) (s_settle hF hLs hin (by omega) (by omega) hI hl K)
      | 18, _, ej =>
        rw [ej]
        exact lv_tableIn (off := 1195) (tgt := 1235) hx hb dL_law_40 (by decide) (by decide) rfl (by decide) (s_owes hF hLs hin (by omega) (by omega) hI hl K)
      | j + 19, h, _ => exact absurd h (by omega)
    · rw [ej]
      refine lv_tableOut (tgt := 1303) hx hb dL_law_40 (Or.inr (by rw [nI_toInt (by omega)]; omega)) (by decide) ?_
      exact W.widen (k := 40 + 100 * t + 100) (n := 2000 + 5000 * t + 5000) (by omega) (by omega) (K _ _ _ _ hI hl)

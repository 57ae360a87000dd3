/-! days pass in the law's rows -/
def tn (P : Prop) [Decidable P] : Int32 := if P then nI 1 else nI 0
theorem tn_congr {P Q : Prop} [Decidable P] [Decidable Q] (h : P ↔ Q) : tn P = tn Q := by
  unfold tn
  by_cases p : P
  · rw [if_pos p, if_pos (h.mp p)]
  · rw [if_neg p, if_neg (fun q => p (h.mpr q))]
theorem tn_t {P : Prop} [Decidable P] (h : P) : tn P = nI 1 := if_pos h
theorem tn_f {P : Prop} [Decidable P] (h : ¬ P) : tn P = nI 0 := if_neg h
theorem add_n0 (x : Int32) : x + nI 0 = x := by rw [nI_00, Int32.add_zero]
/-- the class's state with other days of its duties -/
def S9 (S : SS) (t2 : Nat → Int32) : SS := fun k i p => if k = 9 ∧ p = 1 then t2 i else S k i p
theorem S9_row (S : SS) (t2 : Nat → Int32) {k : Nat} (h : ¬ k = 9) : S9 S t2 k = S k := by
  funext i p
  exact if_neg (fun q => h q.1)
theorem S9_0 (S : SS) (t2 : Nat → Int32) (j : Nat) : S9 S t2 9 j 0 = S 9 j 0 := if_neg (fun q => absurd q.2 (by decide))
theorem S9_1 (S : SS) (t2 : Nat → Int32) (j : Nat) : S9 S t2 9 j 1 = t2 j := if_pos ⟨rfl, rfl⟩
theorem br_s9 (S : SS) (t2 : Nat → Int32) (N : NN) (i o : Nat) : br (S9 S t2) N i o = br S N i o := by
  unfold br
  rw [cntB_congr3 (S := S) i o _ (fun j _ => S9_0 S t2 j)]
theorem rz_s9 {S : SS} {N : NN} {Y : Nat → Nat → Nat} {t : Nat → Int32} {D : Int32} {a b : Nat} (h : RZ S N Y t D a b) (t2 : Nat → Int32) : RZ (S9 S t2) N Y t2 D a b := by
  obtain ⟨hv, h6, hI, hs, hd, hB, ⟨f1, f2, f3, f4⟩, hY⟩ := h
  refine ⟨fun d hd' => ?_, h6, fun i hi => ?_, fun i hi => ?_, fun j hj => ?_, fun i hi b hb => ?_, ⟨?_, f2, f3, ?_⟩, hY⟩
  · unfold isV pV
    rw [S9_row S t2 (by decide : ¬ (1 : Nat) = 9), S9_row S t2 (by decide : ¬ (2 : Nat) = 9), S9_row S t2 (by decide : ¬ (3 : Nat) = 9)]
    exact hv d hd'
  · rw [S9_row S t2 (by decide : ¬ (4 : Nat) = 9), S9_row S t2 (by decide : ¬ (5 : Nat) = 9)]
    exact hI i hi
  · rw [S9_row S t2 (by decide : ¬ (6 : Nat) = 9)]
    exact hs i hi
  · obtain ⟨d1, d2, d3, d4, d5, d6⟩ := hd j hj
    unfold isV pD
    rw [S9_row S t2 (by decide : ¬ (3 : Nat) = 9), S9_0, S9_1]
    exact ⟨d1, d2, d3, rfl, d5, d6⟩
  · obtain ⟨b1, b2⟩ := hB i hi b hb
    rw [cntB_congr3 (S := S) i b _ (fun k _ => S9_0 S t2 k), penB_congr3 (S := S) i b (S9_row S t2 (by decide)) _ (fun k _ => S9_0 S t2 k), S9_row S t2 (by decide : ¬ (7 : Nat) = 9), S9_row S t2 (by decide : ¬ (8 : Nat) = 9)]
    exact ⟨b1, b2⟩
  · rw [S9_row S t2 (by decide : ¬ (0 : Nat) = 9)]
    exact f1
  · rw [sgN_congr (S := S) (fun i => by rw [S9_row S t2 (by decide : ¬ (6 : Nat) = 9)])]
    exact f4
section TS
variable {S : SS} {N : NN} {t1 t2 t3 : Nat → Int32} {n ci x : Nat}
theorem ts_0 (S : SS) (N : NN) (t1 : Nat → Int32) (n : Nat) : ∀ j, j < n → t1 j = t1 j + tn (N 3 j 0 < 0 ∧ isHeld S N j) := fun j _ => by
  rw [tn_f (fun q => absurd q.1 (Nat.not_lt_zero _)), add_n0]
theorem ts_start (h : ∀ j, j < n → t2 j = t1 j + tn (N 3 j 0 < ci ∧ isHeld S N j)) : ∀ j, j < n → t2 j = t1 j + tn ((N 3 j 0 < ci ∨ (N 3 j 0 = ci ∧ j < 0)) ∧ isHeld S N j) := fun j hj => by
  rw [h j hj]
  exact congrArg (t1 j + ·) (tn_congr (and_congr (by omega) Iff.rfl))
theorem ts_out (h : ∀ j, j < n → t3 j = t1 j + tn ((N 3 j 0 < ci ∨ (N 3 j 0 = ci ∧ j < x)) ∧ isHeld S N j)) (hne : ¬ N 3 x 0 = ci) : ∀ j, j < n → t3 j = t1 j + tn ((N 3 j 0 < ci ∨ (N 3 j 0 = ci ∧ j < x + 1)) ∧ isHeld S N j) := fun j hj => by
  rw [h j hj]
  refine congrArg (t1 j + ·) (tn_congr (and_congr ?_ Iff.rfl))
  by_cases e : j = x
  · subst e; omega
  · omega
theorem ts_in (h : ∀ j, j < n → t3 j = t1 j + tn ((N 3 j 0 < ci ∨ (N 3 j 0 = ci ∧ j < x)) ∧ isHeld S N j)) (he : N 3 x 0 = ci) {v : Int32} (hv : v = t3 x + tn (isHeld S N x)) : ∀ j, j < n → upd t3 x v j = t1 j + tn ((N 3 j 0 < ci ∨ (N 3 j 0 = ci ∧ j < x + 1)) ∧ isHeld S N j) := fun j hj => by
  by_cases e : j = x
  · subst e
    rw [upd_self, hv, h j hj, tn_f (P := (N 3 j 0 < ci ∨ (N 3 j 0 = ci ∧ j < j)) ∧ isHeld S N j) (fun q => by have := q.1; omega), add_n0]
    exact congrArg (t1 j + ·) (tn_congr ⟨fun q => ⟨by omega, q⟩, fun q => q.2⟩)
  · rw [upd_ne e, h j hj]
    exact congrArg (t1 j + ·) (tn_congr (and_congr (by omega) Iff.rfl))
theorem ts_end (h : ∀ j, j < n → t3 j = t1 j + tn ((N 3 j 0 < ci ∨ (N 3 j 0 = ci ∧ j < n)) ∧ isHeld S N j)) : ∀ j, j < n → t3 j = t1 j + tn (N 3 j 0 < ci + 1 ∧ isHeld S N j) := fun j hj => by
  rw [h j hj]
  exact congrArg (t1 j + ·) (tn_congr (and_congr (by omega) Iff.rfl))
theorem ts_all (h : ∀ j, j < n → t2 j = t1 j + tn (N 3 j 0 < 10 ∧ isHeld S N j)) (hc : ∀ j, j < n → N 3 j 0 < 10) : ∀ j, j < n → t2 j = t1 j + (if isHeld S N j then nI 1 else nI 0) := fun j hj => by
  rw [h j hj]
  exact congrArg (t1 j + ·) (tn_congr ⟨fun q => q.2, fun q => ⟨hc j hj, q⟩⟩)
end TS
theorem rz_c10 {S : SS} {N : NN} {Y : Nat → Nat → Nat} {t : Nat → Int32} {D : Int32} {a b : Nat} (h : RZ S N Y t D a b) (hN : okS N) : ∀ j, j < N 5 0 0 → N 3 j 0 < 10 := fun j hj => by
  have h3 := (h.2.2.2.2.1 j hj).2.2.2.2.1
  have h10 := hN.2.2.2.1
  omega

set_option maxHeartbeats 8000000 in
set_option maxRecDepth 100000 in
/-- days pass -/
theorem qL_passes (l : Launch) (dC : Nat → ClassId) (dI : Nat → Nat → Nat) (cy : Nat → ClassId) (X : va_W) (ab : Nat → Nat) (S : SS) (N : NN) (Y : Nat → Nat → Nat) (t : Nat → Int32) (D : Int32) (a b : Nat) (sz : Nat) (dd : Nat) (hR : RZ S N Y t D a b) (hN : okS N) (hdd : dd ≤ 100) : Met l yL_passes wsL_passes ({ frames := 1, cells := 0, slots := 0, locals := 24 }) (va_Pc [.int (nI dd), .ref ((ab 5)), .ref ((ab 6)), .ref ((ab 7))] (wPre (dC, dI) (tyL cy) (X ++ yw ab cy Y t D a b) sz)) (QI (dC, dI) (tyL cy) (fun (r : Int32) (v : YS) => r = nI (K_passN S N dd) ∧ RZ (K_passS S N dd) N v.1 v.2.1 v.2.2.1 v.2.2.2.1 v.2.2.2.2) (fun v => X ++ ywU ab cy v) (va_A (X ++ yw ab cy Y t D a b) sz)) 0 0 (va_A (X ++ yw ab cy Y t D a b) sz) := by
  refine en (cc := cL_passes) (maxL := 11) (ret := (some .int)) (own := RL) (lv := [(0, .int (nI dd)), (1, .ref ((ab 5))), (2, .ref ((ab 6))), (3, .ref ((ab 7)))]) (by decide) rfl rfl (Nat.le_of_ble_eq_true rfl) rfl ?_
  intro p e s m below meth c ls A H locs hx hb hr hts hown hlocks hml hin hsz hK hP hD hS hA hl
  generalize hQQ : MQ below _ _ s _ _ A = QQ
  have hYb : zY Y := hR.2.2.2.2.2.2.2
  obtain ⟨hD0, hb1, hb5, -⟩ := hR.2.2.2.2.2.2.1
  have hb60 := rz_60 hR hN
  have h10 := hN.2.2.2.1
  refine lv_iconst (v := nI 0) hx hb dL_passes_0 (by decide) ?_
  refine lv_istore (lv' := [(4, .int (nI 0)), (0, .int (nI dd)), (1, .ref ((ab 5))), (2, .ref ((ab 6))), (3, .ref ((ab 7)))]) hx hb dL_passes_1 hl (by decide) rfl (fun ls hl => ?_)
  refine lv_iconst (v := nI 0) hx hb dL_passes_3 (by decide) ?_
  refine lv_istore (lv' := [(5, .int (nI 0)), (4, .int (nI 0)), (0, .int (nI dd)), (1, .ref ((ab 5))), (2, .ref ((ab 6))), (3, .ref ((ab 7)))]) hx hb dL_passes_4 hl (by decide) rfl (fun ls hl => ?_)
  have hl_o : ∀ (k9 k : Nat) (Y1 : Nat → Nat → Nat) (t1 : Nat → Int32) (D1 : Int32), dd - k = k9 → k ≤ dd → RZ (K_passS S N k) N Y1 t1 D1 a b → ∀ (H : Heap) (locs : List Loc) (ls : Array Slot), va_P (dC, dI) vwCl (X ++ yw ab cy Y1 t1 D1 a b) H → va_D A (X ++ yw ab cy Y1 t1 D1 a b) → va_S A s.heap H locs → lv_has ls 11 [(0, .int (nI dd)), (1, .ref ((ab 5))), (2, .ref ((ab 6))), (3, .ref ((ab 7))), (4, .int (nI (K_passN S N k))), (5, .int (nI k))] → W p l e ({ frames := 1, cells := 0, slots := 0, locals := 24 }) s m (([.int (nI dd), .ref ((ab 5)), .ref ((ab 6)), .ref ((ab 7))] : List Value).toArray) below meth c H locs 0 0 QQ (F0 m 6 ls []) := by
    intro k9
    induction k9 using Nat.strongRecOn with
    | _ k9 ih_o =>
      intro k Y1 t1 D1 hk9 hle9 hR1 H locs ls hP hD hS hl
      refine lv_iload hx hb dL_passes_6 (lv_at hl 5 rfl) ?_
      refine lv_iload_n hx hb dL_passes_8 rfl (lv_at hl 0 rfl) ?_
      refine n_ge (tgt := 209) hx hb dL_passes_9 (by decide) (by omega) (by omega) (fun c_1 => ?_) (fun c_1 => ?_)
      · obtain rfl : dd = k := by omega
        refine lv_iload hx hb dL_passes_209 (lv_at hl 4 rfl) ?_
        rw [← hQQ]; exact end_i (u := (Y1, t1, D1, a, b)) hx hb hr hlocks dL_passes_211 hK hP hD hS ⟨rfl, hR1⟩ (Nat.le_of_ble_eq_true rfl) (Nat.le_of_ble_eq_true rfl)
      · have hYb1 : zY Y1 := hR1.2.2.2.2.2.2.2
        have hR2 := rz_tick hR1
        have hR4z := fun (t2 : Nat → Int32) ht => rz_puts (t' := t2) hR2 ht
        generalize hSK : K_tick (K_passS S N k) = SK at hR2 hR4z
        refine lv_aload_n hx hb dL_passes_12 rfl (lv_at hl 3 rfl) ?_
        refine lv_iconst (v := nI 0) hx hb dL_passes_13 (by decide) ?_
        refine lv_dup2_11 hx hb dL_passes_14 rfl rfl ?_
        refine x_iald (f := gf D1 a b) hx hb hK hP (_ + 7) 0 (app_r rfl) rfl (t := 0) (by decide) (by decide) dL_passes_15 ?_
        refine to_i (y := D1) rfl ?_
        refine lv_iconst (v := nI 1) hx hb dL_passes_16 (by decide) ?_
        refine lv_iadd hx hb dL_passes_17 ?_
        refine x_iast (f := gf D1 a b) hx hb hK hP hD hS (_ + 7) 0 (app_r rfl) rfl (t := 0) (x := (D1 + (nI 1))) (by decide) (by decide) dL_passes_18 (fun H locs hP hD hS => ?_)
        rw [app_setr, gf_0] at hP hD
        have hP : va_P (dC, dI) vwCl (X ++ yw ab cy Y1 t1 (D1 + (nI 1)) a b) H := hP
        have hD : va_D A (X ++ yw ab cy Y1 t1 (D1 + (nI 1)) a b) := hD
        refine lv_iconst (v := nI 0) hx hb dL_passes_19 (by decide) ?_
        refine lv_istore (lv' := [(6, .int (nI 0)), (0, .int (nI dd)), (1, .ref ((ab 5))), (2, .ref ((ab 6))), (3, .ref ((ab 7))), (4, .int (nI (K_passN S N k))), (5, .int (nI k))]) hx hb dL_passes_20 hl (by decide) rfl (fun ls hl => ?_)
        have hl_c : ∀ (k9 ci : Nat) (t2 : Nat → Int32), 10 - ci = k9 → ci ≤ 10 → (∀ j, j < N 5 0 0 → t2 j = t1 j + tn (N 3 j 0 < ci ∧ isHeld SK N j)) → ∀ (H : Heap) (locs : List Loc) (ls : Array Slot), va_P (dC, dI) vwCl (X ++ yw ab cy Y1 t2 (D1 + nI 1) a b) H → va_D A (X ++ yw ab cy Y1 t2 (D1 + nI 1) a b) → va_S A s.heap H locs → lv_has ls 11 [(0, .int (nI dd)), (1, .ref ((ab 5))), (2, .ref ((ab 6))), (3, .ref ((ab 7))), (4, .int (nI (K_passN S N k))), (5, .int (nI k)), (6, .int (nI ci))] → W p l e ({ frames := 1, cells := 0, slots := 0, locals := 24 }) s m (([.int (nI dd), .ref ((ab 5)), .ref ((ab 6)), .ref ((ab 7))] : List Value).toArray) below meth c H locs 0 0 QQ (F0 m 22 ls []) := by
          intro k9
          induction k9 using Nat.strongRecOn with
          | _ k9 ih_c =>
            intro ci t2 hk9 hle9 ht2 H locs ls hP hD hS hl
            refine lv_iload hx hb dL_passes_22 (lv_at hl 6 rfl) ?_
            refine lv_bipush (v := nI 10) hx hb dL_passes_24 (by decide) ?_
            refine n_ge (tgt := 141) hx hb dL_passes_26 (by decide) (by omega) (by omega) (fun c_2 => ?_) (fun c_2 => ?_)
            · obtain rfl : 10 = ci := by omega
              have hR4 := hR4z t2 (ts_all ht2 (rz_c10 hR2 hN))
              rw [← hSK] at hR4
              have hR4 : RZ (K_dayP (K_passS S N k) N) N Y1 t2 (D1 + nI 1) a b := hR4
              refine lv_iconst (v := nI 0) hx hb dL_passes_141 (by decide) ?_
              refine lv_istore (lv' := [(6, .int (nI 0)), (0, .int (nI dd)), (1, .ref ((ab 5))), (2, .ref ((ab 6))), (3, .ref ((ab 7))), (4, .int (nI (K_passN S N k))), (5, .int (nI k))]) hx hb dL_passes_142 hl (by decide) rfl (fun ls hl => ?_)
              have hl_b : ∀ (k9 x : Nat) (Y5 : Nat → Nat → Nat) (t5 : Nat → Int32), b - x = k9 → x ≤ b → RZ (K_bS (K_dayP (K_passS S N k) N) N x) N Y5 t5 (D1 + nI 1) a b → ∀ (H : Heap) (locs : List Loc) (ls : Array Slot), va_P (dC, dI) vwCl (X ++ yw ab cy Y5 t5 (D1 + nI 1) a b) H → va_D A (X ++ yw ab cy Y5 t5 (D1 + nI 1) a b) → va_S A s.heap H locs → lv_has ls 11 [(0, .int (nI dd)), (1, .ref ((ab 5))), (2, .ref ((ab 6))), (3, .ref ((ab 7))), (4, .int (nI (K_passN S N k + K_bn (K_dayP (K_passS S N k) N) N x))), (5, .int (nI k)), (6, .int (nI x))] → W p l e ({ frames := 1, cells := 0, slots := 0, locals := 24 }) s m (([.int (nI dd), .ref ((ab 5)), .ref ((ab 6)), .ref ((ab 7))] : List Value).toArray) below meth c H locs 0 0 QQ (F0 m 144 ls []) := by
                intro k9
                induction k9 using Nat.strongRecOn with
                | _ k9 ih_b =>
                  intro x Y5 t5 hk9 hle9 hR5 H locs ls hP hD hS hl
                  refine lv_iload hx hb dL_passes_144 (lv_at hl 6 rfl) ?_
                  refine lv_aload_n hx hb dL_passes_146 rfl (lv_at hl 3 rfl) ?_
                  refine lv_iconst (v := nI 2) hx hb dL_passes_147 (by decide) ?_
                  refine x_iald (f := gf (D1 + nI 1) a b) hx hb hK hP (_ + 7) 0 (app_r rfl) rfl (t := 2) (by decide) (by decide) dL_passes_148 ?_
                  refine to_i (y := nI b) rfl ?_
                  refine n_ge (tgt := 203) hx hb dL_passes_149 (by decide) (by omega) (by omega) (fun c_3 => ?_) (fun c_3 => ?_)
                  · obtain rfl : N 5 0 0 = x := by omega
                    refine lv_iinc (v := nI (k + 1)) (lv' := [(5, .int (nI (k + 1))), (0, .int (nI dd)), (1, .ref ((ab 5))), (2, .ref ((ab 6))), (3, .ref ((ab 7))), (4, .int (nI (K_passN S N k + K_bn (K_dayP (K_passS S N k) N) N (N 5 0 0)))), (6, .int (nI ((N 5 0 0))))]) hx hb dL_passes_203 hl (k := 5) rfl (by rw [show Int32.ofInt 1 = 1 from rfl]; exact nI_1 _) (by decide) rfl (fun ls hl => ?_)
                    refine lv_goto (tgt := 6) hx hb dL_passes_206 (by decide) ?_
                    exact ih_o (dd - (k + 1)) (by omega) (k + 1) Y5 t5 (D1 + nI 1) rfl (by omega) hR5 H locs ls hP hD hS (by exact lv_sub hl [1, 2, 3, 4, 5, 0] rfl)
                  · have hYb5 : zY Y5 := hR5.2.2.2.2.2.2.2
                    obtain ⟨st, x2, x3, k1, k2, k3, k4, k5, k6, k7, k8, k9, k10⟩ := rz_d hR5 hN (j := x) (by omega)
                    refine lv_aload_n hx hb dL_passes_152 rfl (lv_at hl 1 rfl) ?_
                    refine lv_iload hx hb dL_passes_153 (lv_at hl 6 rfl) ?_
                    refine x_iald (f := fun j => nI (Y5 5 j)) hx hb hK hP (_ + 5) 0 (app_r rfl) rfl (t := x) (by omega) (by decide) dL_passes_155 ?_
                    refine to_i (y := nI (Y5 5 x)) rfl ?_
                    refine lv_iconst (v := nI 5) hx hb dL_passes_156 (by decide) ?_
                    refine lv_ishr hx hb dL_passes_157 ?_
                    refine to_i (y := nI ((Y5 5 x) / 32)) (pk_shrN (by have := hYb5 5 x; omega) _ 5 (by decide)) ?_
                    refine lv_bipush (v := nI 7) hx hb dL_passes_158 (by decide) ?_
                    refine lv_iand hx hb dL_passes_160 ?_
                    refine to_i (y := nI (((Y5 5 x) / 32) % 8)) (pk_andN (by have := hYb5 5 x; omega) 3 (by decide)) ?_
                    refine to_i (y := nI st) (congrArg nI (by omega)) ?_
                    refine lv_iconst (v := nI 2) hx hb dL_passes_161 (by decide) ?_
                    refine n_ne (tgt := 197) hx hb dL_passes_162 (by decide) (by omega) (by omega) (fun c_4 => ?_) (fun c_4 => ?_)
                    · refine lv_iinc (v := nI (x + 1)) (lv' := [(6, .int (nI (x + 1))), (0, .int (nI dd)), (1, .ref ((ab 5))), (2, .ref ((ab 6))), (3, .ref ((ab 7))), (4, .int (nI (K_passN S N k + K_bn (K_dayP (K_passS S N k) N) N x))), (5, .int (nI k))]) hx hb dL_passes_197 hl (k := 6) rfl (by rw [show Int32.ofInt 1 = 1 from rfl]; exact nI_1 _) (by decide) rfl (fun ls hl => ?_)
                      refine lv_goto (tgt := 144) hx hb dL_passes_200 (by decide) ?_
                      have hno : ¬ isLateN (K_bS (K_dayP (K_passS S N k) N) N x) x := fun q => c_4 ((nI_inj (by omega) (by decide)).mp (k4.symm.trans q.1))
                      have eS : K_bS (K_dayP (K_passS S N k) N) N (x + 1) = K_bS (K_dayP (K_passS S N k) N) N x := if_neg hno
                      have eN : K_bn (K_dayP (K_passS S N k) N) N (x + 1) = K_bn (K_dayP (K_passS S N k) N) N x := if_neg hno
                      exact ih_b (b - (x + 1)) (by omega) (x + 1) Y5 t5 rfl (by omega) (by rw [eS]; exact hR5) H locs ls hP hD hS (by rw [eN]; exact lv_sub hl [1, 2, 3, 4, 5, 6, 0] rfl)
                    · refine lv_aload_n hx hb dL_passes_165 rfl (lv_at hl 2 rfl) ?_
                      refine lv_iload hx hb dL_passes_166 (lv_at hl 6 rfl) ?_
                      refine x_iald (f := t5) hx hb hK hP (_ + 6) 0 (app_r rfl) rfl (t := x) (by omega) (by decide) dL_passes_168 ?_
                      refine lv_aload_n hx hb dL_passes_169 rfl (lv_at hl 3 rfl) ?_
                      refine lv_iconst (v := nI 0) hx hb dL_passes_170 (by decide) ?_
                      refine x_iald (f := gf (D1 + nI 1) a b) hx hb hK hP (_ + 7) 0 (app_r rfl) rfl (t := 0) (by decide) (by decide) dL_passes_171 ?_
                      refine to_i (y := D1 + nI 1) rfl ?_
                      refine lv_icmp_lt (tgt := 178) hx hb dL_passes_172 (by decide) (fun c_5 => ?_) (fun c_5 => ?_)
                      · refine lv_aload_n hx hb dL_passes_178 rfl (lv_at hl 1 rfl) ?_
                        refine lv_iload hx hb dL_passes_179 (lv_at hl 6 rfl) ?_
                        refine lv_dup2_11 hx hb dL_passes_181 rfl rfl ?_
                        refine x_iald (f := fun j => nI (Y5 5 j)) hx hb hK hP (_ + 5) 0 (app_r rfl) rfl (t := x) (by omega) (by decide) dL_passes_182 ?_
                        refine to_i (y := nI (Y5 5 x)) rfl ?_
                        refine lv_bipush (v := nI 32) hx hb dL_passes_183 (by decide) ?_
                        refine lv_iadd hx hb dL_passes_185 ?_
                        refine to_i (y := nI ((Y5 5 x) + 32)) (nI_add _ _) ?_
                        refine x_iast (f := fun j => nI (Y5 5 j)) hx hb hK hP hD hS (_ + 5) 0 (app_r rfl) rfl (t := x) (x := nI ((Y5 5 x) + 32)) (by omega) (by decide) dL_passes_186 (fun H locs hP hD hS => ?_)
                        rw [app_setr, upd_nI] at hP hD
                        have hP : va_P (dC, dI) vwCl (X ++ yw ab cy (va_up Y5 5 (va_up (Y5 5) x ((Y5 5 x) + 32))) t5 (D1 + nI 1) a b) H := hP
                        have hD : va_D A (X ++ yw ab cy (va_up Y5 5 (va_up (Y5 5) x ((Y5 5 x) + 32))) t5 (D1 + nI 1) a b) := hD
                        refine lv_aload_n hx hb dL_passes_187 rfl (lv_at hl 2 rfl) ?_
                        refine lv_iload hx hb dL_passes_188 (lv_at hl 6 rfl) ?_
                        refine lv_aload_n hx hb dL_passes_190 rfl (lv_at hl 3 rfl) ?_
                        refine lv_iconst (v := nI 0) hx hb dL_passes_191 (by decide) ?_
                        refine x_iald (f := gf (D1 + nI 1) a b) hx hb hK hP (_ + 7) 0 (app_r rfl) rfl (t := 0) (by decide) (by decide) dL_passes_192 ?_
                        refine to_i (y := D1 + nI 1) rfl ?_
                        refine x_iast (f := t5) hx hb hK hP hD hS (_ + 6) 0 (app_r rfl) rfl (t := x) (x := (D1 + nI 1)) (by omega) (by decide) dL_passes_193 (fun H locs hP hD hS => ?_)
                        rw [app_setr] at hP hD
                        have hP : va_P (dC, dI) vwCl (X ++ yw ab cy (va_up Y5 5 (va_up (Y5 5) x ((Y5 5 x) + 32))) (upd t5 x (D1 + nI 1)) (D1 + nI 1) a b) H := hP
                        have hD : va_D A (X ++ yw ab cy (va_up Y5 5 (va_up (Y5 5) x ((Y5 5 x) + 32))) (upd t5 x (D1 + nI 1)) (D1 + nI 1) a b) := hD
                        refine lv_iinc (v := nI (K_passN S N k + K_bn (K_dayP (K_passS S N k) N) N x + 1)) (lv' := [(4, .int (nI (K_passN S N k + K_bn (K_dayP (K_passS S N k) N) N x + 1))), (0, .int (nI dd)), (1, .ref ((ab 5))), (2, .ref ((ab 6))), (3, .ref ((ab 7))), (5, .int (nI k)), (6, .int (nI x))]) hx hb dL_passes_194 hl (k := 4) rfl (by rw [show Int32.ofInt 1 = 1 from rfl]; exact nI_1 _) (by decide) rfl (fun ls hl => ?_)
                        refine lv_iinc (v := nI (x + 1)) (lv' := [(6, .int (nI (x + 1))), (4, .int (nI (K_passN S N k + K_bn (K_dayP (K_passS S N k) N) N x + 1))), (0, .int (nI dd)), (1, .ref ((ab 5))), (2, .ref ((ab 6))), (3, .ref ((ab 7))), (5, .int (nI k))]) hx hb dL_passes_197 hl (k := 6) rfl (by rw [show Int32.ofInt 1 = 1 from rfl]; exact nI_1 _) (by decide) rfl (fun ls hl => ?_)
                        refine lv_goto (tgt := 144) hx hb dL_passes_200 (by decide) ?_
                        have hyes : isLateN (K_bS (K_dayP (K_passS S N k) N) N x) x := ⟨k4.trans (congrArg nI c_4), by have q := c_5; rw [k10, hR5.2.2.2.2.2.2.1.1] at q; exact q⟩
                        have eS : K_bS (K_dayP (K_passS S N k) N) N (x + 1) = K_count (K_move (K_bS (K_dayP (K_passS S N k) N) N x) x (nI 3) (K_bS (K_dayP (K_passS S N k) N) N x 0 0 0)) N x (nI 1) := if_pos hyes
                        have eN : K_bn (K_dayP (K_passS S N k) N) N (x + 1) = K_bn (K_dayP (K_passS S N k) N) N x + 1 := if_pos hyes
                        exact ih_b (b - (x + 1)) (by omega) (x + 1) (va_up Y5 5 (va_up (Y5 5) x ((Y5 5 x) + 32))) (upd t5 x (D1 + nI 1)) rfl (by omega) (by rw [eS]; exact rz_br hR5 hN (by omega) hyes.1 rfl) H locs ls hP hD hS (by rw [eN]; exact lv_sub hl [2, 3, 4, 5, 1, 6, 0] rfl)
                      · refine lv_goto (tgt := 197) hx hb dL_passes_175 (by decide) ?_
                        refine lv_iinc (v := nI (x + 1)) (lv' := [(6, .int (nI (x + 1))), (0, .int (nI dd)), (1, .ref ((ab 5))), (2, .ref ((ab 6))), (3, .ref ((ab 7))), (4, .int (nI (K_passN S N k + K_bn (K_dayP (K_passS S N k) N) N x))), (5, .int (nI k))]) hx hb dL_passes_197 hl (k := 6) rfl (by rw [show Int32.ofInt 1 = 1 from rfl]; exact nI_1 _) (by decide) rfl (fun ls hl => ?_)
                        refine lv_goto (tgt := 144) hx hb dL_passes_200 (by decide) ?_
                        have hno : ¬ isLateN (K_bS (K_dayP (K_passS S N k) N) N x) x := fun q => c_5 (by rw [k10, hR5.2.2.2.2.2.2.1.1]; exact q.2)
                        have eS : K_bS (K_dayP (K_passS S N k) N) N (x + 1) = K_bS (K_dayP (K_passS S N k) N) N x := if_neg hno
                        have eN : K_bn (K_dayP (K_passS S N k) N) N (x + 1) = K_bn (K_dayP (K_passS S N k) N) N x := if_neg hno
                        exact ih_b (b - (x + 1)) (by omega) (x + 1) Y5 t5 rfl (by omega) (by rw [eS]; exact hR5) H locs ls hP hD hS (by rw [eN]; exact lv_sub hl [1, 2, 3, 4, 5, 6, 0] rfl)
              exact hl_b b 0 Y1 t2 rfl (Nat.zero_le _) hR4 H locs ls hP hD hS (lv_sub hl [1, 2, 3, 4, 5, 6, 0] rfl)
            · refine lv_aload_n hx hb dL_passes_29 rfl (lv_at hl 1 rfl) ?_
              refine lv_aload_n hx hb dL_passes_30 rfl (lv_at hl 3 rfl) ?_
              refine lv_iload hx hb dL_passes_31 (lv_at hl 6 rfl) ?_
              refine call_i (va_runS (As := [.ref ((ab 5)), .ref ((ab 7)), .int (nI ci)]) (rest := []) ⟨hx, hb, hml, hown, hts⟩ (qL_breached l dC dI cy X ab ((S9 SK t2)) N Y1 t2 (D1 + nI 1) a b H.size ci (rz_s9 hR2 t2) hN (by omega)) (va_cwS 3 hts gL_passes_L_breached rfl rfl rfl (by decide +kernel) ⟨Nat.le_of_ble_eq_true rfl, Nat.le_of_ble_eq_true rfl⟩) (preS hK hP hD) rfl rfl hl.1 rfl (lv_room (Nat.le_of_ble_eq_true rfl)) dL_passes_33 ⟨Nat.le_of_ble_eq_true rfl, Nat.le_of_ble_eq_true rfl⟩) hD hS hA (fun rr uu H locs hw hP hD hS => ?_)
              obtain rfl := hw
              have hP : va_P (dC, dI) vwCl (X ++ yw ab cy Y1 t2 (D1 + nI 1) a b) H := hP
              have hD : va_D A (X ++ yw ab cy Y1 t2 (D1 + nI 1) a b) := hD
              refine to_i (y := nI (br SK N ci 0 + 2 * br SK N ci 1)) (by rw [br_s9, br_s9]) ?_
              refine lv_istore (lv' := [(7, .int (nI (br SK N ci 0 + 2 * br SK N ci 1))), (0, .int (nI dd)), (1, .ref ((ab 5))), (2, .ref ((ab 6))), (3, .ref ((ab 7))), (4, .int (nI (K_passN S N k))), (5, .int (nI k)), (6, .int (nI ci))]) hx hb dL_passes_36 hl (by decide) rfl (fun ls hl => ?_)
              refine lv_iconst (v := nI 0) hx hb dL_passes_38 (by decide) ?_
              refine lv_istore (lv' := [(8, .int (nI 0)), (7, .int (nI (br SK N ci 0 + 2 * br SK N ci 1))), (0, .int (nI dd)), (1, .ref ((ab 5))), (2, .ref ((ab 6))), (3, .ref ((ab 7))), (4, .int (nI (K_passN S N k))), (5, .int (nI k)), (6, .int (nI ci))]) hx hb dL_passes_39 hl (by decide) rfl (fun ls hl => ?_)
              have hl_x : ∀ (k9 x : Nat) (t3 : Nat → Int32), b - x = k9 → x ≤ b → (∀ j, j < N 5 0 0 → t3 j = t1 j + tn ((N 3 j 0 < ci ∨ (N 3 j 0 = ci ∧ j < x)) ∧ isHeld SK N j)) → ∀ (H : Heap) (locs : List Loc) (ls : Array Slot), va_P (dC, dI) vwCl (X ++ yw ab cy Y1 t3 (D1 + nI 1) a b) H → va_D A (X ++ yw ab cy Y1 t3 (D1 + nI 1) a b) → va_S A s.heap H locs → lv_has ls 11 [(0, .int (nI dd)), (1, .ref ((ab 5))), (2, .ref ((ab 6))), (3, .ref ((ab 7))), (4, .int (nI (K_passN S N k))), (5, .int (nI k)), (6, .int (nI ci)), (7, .int (nI (br SK N ci 0 + 2 * br SK N ci 1))), (8, .int (nI x))] → W p l e ({ frames := 1, cells := 0, slots := 0, locals := 24 }) s m (([.int (nI dd), .ref ((ab 5)), .ref ((ab 6)), .ref ((ab 7))] : List Value).toArray) below meth c H locs 0 0 QQ (F0 m 41 ls []) := by
                intro k9
                induction k9 using Nat.strongRecOn with
                | _ k9 ih_x =>
                  intro x t3 hk9 hle9 ht3 H locs ls hP hD hS hl
                  refine lv_iload hx hb dL_passes_41 (lv_at hl 8 rfl) ?_
                  refine lv_aload_n hx hb dL_passes_43 rfl (lv_at hl 3 rfl) ?_
                  refine lv_iconst (v := nI 2) hx hb dL_passes_44 (by decide) ?_
                  refine x_iald (f := gf (D1 + nI 1) a b) hx hb hK hP (_ + 7) 0 (app_r rfl) rfl (t := 2) (by decide) (by decide) dL_passes_45 ?_
                  refine to_i (y := nI b) rfl ?_
                  refine n_ge (tgt := 135) hx hb dL_passes_46 (by decide) (by omega) (by omega) (fun c_6 => ?_) (fun c_6 => ?_)
                  · obtain rfl : b = x := by omega
                    refine lv_iinc (v := nI (ci + 1)) (lv' := [(6, .int (nI (ci + 1))), (0, .int (nI dd)), (1, .ref ((ab 5))), (2, .ref ((ab 6))), (3, .ref ((ab 7))), (4, .int (nI (K_passN S N k))), (5, .int (nI k)), (7, .int (nI (br SK N ci 0 + 2 * br SK N ci 1))), (8, .int (nI b))]) hx hb dL_passes_135 hl (k := 6) rfl (by rw [show Int32.ofInt 1 = 1 from rfl]; exact nI_1 _) (by decide) rfl (fun ls hl => ?_)
                    refine lv_goto (tgt := 22) hx hb dL_passes_138 (by decide) ?_
                    exact ih_c (10 - (ci + 1)) (by omega) (ci + 1) t3 rfl (by omega) (ts_end (by rw [hb5] at ht3; exact ht3)) H locs ls hP hD hS (by exact lv_sub hl [1, 2, 3, 4, 5, 6, 0] rfl)
                  · obtain ⟨st, x2, x3, k1, k2, k3, k4, k5, k6, k7, k8, k9, k10⟩ := rz_d hR2 hN (j := x) (by omega)
                    refine lv_aload_n hx hb dL_passes_49 rfl (lv_at hl 1 rfl) ?_
                    refine lv_iload hx hb dL_passes_50 (lv_at hl 8 rfl) ?_
                    refine x_iald (f := fun j => nI (Y1 5 j)) hx hb hK hP (_ + 5) 0 (app_r rfl) rfl (t := x) (by omega) (by decide) dL_passes_52 ?_
                    refine to_i (y := nI (Y1 5 x)) rfl ?_
                    refine lv_bipush (v := nI 15) hx hb dL_passes_53 (by decide) ?_
                    refine lv_iand hx hb dL_passes_55 ?_
                    refine to_i (y := nI ((Y1 5 x) % 16)) (pk_andN (by have := hYb1 5 x; omega) 4 (by decide)) ?_
                    refine to_i (y := nI (N 3 x 0)) (congrArg nI (by omega)) ?_
                    refine lv_iload hx hb dL_passes_56 (lv_at hl 6 rfl) ?_
                    refine n_eq (tgt := 64) hx hb dL_passes_58 (by decide) (by omega) (by omega) (fun c_7 => ?_) (fun c_7 => ?_)
                    · refine lv_aload_n hx hb dL_passes_64 rfl (lv_at hl 1 rfl) ?_
                      refine lv_iload hx hb dL_passes_65 (lv_at hl 8 rfl) ?_
                      refine x_iald (f := fun j => nI (Y1 5 j)) hx hb hK hP (_ + 5) 0 (app_r rfl) rfl (t := x) (by omega) (by decide) dL_passes_67 ?_
                      refine to_i (y := nI (Y1 5 x)) rfl ?_
                      refine lv_iconst (v := nI 5) hx hb dL_passes_68 (by decide) ?_
                      refine lv_ishr hx hb dL_passes_69 ?_
                      refine to_i (y := nI ((Y1 5 x) / 32)) (pk_shrN (by have := hYb1 5 x; omega) _ 5 (by decide)) ?_
                      refine lv_bipush (v := nI 7) hx hb dL_passes_70 (by decide) ?_
                      refine lv_iand hx hb dL_passes_72 ?_
                      refine to_i (y := nI (((Y1 5 x) / 32) % 8)) (pk_andN (by have := hYb1 5 x; omega) 3 (by decide)) ?_
                      refine to_i (y := nI st) (congrArg nI (by omega)) ?_
                      refine lv_istore (lv' := [(9, .int (nI st)), (0, .int (nI dd)), (1, .ref ((ab 5))), (2, .ref ((ab 6))), (3, .ref ((ab 7))), (4, .int (nI (K_passN S N k))), (5, .int (nI k)), (6, .int (nI ci)), (7, .int (nI (br SK N ci 0 + 2 * br SK N ci 1))), (8, .int (nI x))]) hx hb dL_passes_73 hl (by decide) rfl (fun ls hl => ?_)
                      refine lv_iload hx hb dL_passes_75 (lv_at hl 0 rfl) ?_
                      refine n_if_eq (tgt := 86) hx hb dL_passes_77 (by decide) (by omega) (fun c_8 => ?_) (fun c_8 => ?_)
                      · refine lv_iconst (v := nI 1) hx hb dL_passes_86 (by decide) ?_
                        refine lv_goto (tgt := 91) hx hb dL_passes_87 (by decide) ?_
                        refine lv_istore (lv' := [(10, .int (nI 1)), (9, .int (nI st)), (0, .int (nI dd)), (1, .ref ((ab 5))), (2, .ref ((ab 6))), (3, .ref ((ab 7))), (4, .int (nI (K_passN S N k))), (5, .int (nI k)), (6, .int (nI ci)), (7, .int (nI (br SK N ci 0 + 2 * br SK N ci 1))), (8, .int (nI x))]) hx hb dL_passes_91 hl (by decide) rfl (fun ls hl => ?_)
                        refine lv_aload_n hx hb dL_passes_93 rfl (lv_at hl 4 rfl) ?_
                        refine lv_iload hx hb dL_passes_94 (lv_at hl 10 rfl) ?_
                        refine lv_dup2_11 hx hb dL_passes_96 rfl rfl ?_
                        refine x_iald (f := t3) hx hb hK hP (_ + 6) 0 (app_r rfl) rfl (t := x) (by omega) (by decide) dL_passes_97 ?_
                        refine lv_iload hx hb dL_passes_98 (lv_at hl 0 rfl) ?_
                        refine lv_if_eq (tgt := 126) hx hb dL_passes_100 (by decide) (fun h9 => absurd h9 (by decide)) (fun _ => ?_)
                        refine lv_iload hx hb dL_passes_103 (lv_at hl 9 rfl) ?_
                        refine lv_iconst (v := nI 1) hx hb dL_passes_105 (by decide) ?_
                        refine lv_aload_n hx hb dL_passes_106 rfl (lv_at hl 3 rfl) ?_
                        refine lv_iload hx hb dL_passes_107 (lv_at hl 10 rfl) ?_
                        refine x_iald (f := fun j => nI (Y1 5 j)) hx hb hK hP (_ + 5) 0 (app_r rfl) rfl (t := x) (by omega) (by decide) dL_passes_109 ?_
                        refine to_i (y := nI (Y1 5 x)) rfl ?_
                        refine lv_iconst (v := nI 4) hx hb dL_passes_110 (by decide) ?_
                        refine lv_ishr hx hb dL_passes_111 ?_
                        refine to_i (y := nI ((Y1 5 x) / 16)) (pk_shrN (by have := hYb1 5 x; omega) _ 4 (by decide)) ?_
                        refine lv_iconst (v := nI 1) hx hb dL_passes_112 (by decide) ?_
                        refine lv_iand hx hb dL_passes_113 ?_
                        refine to_i (y := nI (((Y1 5 x) / 16) % 2)) (pk_andN (by have := hYb1 5 x; omega) 1 (by decide)) ?_
                        refine to_i (y := nI (N 4 (N 3 x 1) 0)) (congrArg nI (by omega)) ?_
                        refine lv_isub hx hb dL_passes_114 ?_
                        refine to_i (y := nI (1 - (N 4 (N 3 x 1) 0))) (pk_sub (by omega)) ?_
                        refine lv_ishr hx hb dL_passes_115 ?_
                        refine lv_iconst (v := nI 1) hx hb dL_passes_116 (by decide) ?_
                        refine lv_iand hx hb dL_passes_117 ?_
                        refine to_i (y := nI (if N 4 (N 3 x 1) 0 = 0 then br SK N ci 1 else br SK N ci 0)) (sh_bit (br_le _ _ _ _) (br_le _ _ _ _) (by omega)) ?_
                        have e_q_10 : (if N 4 (N 3 x 1) 0 = 0 then br SK N ci 1 else br SK N ci 0) = br SK N ci (1 - (N 4 (N 3 x 1) 0)) := br_if _ _ _ (by omega)
                        refine to_i (y := nI (br SK N ci (1 - (N 4 (N 3 x 1) 0)))) (congrArg nI e_q_10) ?_
                        have l_q_10 := br_le SK N ci (1 - (N 4 (N 3 x 1) 0))
                        refine lv_iconst (v := nI 1) hx hb dL_passes_118 (by decide) ?_
                        refine n_ne (tgt := 126) hx hb dL_passes_119 (by decide) (by omega) (by omega) (fun c_11 => ?_) (fun c_11 => ?_)
                        · refine lv_iconst (v := nI 0) hx hb dL_passes_126 (by decide) ?_
                          refine lv_iadd hx hb dL_passes_127 ?_
                          refine x_iast (f := t3) hx hb hK hP hD hS (_ + 6) 0 (app_r rfl) rfl (t := x) (x := ((t3 x) + (nI 0))) (by omega) (by decide) dL_passes_128 (fun H locs hP hD hS => ?_)
                          rw [app_setr] at hP hD
                          have hP : va_P (dC, dI) vwCl (X ++ yw ab cy Y1 (upd t3 x ((t3 x) + (nI 0))) (D1 + nI 1) a b) H := hP
                          have hD : va_D A (X ++ yw ab cy Y1 (upd t3 x ((t3 x) + (nI 0))) (D1 + nI 1) a b) := hD
                          refine lv_iinc (v := nI (x + 1)) (lv' := [(8, .int (nI (x + 1))), (10, .int (nI 1)), (9, .int (nI st)), (0, .int (nI dd)), (1, .ref ((ab 5))), (2, .ref ((ab 6))), (3, .ref ((ab 7))), (4, .int (nI (K_passN S N k))), (5, .int (nI k)), (6, .int (nI ci)), (7, .int (nI (br SK N ci 0 + 2 * br SK N ci 1)))]) hx hb dL_passes_129 hl (k := 10) rfl (by rw [show Int32.ofInt 1 = 1 from rfl]; exact nI_1 _) (by decide) rfl (fun ls hl => ?_)
                          refine lv_goto (tgt := 41) hx hb dL_passes_132 (by decide) ?_
                          exact ih_x (b - (x + 1)) (by omega) (x + 1) (upd t3 x ((t3 x) + (nI 0))) rfl (by omega) (ts_in ht3 c_7 (by rw [tn_f (fun q => by have q2 := (br_held hR2 hN (by omega) k4 k1).mp q; rw [c_7] at q2; omega)])) H locs ls hP hD hS (by exact lv_sub hl [3, 4, 5, 6, 7, 8, 9, 10, 0] rfl)
                        · refine lv_iconst (v := nI 1) hx hb dL_passes_122 (by decide) ?_
                          refine lv_goto (tgt := 127) hx hb dL_passes_123 (by decide) ?_
                          refine lv_iadd hx hb dL_passes_127 ?_
                          refine x_iast (f := t3) hx hb hK hP hD hS (_ + 6) 0 (app_r rfl) rfl (t := x) (x := ((t3 x) + (nI 1))) (by omega) (by decide) dL_passes_128 (fun H locs hP hD hS => ?_)
                          rw [app_setr] at hP hD
                          have hP : va_P (dC, dI) vwCl (X ++ yw ab cy Y1 (upd t3 x ((t3 x) + (nI 1))) (D1 + nI 1) a b) H := hP
                          have hD : va_D A (X ++ yw ab cy Y1 (upd t3 x ((t3 x) + (nI 1))) (D1 + nI 1) a b) := hD
                          refine lv_iinc (v := nI (x + 1)) (lv' := [(8, .int (nI (x + 1))), (10, .int (nI 1)), (9, .int (nI st)), (0, .int (nI dd)), (1, .ref ((ab 5))), (2, .ref ((ab 6))), (3, .ref ((ab 7))), (4, .int (nI (K_passN S N k))), (5, .int (nI k)), (6, .int (nI ci)), (7, .int (nI (br SK N ci 0 + 2 * br SK N ci 1)))]) hx hb dL_passes_129 hl (k := 10) rfl (by rw [show Int32.ofInt 1 = 1 from rfl]; exact nI_1 _) (by decide) rfl (fun ls hl => ?_)
                          refine lv_goto (tgt := 41) hx hb dL_passes_132 (by decide) ?_
                          exact ih_x (b - (x + 1)) (by omega) (x + 1) (upd t3 x ((t3 x) + (nI 1))) rfl (by omega) (ts_in ht3 c_7 (by rw [tn_t ((br_held hR2 hN (by omega) k4 k1).mpr ⟨by omega, by rw [c_7]; omega⟩)])) H locs ls hP hD hS (by exact lv_sub hl [3, 4, 5, 6, 7, 8, 9, 10, 0] rfl)
                      · refine lv_iload hx hb dL_passes_80 (lv_at hl 0 rfl) ?_
                        refine lv_iconst (v := nI 2) hx hb dL_passes_82 (by decide) ?_
                        refine n_ne (tgt := 90) hx hb dL_passes_83 (by decide) (by omega) (by omega) (fun c_12 => ?_) (fun c_12 => ?_)
                        · refine lv_iconst (v := nI 0) hx hb dL_passes_90 (by decide) ?_
                          refine lv_istore (lv' := [(10, .int (nI 0)), (9, .int (nI st)), (0, .int (nI dd)), (1, .ref ((ab 5))), (2, .ref ((ab 6))), (3, .ref ((ab 7))), (4, .int (nI (K_passN S N k))), (5, .int (nI k)), (6, .int (nI ci)), (7, .int (nI (br SK N ci 0 + 2 * br SK N ci 1))), (8, .int (nI x))]) hx hb dL_passes_91 hl (by decide) rfl (fun ls hl => ?_)
                          refine lv_aload_n hx hb dL_passes_93 rfl (lv_at hl 4 rfl) ?_
                          refine lv_iload hx hb dL_passes_94 (lv_at hl 10 rfl) ?_
                          refine lv_dup2_11 hx hb dL_passes_96 rfl rfl ?_
                          refine x_iald (f := t3) hx hb hK hP (_ + 6) 0 (app_r rfl) rfl (t := x) (by omega) (by decide) dL_passes_97 ?_
                          refine lv_iload hx hb dL_passes_98 (lv_at hl 0 rfl) ?_
                          refine lv_if_eq (tgt := 126) hx hb dL_passes_100 (by decide) (fun _ => ?_) (fun h9 => absurd h9 (by decide))
                          refine lv_iconst (v := nI 0) hx hb dL_passes_126 (by decide) ?_
                          refine lv_iadd hx hb dL_passes_127 ?_
                          refine x_iast (f := t3) hx hb hK hP hD hS (_ + 6) 0 (app_r rfl) rfl (t := x) (x := ((t3 x) + (nI 0))) (by omega) (by decide) dL_passes_128 (fun H locs hP hD hS => ?_)
                          rw [app_setr] at hP hD
                          have hP : va_P (dC, dI) vwCl (X ++ yw ab cy Y1 (upd t3 x ((t3 x) + (nI 0))) (D1 + nI 1) a b) H := hP
                          have hD : va_D A (X ++ yw ab cy Y1 (upd t3 x ((t3 x) + (nI 0))) (D1 + nI 1) a b) := hD
                          refine lv_iinc (v := nI (x + 1)) (lv' := [(8, .int (nI (x + 1))), (10, .int (nI 0)), (9, .int (nI st)), (0, .int (nI dd)), (1, .ref ((ab 5))), (2, .ref ((ab 6))), (3, .ref ((ab 7))), (4, .int (nI (K_passN S N k))), (5, .int (nI k)), (6, .int (nI ci)), (7, .int (nI (br SK N ci 0 + 2 * br SK N ci 1)))]) hx hb dL_passes_129 hl (k := 10) rfl (by rw [show Int32.ofInt 1 = 1 from rfl]; exact nI_1 _) (by decide) rfl (fun ls hl => ?_)
                          refine lv_goto (tgt := 41) hx hb dL_passes_132 (by decide) ?_
                          exact ih_x (b - (x + 1)) (by omega) (x + 1) (upd t3 x ((t3 x) + (nI 0))) rfl (by omega) (ts_in ht3 c_7 (by rw [tn_f (fun q => by have q2 := (br_held hR2 hN (by omega) k4 k1).mp q; rw [c_7] at q2; omega)])) H locs ls hP hD hS (by exact lv_sub hl [3, 4, 5, 6, 7, 8, 9, 10, 0] rfl)
                        · refine lv_iconst (v := nI 1) hx hb dL_passes_86 (by decide) ?_
                          refine lv_goto (tgt := 91) hx hb dL_passes_87 (by decide) ?_
                          refine lv_istore (lv' := [(10, .int (nI 1)), (9, .int (nI st)), (0, .int (nI dd)), (1, .ref ((ab 5))), (2, .ref ((ab 6))), (3, .ref ((ab 7))), (4, .int (nI (K_passN S N k))), (5, .int (nI k)), (6, .int (nI ci)), (7, .int (nI (br SK N ci 0 + 2 * br SK N ci 1))), (8, .int (nI x))]) hx hb dL_passes_91 hl (by decide) rfl (fun ls hl => ?_)
                          refine lv_aload_n hx hb dL_passes_93 rfl (lv_at hl 4 rfl) ?_
                          refine lv_iload hx hb dL_passes_94 (lv_at hl 10 rfl) ?_
                          refine lv_dup2_11 hx hb dL_passes_96 rfl rfl ?_
                          refine x_iald (f := t3) hx hb hK hP (_ + 6) 0 (app_r rfl) rfl (t := x) (by omega) (by decide) dL_passes_97 ?_
                          refine lv_iload hx hb dL_passes_98 (lv_at hl 0 rfl) ?_
                          refine lv_if_eq (tgt := 126) hx hb dL_passes_100 (by decide) (fun h9 => absurd h9 (by decide)) (fun _ => ?_)
                          refine lv_iload hx hb dL_passes_103 (lv_at hl 9 rfl) ?_
                          refine lv_iconst (v := nI 1) hx hb dL_passes_105 (by decide) ?_
                          refine lv_aload_n hx hb dL_passes_106 rfl (lv_at hl 3 rfl) ?_
                          refine lv_iload hx hb dL_passes_107 (lv_at hl 10 rfl) ?_
                          refine x_iald (f := fun j => nI (Y1 5 j)) hx hb hK hP (_ + 5) 0 (app_r rfl) rfl (t := x) (by omega) (by decide) dL_passes_109 ?_
                          refine to_i (y := nI (Y1 5 x)) rfl ?_
                          refine lv_iconst (v := nI 4) hx hb dL_passes_110 (by decide) ?_
                          refine lv_ishr hx hb dL_passes_111 ?_
                          refine to_i (y := nI ((Y1 5 x) / 16)) (pk_shrN (by have := hYb1 5 x; omega) _ 4 (by decide)) ?_
                          refine lv_iconst (v := nI 1) hx hb dL_passes_112 (by decide) ?_
                          refine lv_iand hx hb dL_passes_113 ?_
                          refine to_i (y := nI (((Y1 5 x) / 16) % 2)) (pk_andN (by have := hYb1 5 x; omega) 1 (by decide)) ?_
                          refine to_i (y := nI (N 4 (N 3 x 1) 0)) (congrArg nI (by omega)) ?_
                          refine lv_isub hx hb dL_passes_114 ?_
                          refine to_i (y := nI (1 - (N 4 (N 3 x 1) 0))) (pk_sub (by omega)) ?_
                          refine lv_ishr hx hb dL_passes_115 ?_
                          refine lv_iconst (v := nI 1) hx hb dL_passes_116 (by decide) ?_
                          refine lv_iand hx hb dL_passes_117 ?_
                          refine to_i (y := nI (if N 4 (N 3 x 1) 0 = 0 then br SK N ci 1 else br SK N ci 0)) (sh_bit (br_le _ _ _ _) (br_le _ _ _ _) (by omega)) ?_
                          have e_q_15 : (if N 4 (N 3 x 1) 0 = 0 then br SK N ci 1 else br SK N ci 0) = br SK N ci (1 - (N 4 (N 3 x 1) 0)) := br_if _ _ _ (by omega)
                          refine to_i (y := nI (br SK N ci (1 - (N 4 (N 3 x 1) 0)))) (congrArg nI e_q_15) ?_
                          have l_q_15 := br_le SK N ci (1 - (N 4 (N 3 x 1) 0))
                          refine lv_iconst (v := nI 1) hx hb dL_passes_118 (by decide) ?_
                          refine n_ne (tgt := 126) hx hb dL_passes_119 (by decide) (by omega) (by omega) (fun c_16 => ?_) (fun c_16 => ?_)
                          · refine lv_iconst (v := nI 0) hx hb dL_passes_126 (by decide) ?_
                            refine lv_iadd hx hb dL_passes_127 ?_
                            refine x_iast (f := t3) hx hb hK hP hD hS (_ + 6) 0 (app_r rfl) rfl (t := x) (x := ((t3 x) + (nI 0))) (by omega) (by decide) dL_passes_128 (fun H locs hP hD hS => ?_)
                            rw [app_setr] at hP hD
                            have hP : va_P (dC, dI) vwCl (X ++ yw ab cy Y1 (upd t3 x ((t3 x) + (nI 0))) (D1 + nI 1) a b) H := hP
                            have hD : va_D A (X ++ yw ab cy Y1 (upd t3 x ((t3 x) + (nI 0))) (D1 + nI 1) a b) := hD
                            refine lv_iinc (v := nI (x + 1)) (lv' := [(8, .int (nI (x + 1))), (10, .int (nI 1)), (9, .int (nI st)), (0, .int (nI dd)), (1, .ref ((ab 5))), (2, .ref ((ab 6))), (3, .ref ((ab 7))), (4, .int (nI (K_passN S N k))), (5, .int (nI k)), (6, .int (nI ci)), (7, .int (nI (br SK N ci 0 + 2 * br SK N ci 1)))]) hx hb dL_passes_129 hl (k := 10) rfl (by rw [show Int32.ofInt 1 = 1 from rfl]; exact nI_1 _) (by decide) rfl (fun ls hl => ?_)
                            refine lv_goto (tgt := 41) hx hb dL_passes_132 (by decide) ?_
                            exact ih_x (b - (x + 1)) (by omega) (x + 1) (upd t3 x ((t3 x) + (nI 0))) rfl (by omega) (ts_in ht3 c_7 (by rw [tn_f (fun q => by have q2 := (br_held hR2 hN (by omega) k4 k1).mp q; rw [c_7] at q2; omega)])) H locs ls hP hD hS (by exact lv_sub hl [3, 4, 5, 6, 7, 8, 9, 10, 0] rfl)
                          · refine lv_iconst (v := nI 1) hx hb dL_passes_122 (by decide) ?_
                            refine lv_goto (tgt := 127) hx hb dL_passes_123 (by decide) ?_
                            refine lv_iadd hx hb dL_passes_127 ?_
                            refine x_iast (f := t3) hx hb hK hP hD hS (_ + 6) 0 (app_r rfl) rfl (t := x) (x := ((t3 x) + (nI 1))) (by omega) (by decide) dL_passes_128 (fun H locs hP hD hS => ?_)
                            rw [app_setr] at hP hD
                            have hP : va_P (dC, dI) vwCl (X ++ yw ab cy Y1 (upd t3 x ((t3 x) + (nI 1))) (D1 + nI 1) a b) H := hP
                            have hD : va_D A (X ++ yw ab cy Y1 (upd t3 x ((t3 x) + (nI 1))) (D1 + nI 1) a b) := hD
                            refine lv_iinc (v := nI (x + 1)) (lv' := [(8, .int (nI (x + 1))), (10, .int (nI 1)), (9, .int (nI st)), (0, .int (nI dd)), (1, .ref ((ab 5))), (2, .ref ((ab 6))), (3, .ref ((ab 7))), (4, .int (nI (K_passN S N k))), (5, .int (nI k)), (6, .int (nI ci)), (7, .int (nI (br SK N ci 0 + 2 * br SK N ci 1)))]) hx hb dL_passes_129 hl (k := 10) rfl (by rw [show Int32.ofInt 1 = 1 from rfl]; exact nI_1 _) (by decide) rfl (fun ls hl => ?_)
                            refine lv_goto (tgt := 41) hx hb dL_passes_132 (by decide) ?_
                            exact ih_x (b - (x + 1)) (by omega) (x + 1) (upd t3 x ((t3 x) + (nI 1))) rfl (by omega) (ts_in ht3 c_7 (by rw [tn_t ((br_held hR2 hN (by omega) k4 k1).mpr ⟨by omega, by rw [c_7]; omega⟩)])) H locs ls hP hD hS (by exact lv_sub hl [3, 4, 5, 6, 7, 8, 9, 10, 0] rfl)
                    · refine lv_goto (tgt := 129) hx hb dL_passes_61 (by decide) ?_
                      refine lv_iinc (v := nI (x + 1)) (lv' := [(8, .int (nI (x + 1))), (0, .int (nI dd)), (1, .ref ((ab 5))), (2, .ref ((ab 6))), (3, .ref ((ab 7))), (4, .int (nI (K_passN S N k))), (5, .int (nI k)), (6, .int (nI ci)), (7, .int (nI (br SK N ci 0 + 2 * br SK N ci 1)))]) hx hb dL_passes_129 hl (k := 8) rfl (by rw [show Int32.ofInt 1 = 1 from rfl]; exact nI_1 _) (by decide) rfl (fun ls hl => ?_)
                      refine lv_goto (tgt := 41) hx hb dL_passes_132 (by decide) ?_
                      exact ih_x (b - (x + 1)) (by omega) (x + 1) t3 rfl (by omega) (ts_out ht3 c_7) H locs ls hP hD hS (by exact lv_sub hl [1, 2, 3, 4, 5, 6, 7, 8, 0] rfl)
              exact hl_x b 0 t2 rfl (Nat.zero_le _) (ts_start ht2) H locs ls hP hD hS (lv_sub hl [2, 3, 4, 5, 6, 7, 8, 1, 0] rfl)
        exact hl_c 10 0 t1 rfl (Nat.zero_le _) (ts_0 SK N t1 _) H locs ls hP hD hS (lv_sub hl [1, 2, 3, 4, 5, 6, 0] rfl)
  exact hl_o dd 0 Y t D rfl (Nat.zero_le _) hR H locs ls hP hD hS (lv_sub hl [2, 3, 4, 5, 1, 0] rfl)

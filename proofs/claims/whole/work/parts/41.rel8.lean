/-! pass -/
theorem cntB_congr3 {S S' : SS} {N : NN} (i b : Nat) : ∀ n, (∀ j, j < n → S' 9 j 0 = S 9 j 0) → cntB S' N i b n = cntB S N i b n
  | 0, _ => rfl
  | n + 1, h => by
    simp only [cntB]
    rw [cntB_congr3 i b n (fun j hj => h j (by omega)), h n (Nat.lt_succ_self _)]
theorem penB_congr3 {S S' : SS} {N : NN} (i b : Nat) (h3 : S' 3 = S 3) : ∀ n, (∀ j, j < n → S' 9 j 0 = S 9 j 0) → penB S' N i b n = penB S N i b n
  | 0, _ => rfl
  | n + 1, h => by
    simp only [penB]
    rw [penB_congr3 i b h3 n (fun j hj => h j (by omega)), h n (Nat.lt_succ_self _), h3]
theorem put_row (S : SS) (N : NN) (a : Nat) (ha : ¬ a = 9) : ∀ n, K_put S N n a = S a
  | 0 => rfl
  | n + 1 => by
    have ih := put_row S N a ha n
    simp only [K_put]
    split
    · funext k
      rw [su_ne (fun z => ha z.1)]
      exact congrFun ih k
    · exact ih
theorem put_0 (S : SS) (N : NN) (k : Nat) : ∀ n, K_put S N n 9 k 0 = S 9 k 0
  | 0 => rfl
  | n + 1 => by
    have ih := put_0 S N k n
    simp only [K_put]
    split
    · by_cases e : k = n
      · subst e; rw [su_self, upd_ne (by decide)]; exact ih
      · rw [su_ne (fun z => e z.2)]; exact ih
    · exact ih
theorem put_held (S : SS) (N : NN) (n k : Nat) : isHeld (K_put S N n) N k ↔ isHeld S N k := by
  unfold isHeld isLive
  rw [put_0, put_row S N 7 (by decide)]
theorem put_1 (S : SS) (N : NN) (k : Nat) : ∀ n, K_put S N n 9 k 1 = S 9 k 1 + (if k < n ∧ isHeld S N k then nI 1 else nI 0)
  | 0 => by rw [if_neg (fun q => absurd q.1 (Nat.not_lt_zero _)), nI_00, Int32.add_zero]; rfl
  | n + 1 => by
    have ih := put_1 S N k n
    have hh := put_held S N n n
    simp only [K_put]
    by_cases e : k = n
    · subst e
      rw [if_neg (fun q => absurd q.1 (Nat.lt_irrefl _)), nI_00, Int32.add_zero] at ih
      by_cases h : isHeld S N k
      · rw [if_pos (hh.mpr h), su_self, upd_self, ih, if_pos ⟨Nat.lt_succ_self _, h⟩]
      · rw [if_neg (fun q => h (hh.mp q)), ih, if_neg (fun q => h q.2), nI_00, Int32.add_zero]
    · have e2 : (if isHeld (K_put S N n) N n then su (K_put S N n) 9 n (upd (K_put S N n 9 n) 1 (K_put S N n 9 n 1 + nI 1)) else K_put S N n) 9 k 1 = K_put S N n 9 k 1 := by
        split
        · rw [su_ne (fun z => e z.2)]
        · rfl
      rw [e2, ih]
      by_cases h : k < n ∧ isHeld S N k
      · rw [if_pos h, if_pos ⟨by omega, h.2⟩]
      · rw [if_neg h, if_neg (fun q => h ⟨by omega, q.2⟩)]
theorem bS_row (S : SS) (N : NN) (a : Nat) (h7 : ¬ a = 7) (h8 : ¬ a = 8) (h9 : ¬ a = 9) : ∀ n, K_bS S N n a = S a
  | 0 => rfl
  | n + 1 => by
    have ih := bS_row S N a h7 h8 h9 n
    simp only [K_bS]
    split
    · funext k
      unfold K_count
      rw [su_ne (fun z => h8 z.1), su_ne (fun z => h7 z.1)]
      show su (K_bS S N n) 9 n _ a k = S a k
      rw [su_ne (fun z => h9 z.1)]
      exact congrFun ih k
    · exact ih
theorem bS_9 (S : SS) (N : NN) (k : Nat) : ∀ n, n ≤ k → K_bS S N n 9 k = S 9 k
  | 0, _ => rfl
  | n + 1, h => by
    have ih := bS_9 S N k n (by omega)
    simp only [K_bS]
    split
    · unfold K_count
      rw [su_ne (fun z => absurd z.1 (by decide)), su_ne (fun z => absurd z.1 (by decide))]
      show su (K_bS S N n) 9 n _ 9 k = S 9 k
      rw [su_ne (fun z => by have := z.2; omega)]
      exact ih
    · exact ih
theorem lat_at (con : Nat → Nat) (sd stt : Nat → Int32) (n : Nat) (r : Nat → Int32) (k : Nat) : ∀ d, k < d → M_lat con sd stt n r d k = bi (M_isS con sd stt n k)
  | 0, h => absurd h (Nat.not_lt_zero _)
  | d + 1, h => by
    simp only [M_lat]
    by_cases e : k = d
    · subst e; exact upd_self _ _ _
    · rw [upd_ne e]; exact lat_at con sd stt n r k d (by omega)
theorem ps_ge (day : Int32) (r21 a b : Nat → Int32) (k : Nat) : ∀ n, n ≤ k → (M_ps day r21 a b n).1 k = a k ∧ (M_ps day r21 a b n).2.1 k = b k
  | 0, _ => ⟨rfl, rfl⟩
  | n + 1, h => by
    obtain ⟨i1, i2⟩ := ps_ge day r21 a b k n (by omega)
    have e : ¬ k = n := by omega
    simp only [M_ps, M_psStep]
    generalize (if r21 n = 0 then nI 0 else nI 1) = x
    split
    · refine ⟨?_, ?_⟩
      · show upd _ n _ k = _
        rw [upd_ne e]; exact i1
      · show upd (upd _ n _) n _ k = _
        rw [upd_ne e, upd_ne e]; exact i2
    · refine ⟨i1, ?_⟩
      show upd _ n _ k = _
      rw [upd_ne e]; exact i2
section JW8
variable {S : SS} {N : NN} {F : Nat → Int32} {C : Nat → Nat} {R : Nat → Nat → Int32} {T : Nat → Nat → Nat}
/-- the rows of the reference in the midst of a day: n duties are through -/
def R_ps (R : Nat → Nat → Int32) (lat : Nat → Int32) (day : Int32) (n : Nat) : Nat → Nat → Int32 :=
  va_up (va_up (va_up R 21 lat) 20 (fun k => if k < n then (M_ps day lat (R 19) (R 20) n).2.1 k else R 20 k + (if lat k = 0 then nI 0 else nI 1))) 19 (M_ps day lat (R 19) (R 20) n).1
theorem JJ_day0 (h : JJ (S, N) (F, C, R, T)) (hN : okS N) (lat : Nat → Int32) (hl : ∀ k, k < N 5 0 0 → lat k = bi (isHeld S N k)) :
    JJ (K_dayP S N, N) (va_up F 1 (F 1 + nI 1), C, R_ps R lat (F 1 + nI 1) 0, T) := by
  obtain ⟨⟨f1, f2, f3, f4⟩, hv, hI, hs, hd, hB⟩ := h
  have f1' : F 1 = S 0 0 0 := f1
  have row : ∀ a, ¬ a = 9 → ¬ a = 0 → K_dayP S N a = S a := fun a h9 h0 => by
    unfold K_dayP
    rw [put_row _ _ a h9]
    funext k
    exact su_ne (fun z => h0 z.1)
  have t9 : ∀ k, K_tick S 9 k = S 9 k := fun k => su_ne (fun z => absurd z.1 (by decide))
  have r90 : ∀ k, K_dayP S N 9 k 0 = S 9 k 0 := fun k => by
    unfold K_dayP
    rw [put_0, t9]
  have held : ∀ k, isHeld (K_tick S) N k ↔ isHeld S N k := fun k => by
    unfold isHeld isLive
    rw [t9, show K_tick S 7 = S 7 from funext fun k => su_ne (fun z => absurd z.1 (by decide))]
  refine ⟨⟨?_, f2, f3, ?_⟩, fun d hd' => ?_, fun j hj d hd' => ?_, fun j hj => ?_, ⟨fun j hj => ?_, hd.2⟩, fun j hj b hb => ?_⟩
  · show va_up F 1 (F 1 + nI 1) 1 = K_dayP S N 0 0 0
    rw [va_up_self, f1']
    unfold K_dayP
    rw [put_row _ _ 0 (by decide)]
    show _ = su S 0 0 _ 0 0 0
    rw [su_self, upd_self]
  · show N 5 0 0 ≤ 10 * sgN (K_dayP S N) (N 0 0 0)
    have e := sgN_congr (S := S) (S' := K_dayP S N) (fun i => by rw [row 6 (by decide) (by decide)]) (N 0 0 0)
    rw [e]
    exact f4
  · obtain ⟨v1, v2, v3, v4⟩ := hv d hd'
    show T 2 d = N 1 0 d ∧ R 7 d = K_dayP S N 1 0 d ∧ R 8 d = K_dayP S N 2 0 d ∧ ∀ m, m < N 1 0 d → R 3 (9 * d + m) = nI (N 4 (9 * d + m) 0) ∧ R 4 (9 * d + m) = K_dayP S N 3 (9 * d + m) 1 ∧ R 5 (9 * d + m) = K_dayP S N 3 (9 * d + m) 2 ∧ R 6 (9 * d + m) = K_dayP S N 3 (9 * d + m) 3
    rw [row 1 (by decide) (by decide), row 2 (by decide) (by decide), row 3 (by decide) (by decide)]
    exact ⟨v1, v2, v3, v4⟩
  · obtain ⟨i1, i2, i3, i4⟩ := hI j hj d hd'
    show T 12 (10 * j + d) = N 2 j d ∧ (¬ N 2 j d = 0 → R 13 (2 * (10 * j + d)) = K_dayP S N 4 j d ∧ R 13 (2 * (10 * j + d) + 1) = K_dayP S N 5 j d) ∧ (N 2 j d = 0 → R 13 (2 * (10 * j + d)) = nI 0 ∧ R 13 (2 * (10 * j + d) + 1) = nI 0) ∧ (N 0 0 0 ≤ j → N 2 j d = 0)
    rw [row 4 (by decide) (by decide), row 5 (by decide) (by decide)]
    exact ⟨i1, i2, i3, i4⟩
  · obtain ⟨s1, s2, s3, s4, s5⟩ := hs j hj
    have e6 := row 6 (by decide) (by decide)
    have e2 : isDr (K_dayP S N) j ↔ isDr S j := by unfold isDr; rw [e6]
    refine ⟨?_, ?_, ?_, ?_, fun q => ?_⟩
    · show K_dayP S N 6 j 0 = nI 0 ∨ K_dayP S N 6 j 0 = nI 1
      rw [e6]; exact s1
    · show K_dayP S N 6 j 1 = nI 0 ∨ K_dayP S N 6 j 1 = nI 1
      rw [e6]; exact s2
    · show R 11 j = (if K_dayP S N 6 j 0 = nI 0 then nI 0 else nI 1) + (if K_dayP S N 6 j 1 = nI 0 then nI 0 else nI 2)
      rw [e6]; exact s3
    · show R 10 j = if isDr (K_dayP S N) j then nI 0 else nI 1
      by_cases hq : isDr S j
      · rw [if_pos (e2.mpr hq)]; exact (show R 10 j = _ from s4).trans (if_pos hq)
      · rw [if_neg (fun q => hq (e2.mp q))]; exact (show R 10 j = _ from s4).trans (if_neg hq)
    · show K_dayP S N 6 j 0 = nI 0 ∧ K_dayP S N 6 j 1 = nI 0
      rw [e6]; exact s5 q
  · obtain ⟨d1, d2, d3, d4, d5, d6, d7, d8⟩ := hd.1 j hj
    have hj' : j < N 5 0 0 := hj
    show T 15 j = N 3 j 0 ∧ R 16 j = nI (N 4 (N 3 j 1) 0) ∧ R 17 j = K_dayP S N 3 (N 3 j 1) 2 ∧ R 18 j = K_dayP S N 3 (N 3 j 1) 3 ∧ R 19 j = K_dayP S N 9 j 0 ∧ (if j < 0 then R 20 j else R 20 j + (if lat j = 0 then nI 0 else nI 1)) = K_dayP S N 9 j 1 ∧ (∃ c n, c < 10 ∧ n < N 1 0 c ∧ N 3 j 1 = 9 * c + n) ∧ N 3 j 0 < N 0 0 0
    rw [row 3 (by decide) (by decide), r90, if_neg (Nat.not_lt_zero _)]
    refine ⟨d1, d2, d3, d4, d5, ?_, d7, d8⟩
    unfold K_dayP
    rw [put_1, show K_tick S 9 j 1 = S 9 j 1 from congrFun (t9 j) 1, hl j hj', show R 20 j = S 9 j 1 from d6]
    by_cases hq : isHeld S N j
    · have e1 : ¬ bi (isHeld S N j) = 0 := by rw [bi_t hq]; decide
      rw [if_neg e1, if_pos (show j < N 5 0 0 ∧ isHeld (K_tick S) N j from ⟨hj', (held j).mpr hq⟩)]
    · have e1 : bi (isHeld S N j) = 0 := bi_f hq
      rw [if_pos e1, if_neg (show ¬ (j < N 5 0 0 ∧ isHeld (K_tick S) N j) from fun q => hq ((held j).mp q.2))]
  · obtain ⟨b1, b2⟩ := hB j hj b hb
    have c1 : cntB (K_dayP S N) N j b (N 5 0 0) = cntB S N j b (N 5 0 0) := cntB_congr3 j b _ (fun k hk => r90 k)
    have c2 : penB (K_dayP S N) N j b (N 5 0 0) = penB S N j b (N 5 0 0) := penB_congr3 j b (row 3 (by decide) (by decide)) _ (fun k hk => r90 k)
    show K_dayP S N 7 j b = nI (cntB (K_dayP S N) N j b (N 5 0 0)) ∧ K_dayP S N 8 j b = penB (K_dayP S N) N j b (N 5 0 0)
    rw [c1, c2, row 7 (by decide) (by decide), row 8 (by decide) (by decide)]
    exact ⟨b1, b2⟩
/-- one more breach -/
theorem JJ_br {X : SS} (h : JJ (X, N) (F, C, R, T)) {j : Nat} (hj : j < N 5 0 0) (h2 : X 9 j 0 = nI 2) : JJ (K_count (K_move X j (nI 3) (X 0 0 0)) N j (nI 1), N) (F, C, R_mv R j (nI 3) (X 0 0 0), T) := by
  obtain ⟨a1, a2, a3, a4, a5⟩ := JJ_cnt (JJ_mv h j (nI 3) (X 0 0 0)) j (nI 1)
  refine ⟨a1, a2, a3, a4, a5, fun i hi b hb => ?_⟩
  obtain ⟨b1, b2⟩ := h.2.2.2.2.2 i hi b hb
  have c1 := cnt_mv X N i b j (nI 3) (X 0 0 0) (N 5 0 0)
  have c2 := pen_mv X N i b j (nI 3) (X 0 0 0) (N 5 0 0)
  have hno : ¬ isB X N i b j (X 9 j 0) := fun q => absurd (h2.symm.trans q.2.2) (by decide)
  rw [if_pos hj, if_pos hj, if_neg hno] at c1 c2
  rw [Nat.add_zero] at c1
  rw [Int32.add_zero] at c2
  refine ⟨?_, ?_⟩
  · show K_count (K_move X j (nI 3) (X 0 0 0)) N j (nI 1) 7 i b = nI (cntB (K_count (K_move X j (nI 3) (X 0 0 0)) N j (nI 1)) N i b (N 5 0 0))
    rw [cnt_7, cntB_congr (S := K_move X j (nI 3) (X 0 0 0)) (S' := K_count (K_move X j (nI 3) (X 0 0 0)) N j (nI 1)) i b (fun k => rfl), show K_move X j (nI 3) (X 0 0 0) 7 = X 7 from rfl, show X 7 i b = nI _ from b1, c1]
    by_cases hq : N 3 j 0 = i ∧ N 4 (N 3 j 1) 0 = b
    · rw [if_pos hq, if_pos (show isB X N i b j (nI 3) from ⟨hq.1, hq.2, rfl⟩), nI_add]
    · rw [if_neg hq, if_neg (show ¬ isB X N i b j (nI 3) from fun q => hq ⟨q.1, q.2.1⟩), Int32.add_zero, Nat.add_zero]
  · show K_count (K_move X j (nI 3) (X 0 0 0)) N j (nI 1) 8 i b = penB (K_count (K_move X j (nI 3) (X 0 0 0)) N j (nI 1)) N i b (N 5 0 0)
    rw [cnt_8, penB_congr (S := K_move X j (nI 3) (X 0 0 0)) (S' := K_count (K_move X j (nI 3) (X 0 0 0)) N j (nI 1)) i b (fun k => rfl) (fun v => rfl), show K_move X j (nI 3) (X 0 0 0) 8 = X 8 from rfl, show K_move X j (nI 3) (X 0 0 0) 3 = X 3 from rfl, show X 8 i b = _ from b2, c2]
    by_cases hq : N 3 j 0 = i ∧ N 4 (N 3 j 1) 0 = b
    · rw [if_pos hq, if_pos (show isB X N i b j (nI 3) from ⟨hq.1, hq.2, rfl⟩), show (nI 1 : Int32) = 1 from rfl, Int32.one_mul]
    · rw [if_neg hq, if_neg (show ¬ isB X N i b j (nI 3) from fun q => hq ⟨q.1, q.2.1⟩)]
theorem JJ_dayN (h : JJ (S, N) (F, C, R, T)) (hN : okS N) (lat : Nat → Int32) (hl : ∀ k, k < N 5 0 0 → lat k = bi (isHeld S N k)) :
    ∀ n, n ≤ N 5 0 0 → JJ (K_bS (K_dayP S N) N n, N) (va_up F 1 (F 1 + nI 1), C, R_ps R lat (F 1 + nI 1) n, T) ∧ K_bn (K_dayP S N) N n = (M_ps (F 1 + nI 1) lat (R 19) (R 20) n).2.2
  | 0, _ => ⟨JJ_day0 h hN lat hl, rfl⟩
  | n + 1, hn => by
    obtain ⟨ih, ic⟩ := JJ_dayN h hN lat hl n (by omega)
    have h0 := JJ_day0 h hN lat hl
    have hnn : n < N 5 0 0 := by omega
    obtain ⟨d1, d2, d3, d4, d5, d6, d7, d8⟩ := ih.2.2.2.2.1.1 n hnn
    obtain ⟨p1, p2⟩ := ps_ge (F 1 + nI 1) lat (R 19) (R 20) n n (Nat.le_refl _)
    have x0 : K_bS (K_dayP S N) N n 0 0 0 = F 1 + nI 1 := ih.1.1.symm.trans (show va_up F 1 (F 1 + nI 1) 1 = F 1 + nI 1 from va_up_self _ _ _)
    have x1 : K_bS (K_dayP S N) N n 9 n 0 = R 19 n := d5.symm.trans p1
    have x2 : K_bS (K_dayP S N) N n 9 n 1 = R 20 n + (if lat n = 0 then nI 0 else nI 1) := d6.symm.trans (if_neg (Nat.lt_irrefl n))
    have eS : K_bS (K_dayP S N) N (n + 1) = if isLateN (K_bS (K_dayP S N) N n) n then K_count (K_move (K_bS (K_dayP S N) N n) n (nI 3) (K_bS (K_dayP S N) N n 0 0 0)) N n (nI 1) else K_bS (K_dayP S N) N n := rfl
    have eN : K_bn (K_dayP S N) N (n + 1) = if isLateN (K_bS (K_dayP S N) N n) n then K_bn (K_dayP S N) N n + 1 else K_bn (K_dayP S N) N n := rfl
    have eP : M_ps (F 1 + nI 1) lat (R 19) (R 20) (n + 1) = M_psStep (F 1 + nI 1) lat n (M_ps (F 1 + nI 1) lat (R 19) (R 20) n) := rfl
    have hc : isLateN (K_bS (K_dayP S N) N n) n ↔ ((M_ps (F 1 + nI 1) lat (R 19) (R 20) n).1 n = nI 2 ∧ ¬ (F 1 + nI 1) ≤ (M_ps (F 1 + nI 1) lat (R 19) (R 20) n).2.1 n + (if lat n = 0 then nI 0 else nI 1)) := by
      unfold isLateN
      rw [x0, x1, x2, p1, p2]
      exact and_congr Iff.rfl Int32.not_le.symm
    by_cases hq : isLateN (K_bS (K_dayP S N) N n) n
    · have eP2 : M_ps (F 1 + nI 1) lat (R 19) (R 20) (n + 1) = (upd (M_ps (F 1 + nI 1) lat (R 19) (R 20) n).1 n (nI 3), upd (upd (M_ps (F 1 + nI 1) lat (R 19) (R 20) n).2.1 n ((M_ps (F 1 + nI 1) lat (R 19) (R 20) n).2.1 n + (if lat n = 0 then nI 0 else nI 1))) n (F 1 + nI 1), (M_ps (F 1 + nI 1) lat (R 19) (R 20) n).2.2 + 1) := by
        rw [eP]; unfold M_psStep; rw [if_pos (hc.mp hq)]
      have z := JJ_br ih hnn hq.1
      rw [x0] at z
      rw [eS, eN, if_pos hq, if_pos hq, x0, ic, eP2]
      refine ⟨?_, rfl⟩
      have eR : R_ps R lat (F 1 + nI 1) (n + 1) = R_mv (R_ps R lat (F 1 + nI 1) n) n (nI 3) (F 1 + nI 1) := by
        unfold R_mv R_ps
        rw [eP2]
        generalize M_ps (F 1 + nI 1) lat (R 19) (R 20) n = w
        funext a
        by_cases e20 : a = 20
        · subst e20
          rw [va_up_ne _ _ (by decide : ¬ (20 : Nat) = 19), va_up_self, va_up_self, va_up_ne _ _ (by decide : ¬ (20 : Nat) = 19), va_up_self]
          funext k
          by_cases e : k = n
          · subst e; rw [if_pos (Nat.lt_succ_self _), upd_self]; exact upd_self _ _ _
          · rw [upd_ne e]
            by_cases h1 : k < n
            · rw [if_pos (show k < n + 1 by omega), if_pos h1]; exact (upd_ne e).trans (upd_ne e)
            · rw [if_neg (show ¬ k < n + 1 by omega), if_neg h1]
        · by_cases e19 : a = 19
          · subst e19
            rw [va_up_self, va_up_ne _ _ (by decide : ¬ (19 : Nat) = 20), va_up_self, va_up_self]
          · simp [va_up, e19, e20]
      rw [eR]
      exact z
    · have eP2 : M_ps (F 1 + nI 1) lat (R 19) (R 20) (n + 1) = ((M_ps (F 1 + nI 1) lat (R 19) (R 20) n).1, upd (M_ps (F 1 + nI 1) lat (R 19) (R 20) n).2.1 n ((M_ps (F 1 + nI 1) lat (R 19) (R 20) n).2.1 n + (if lat n = 0 then nI 0 else nI 1)), (M_ps (F 1 + nI 1) lat (R 19) (R 20) n).2.2) := by
        rw [eP]; unfold M_psStep; rw [if_neg (fun q => hq (hc.mpr q))]
      rw [eS, eN, if_neg hq, if_neg hq, ic, eP2]
      refine ⟨?_, rfl⟩
      have eR : R_ps R lat (F 1 + nI 1) (n + 1) = R_ps R lat (F 1 + nI 1) n := by
        unfold R_ps
        rw [eP2]
        rw [show (M_ps (F 1 + nI 1) lat (R 19) (R 20) n).2.1 n = R 20 n from p2]
        generalize M_ps (F 1 + nI 1) lat (R 19) (R 20) n = w
        congr 2
        funext k
        by_cases e : k = n
        · subst e; rw [if_pos (Nat.lt_succ_self _), if_neg (Nat.lt_irrefl _)]; exact upd_self _ _ _
        · by_cases h1 : k < n
          · rw [if_pos (show k < n + 1 by omega), if_pos h1]; exact upd_ne e
          · rw [if_neg (show ¬ k < n + 1 by omega), if_neg h1]
      rw [eR]
      exact ih
theorem JJ_passes (h : JJ (S, N) (F, C, R, T)) (hN : okS N) : JJ (K_bS (K_dayP S N) N (N 5 0 0), N) (M_passes (F, C, R, T)).1 ∧ K_bn (K_dayP S N) N (N 5 0 0) = (M_passes (F, C, R, T)).2 := by
  have f3 : C 14 = N 5 0 0 := h.1.2.2.1
  have hl : ∀ k, k < N 5 0 0 → M_lat (T 15) (R 16) (R 19) (C 14) (R 21) (C 14) k = bi (isHeld S N k) := fun k hk => by
    rw [lat_at _ _ _ _ _ k _ (by rw [f3]; exact hk)]
    have e := held_eq h hN hk
    by_cases hq : isHeld S N k
    · rw [bi_t hq, bi_t (e.mpr hq)]
    · rw [bi_f hq, bi_f (fun q => hq (e.mp q))]
  obtain ⟨z1, z2⟩ := JJ_dayN h hN _ hl (N 5 0 0) (Nat.le_refl _)
  unfold M_passes
  show JJ _ (va_up F 1 (F 1 + nI 1), C, va_up (va_up (va_up R 21 (M_lat (T 15) (R 16) (R 19) (C 14) (R 21) (C 14))) 20 (M_ps (F 1 + nI 1) (M_lat (T 15) (R 16) (R 19) (C 14) (R 21) (C 14)) (R 19) (R 20) (C 14)).2.1) 19 (M_ps (F 1 + nI 1) (M_lat (T 15) (R 16) (R 19) (C 14) (R 21) (C 14)) (R 19) (R 20) (C 14)).1, T) ∧ _ = (M_ps (F 1 + nI 1) (M_lat (T 15) (R 16) (R 19) (C 14) (R 21) (C 14)) (R 19) (R 20) (C 14)).2.2
  rw [f3] at z1 z2 ⊢
  generalize M_lat (T 15) (R 16) (R 19) (N 5 0 0) (R 21) (N 5 0 0) = lat at z1 z2 ⊢
  refine ⟨?_, z2⟩
  obtain ⟨a1, a2, a3, a4, a5, a6⟩ := z1
  refine ⟨a1, a2, a3, a4, ⟨fun j hj => ?_, a5.2⟩, a6⟩
  obtain ⟨d1, d2, d3, d4, d5, d6, d7, d8⟩ := a5.1 j hj
  exact ⟨d1, d2, d3, d4, d5, (show (if j < N 5 0 0 then _ else _) = _ from d6) ▸ (if_pos (show j < N 5 0 0 from hj)).symm, d7, d8⟩
end JW8
section JW9
variable {S : SS} {N : NN}
theorem passes_F (v : MS) : (M_passes v).1.1 0 = v.1 0 := by
  show va_up v.1 1 (v.1 1 + nI 1) 0 = v.1 0
  exact va_up_ne _ _ (by decide : (0 : Nat) ≠ 1)
theorem JJ_passN {v : MS} (h : JJ (S, N) v) (hN : okS N) : ∀ k, JJ (K_passS S N k, N) (M_passN v k).1 ∧ K_passN S N k = (M_passN v k).2 ∧ (M_passN v k).1.1 0 = v.1 0
  | 0 => ⟨h, rfl, rfl⟩
  | k + 1 => by
    obtain ⟨i1, i2, i3⟩ := JJ_passN h hN k
    have eM : M_passN v (k + 1) = ((M_passes (M_passN v k).1).1, (M_passN v k).2 + (M_passes (M_passN v k).1).2) := rfl
    have eS : K_passS S N (k + 1) = K_bS (K_dayP (K_passS S N k) N) N (N 5 0 0) := rfl
    have eN : K_passN S N (k + 1) = K_passN S N k + K_bn (K_dayP (K_passS S N k) N) N (N 5 0 0) := rfl
    rw [eM, eS, eN]
    generalize M_passN v k = w at i1 i2 i3 ⊢
    generalize K_passS S N k = X at i1 ⊢
    obtain ⟨⟨F, C, R, T⟩, m⟩ := w
    obtain ⟨z1, z2⟩ := JJ_passes i1 hN
    exact ⟨z1, by rw [i2, z2], (passes_F _).trans i3⟩
theorem passS_row (S : SS) (N : NN) (a : Nat) (h0 : ¬ a = 0) (h7 : ¬ a = 7) (h8 : ¬ a = 8) (h9 : ¬ a = 9) : ∀ k, K_passS S N k a = S a
  | 0 => rfl
  | k + 1 => by
    have ih := passS_row S N a h0 h7 h8 h9 k
    show K_bS (K_dayP (K_passS S N k) N) N (N 5 0 0) a = S a
    rw [bS_row _ _ a h7 h8 h9]
    unfold K_dayP
    rw [put_row _ _ a h9, ← ih]
    funext j
    exact su_ne (fun z => h0 z.1)
theorem j_pass {F : Nat → Int32} {C : Nat → Nat} {R : Nat → Nat → Int32} {T : Nat → Nat → Nat} (h : JJ (S, N) (F, C, R, T)) (hN : okS N) (a : Int32) : Jop S N (V_pass S a) (nI (K_passN S N (ix a))) (K_passS S N (ix a), N) (M_pass F C R T a).1 (M_pass F C R T a).2 := by
  unfold M_pass V_pass
  have f1 : F 1 = S 0 0 0 := h.1.1
  by_cases ha : nI 1 ≤ a ∧ a ≤ nI 100
  · rw [if_pos ha, if_pos ha, f1]
    by_cases hb : S 0 0 0 + a ≤ nI 9999
    · rw [if_pos hb, if_pos hb]
      obtain ⟨z1, z2, z3⟩ := JJ_passN (JJ_F (nI 0) h) hN (ix a)
      exact Jop_ok rfl (z3.trans (up0 F _)) (congrArg nI z2.symm) z1
    · rw [if_neg hb, if_neg hb]
      exact Jop_no 2 rfl (by decide) h
  · rw [if_neg ha, if_neg ha]
    exact Jop_no 1 rfl (by decide) h
theorem m_pass (hM : jM (S, N)) (k : Nat) : jM (K_passS S N k, N) := fun i hi c hc h => by
  show K_passS S N k 4 i c = nI 1 ∨ K_passS S N k 5 i c = nI 1
  rw [passS_row S N 4 (by decide) (by decide) (by decide) (by decide), passS_row S N 5 (by decide) (by decide) (by decide) (by decide)]
  exact hM i hi c hc h
end JW9

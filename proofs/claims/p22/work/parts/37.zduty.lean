/-! duties: moved, breached, a day -/
section RZ3
variable {S : SS} {N : NN} {Y Y' : Nat → Nat → Nat} {t t' : Nat → Int32} {D : Int32} {a b : Nat} {j : Nat}
theorem rz_d (h : RZ S N Y t D a b) (hN : okS N) (hj : j < N 5 0 0) : ∃ st x2 x3 : Nat, st ≤ 4 ∧ x2 ≤ 50 ∧ x3 ≤ 1000 ∧ S 9 j 0 = nI st ∧ S 3 (N 3 j 1) 2 = nI x2 ∧ S 3 (N 3 j 1) 3 = nI x3 ∧ Y 5 j = N 3 j 0 + 16 * N 4 (N 3 j 1) 0 + 32 * st + 256 * x2 + 16384 * x3 ∧ N 3 j 0 < 10 ∧ N 4 (N 3 j 1) 0 < 2 ∧ t j = S 9 j 1 := by
  obtain ⟨⟨d1, d1'⟩, ⟨-, ⟨e1, e2⟩, ⟨e3, e4⟩⟩, d3, d4, d5, -⟩ := h.2.2.2.2.1 j hj
  have := hN.2.2.2.1
  exact ⟨_, _, _, d1', e2, e4, d1, e1, e3, d3, by omega, hN.2.2.1 _, d4⟩
/-- all but the counts, when a duty moves -/
theorem rz_mv0 {s' w : Nat} {dy : Int32} (h : RZ S N Y t D a b) (hN : okS N) (hj : j < N 5 0 0) (hs' : s' ≤ 4) (hw : w + 32 * ix (S 9 j 0) = Y 5 j + 32 * s') :
    zV (K_move S j (nI s') dy) N (va_up Y 5 (va_up (Y 5) j w)) ∧ z6 N ∧ zI (K_move S j (nI s') dy) N (va_up Y 5 (va_up (Y 5) j w)) ∧ zS (K_move S j (nI s') dy) N (va_up Y 5 (va_up (Y 5) j w)) ∧ zD (K_move S j (nI s') dy) N (va_up Y 5 (va_up (Y 5) j w)) (upd t j dy) ∧ zF (K_move S j (nI s') dy) N D a b 0 ∧ zY (va_up Y 5 (va_up (Y 5) j w)) := by
  obtain ⟨st, x2, x3, k1, k2, k3, k4, k5, k6, k7, k8, k9, k10⟩ := rz_d h hN hj
  have e4 : ix (S 9 j 0) = st := by rw [k4, ix_nI (by omega)]
  obtain ⟨hv, h6, hI, hs, hd, hB, ⟨f1, f2, f3, f4⟩, hY⟩ := h
  refine ⟨hv, h6, hI, hs, fun k hk => ?_, ⟨f1, f2, f3, ?_⟩, zY_up hY _ _ (by omega)⟩
  · obtain ⟨d1, d2, d3, d4, d5, d6⟩ := hd k hk
    by_cases e : k = j
    · subst e
      have u0 : upd (upd (S 9 k) 0 (nI s')) 1 dy 0 = nI s' := by simp [upd]
      have u1 : upd (upd (S 9 k) 0 (nI s')) 1 dy 1 = dy := by simp [upd]
      rw [mv_9, Y_at, upd_self, u0, u1]
      refine ⟨isN_nI hs' (by decide), d2, ?_, rfl, d5, d6⟩
      unfold pD at d3 ⊢
      rw [mv_9, u0, ix_nI (by omega)]
      show w = N 3 k 0 + 16 * N 4 (N 3 k 1) 0 + 32 * s' + 256 * ix (S 3 (N 3 k 1) 2) + 16384 * ix (S 3 (N 3 k 1) 3)
      omega
    · rw [mv_ne e, Y_ne e, upd_ne e]
      refine ⟨d1, d2, ?_, d4, d5, d6⟩
      unfold pD at d3 ⊢
      rw [mv_ne e]
      exact d3
  · have e := sgN_congr (S := S) (S' := K_move S j (nI s') dy) (fun i => rfl) (N 0 0 0)
    rw [e]
    exact f4
/-- a duty moves and is no breach before or behind -/
theorem rz_mv {s' w : Nat} {dy : Int32} (h : RZ S N Y t D a b) (hN : okS N) (hj : j < N 5 0 0) (hs' : s' ≤ 4) (hw : w + 32 * ix (S 9 j 0) = Y 5 j + 32 * s') (h1 : ¬ S 9 j 0 = nI 3) (h2 : ¬ s' = 3) :
    RZ (K_move S j (nI s') dy) N (va_up Y 5 (va_up (Y 5) j w)) (upd t j dy) D a b := by
  obtain ⟨a1, a2, a3, a4, a5, a6, a7⟩ := rz_mv0 (dy := dy) h hN hj hs' hw
  refine ⟨a1, a2, a3, a4, a5, fun i hi b hb => ?_, a6, a7⟩
  obtain ⟨b1, b2⟩ := h.2.2.2.2.2.1 i hi b hb
  have c1 := cnt_mv S N i b j (nI s') dy (N 5 0 0)
  have c2 := pen_mv S N i b j (nI s') dy (N 5 0 0)
  have h2' : ¬ nI s' = nI 3 := nI_ne (by omega) (by decide) h2
  rw [if_neg (show ¬ isB S N i b j (S 9 j 0) from fun q => h1 q.2.2), if_neg (show ¬ isB S N i b j (nI s') from fun q => h2' q.2.2)] at c1 c2
  simp only [ite_self, Nat.add_zero, Int32.add_zero] at c1 c2
  exact ⟨b1.trans (congrArg nI c1.symm), b2.trans c2.symm⟩
/-- counts of breaches change -/
theorem rz_cnt {sg : Int32} {X : SS} (h : zV X N Y ∧ z6 N ∧ zI X N Y ∧ zS X N Y ∧ zD X N Y t ∧ zF X N D a b 0 ∧ zY Y) (hB : jB (K_count X N j sg) N) : RZ (K_count X N j sg) N Y t D a b := by
  obtain ⟨hv, h6, hI, hs, hd, ⟨f1, f2, f3, f4⟩, hY⟩ := h
  refine ⟨hv, h6, hI, hs, hd, hB, ⟨f1, f2, f3, ?_⟩, hY⟩
  have e := sgN_congr (S := X) (S' := K_count X N j sg) (fun i => rfl) (N 0 0 0)
  rw [e]
  exact f4
theorem rz_settle {w : Nat} (h : RZ S N Y t D a b) (hN : okS N) (hj : j < N 5 0 0) (hl : S 9 j 0 = nI 3) (hw : w = Y 5 j + 32) : RZ (K_count (K_move S j (nI 4) (S 0 0 0)) N j (-1)) N (va_up Y 5 (va_up (Y 5) j w)) (upd t j D) D a b := by
  have f1 : D = S 0 0 0 := h.2.2.2.2.2.2.1.1
  rw [f1]
  have z := rz_mv0 (s' := 4) (w := w) (dy := S 0 0 0) h hN hj (by decide) (by rw [hl, ix_nI (by decide)]; omega)
  rw [← f1] at z
  rw [f1] at z
  refine rz_cnt z (fun i hi b hb => ?_)
  obtain ⟨b1, b2⟩ := h.2.2.2.2.2.1 i hi b hb
  have c1 := cnt_mv S N i b j (nI 4) (S 0 0 0) (N 5 0 0)
  have c2 := pen_mv S N i b j (nI 4) (S 0 0 0) (N 5 0 0)
  rw [if_pos hj, if_pos hj, if_neg (show ¬ isB S N i b j (nI 4) from fun q => absurd q.2.2 (by decide))] at c1 c2
  refine ⟨?_, ?_⟩
  · show K_count (K_move S j (nI 4) (S 0 0 0)) N j (-1) 7 i b = nI (cntB (K_count (K_move S j (nI 4) (S 0 0 0)) N j (-1)) N i b (N 5 0 0))
    rw [cnt_7, cntB_congr (S := K_move S j (nI 4) (S 0 0 0)) (S' := K_count (K_move S j (nI 4) (S 0 0 0)) N j (-1)) i b (fun k => rfl), show K_move S j (nI 4) (S 0 0 0) 7 = S 7 from rfl, show S 7 i b = nI _ from b1, ← Nat.add_zero (cntB S N i b (N 5 0 0)), ← c1]
    by_cases hq : N 3 j 0 = i ∧ N 4 (N 3 j 1) 0 = b
    · rw [if_pos hq, if_pos (show isB S N i b j (S 9 j 0) from ⟨hq.1, hq.2, hl⟩), ← Int32.sub_eq_add_neg]
      exact nI_pred _
    · rw [if_neg hq, if_neg (show ¬ isB S N i b j (S 9 j 0) from fun q => hq ⟨q.1, q.2.1⟩), Int32.add_zero, Nat.add_zero]
  · show K_count (K_move S j (nI 4) (S 0 0 0)) N j (-1) 8 i b = penB (K_count (K_move S j (nI 4) (S 0 0 0)) N j (-1)) N i b (N 5 0 0)
    rw [cnt_8, penB_congr (S := K_move S j (nI 4) (S 0 0 0)) (S' := K_count (K_move S j (nI 4) (S 0 0 0)) N j (-1)) i b (fun k => rfl) (fun v => rfl), show K_move S j (nI 4) (S 0 0 0) 8 = S 8 from rfl, show K_move S j (nI 4) (S 0 0 0) 3 = S 3 from rfl, show S 8 i b = _ from b2, ← Int32.add_zero (penB S N i b (N 5 0 0)), ← c2]
    by_cases hq : N 3 j 0 = i ∧ N 4 (N 3 j 1) 0 = b
    · rw [if_pos hq, if_pos (show isB S N i b j (S 9 j 0) from ⟨hq.1, hq.2, hl⟩), Int32.neg_mul, Int32.one_mul, Int32.add_assoc, Int32.add_right_neg, Int32.add_zero]
    · rw [if_neg hq, if_neg (show ¬ isB S N i b j (S 9 j 0) from fun q => hq ⟨q.1, q.2.1⟩), Int32.add_zero, Int32.add_zero]
/-- one more breach -/
theorem rz_br {w : Nat} (h : RZ S N Y t D a b) (hN : okS N) (hj : j < N 5 0 0) (h2 : S 9 j 0 = nI 2) (hw : w = Y 5 j + 32) : RZ (K_count (K_move S j (nI 3) (S 0 0 0)) N j (nI 1)) N (va_up Y 5 (va_up (Y 5) j w)) (upd t j D) D a b := by
  have f1 : D = S 0 0 0 := h.2.2.2.2.2.2.1.1
  have z := rz_mv0 (s' := 3) (w := w) (dy := D) h hN hj (by decide) (by rw [h2, ix_nI (by decide)]; omega)
  have e0 : K_move S j (nI 3) D = K_move S j (nI 3) (S 0 0 0) := by rw [f1]
  rw [e0] at z
  refine rz_cnt z (fun i hi b hb => ?_)
  obtain ⟨b1, b2⟩ := h.2.2.2.2.2.1 i hi b hb
  have c1 := cnt_mv S N i b j (nI 3) (S 0 0 0) (N 5 0 0)
  have c2 := pen_mv S N i b j (nI 3) (S 0 0 0) (N 5 0 0)
  have hno : ¬ isB S N i b j (S 9 j 0) := fun q => absurd (h2.symm.trans q.2.2) (by decide)
  rw [if_pos hj, if_pos hj, if_neg hno] at c1 c2
  rw [Nat.add_zero] at c1
  rw [Int32.add_zero] at c2
  refine ⟨?_, ?_⟩
  · show K_count (K_move S j (nI 3) (S 0 0 0)) N j (nI 1) 7 i b = nI (cntB (K_count (K_move S j (nI 3) (S 0 0 0)) N j (nI 1)) N i b (N 5 0 0))
    rw [cnt_7, cntB_congr (S := K_move S j (nI 3) (S 0 0 0)) (S' := K_count (K_move S j (nI 3) (S 0 0 0)) N j (nI 1)) i b (fun k => rfl), show K_move S j (nI 3) (S 0 0 0) 7 = S 7 from rfl, show S 7 i b = nI _ from b1, c1]
    by_cases hq : N 3 j 0 = i ∧ N 4 (N 3 j 1) 0 = b
    · rw [if_pos hq, if_pos (show isB S N i b j (nI 3) from ⟨hq.1, hq.2, rfl⟩), nI_add]
    · rw [if_neg hq, if_neg (show ¬ isB S N i b j (nI 3) from fun q => hq ⟨q.1, q.2.1⟩), Int32.add_zero, Nat.add_zero]
  · show K_count (K_move S j (nI 3) (S 0 0 0)) N j (nI 1) 8 i b = penB (K_count (K_move S j (nI 3) (S 0 0 0)) N j (nI 1)) N i b (N 5 0 0)
    rw [cnt_8, penB_congr (S := K_move S j (nI 3) (S 0 0 0)) (S' := K_count (K_move S j (nI 3) (S 0 0 0)) N j (nI 1)) i b (fun k => rfl) (fun v => rfl), show K_move S j (nI 3) (S 0 0 0) 8 = S 8 from rfl, show K_move S j (nI 3) (S 0 0 0) 3 = S 3 from rfl, show S 8 i b = _ from b2, c2]
    by_cases hq : N 3 j 0 = i ∧ N 4 (N 3 j 1) 0 = b
    · rw [if_pos hq, if_pos (show isB S N i b j (nI 3) from ⟨hq.1, hq.2, rfl⟩), show (nI 1 : Int32) = 1 from rfl, Int32.one_mul]
    · rw [if_neg hq, if_neg (show ¬ isB S N i b j (nI 3) from fun q => hq ⟨q.1, q.2.1⟩)]
/-- has side o of contract i a breach -/
def br (S : SS) (N : NN) (i o : Nat) : Nat := if 0 < cntB S N i o (N 5 0 0) then 1 else 0
theorem br_le (S : SS) (N : NN) (i o : Nat) : br S N i o ≤ 1 := by unfold br; split <;> omega
theorem br_7 (h : RZ S N Y t D a b) (hN : okS N) {i o : Nat} (hi : i < 10) (ho : o < 2) : br S N i o = 1 ↔ ¬ S 7 i o ≤ 0 := by
  have h7 := (h.2.2.2.2.2.1 i hi o ho).1
  have hc := cnt_le S N i o (N 5 0 0)
  have h5 := hN.2.2.2.2
  rw [h7, ← nI_00, nI_leI (by omega) (by decide)]
  unfold br
  split <;> omega
/-- duty x's held up by the breaches of its contract -/
theorem br_held (h : RZ S N Y t D a b) (hN : okS N) {x st : Nat} (hx : x < N 5 0 0) (hst : S 9 x 0 = nI st) (hst4 : st ≤ 4) : isHeld S N x ↔ (st = 0 ∨ st = 2) ∧ br S N (N 3 x 0) (1 - N 4 (N 3 x 1) 0) = 1 := by
  have h3 : N 3 x 0 < N 0 0 0 := (h.2.2.2.2.1 x hx).2.2.2.2.1
  have h10 := hN.2.2.2.1
  have ho := hN.2.2.1 (N 3 x 1)
  unfold isHeld isLive
  rw [br_7 h hN (by omega) (by omega), hst]
  refine and_congr ?_ Iff.rfl
  rw [← nI_00, nI_inj (by omega) (by decide), nI_inj (by omega) (by decide)]
theorem rz_tick (h : RZ S N Y t D a b) : RZ (K_tick S) N Y t (D + nI 1) a b := by
  obtain ⟨hv, h6, hI, hs, hd, hB, ⟨f1, f2, f3, f4⟩, hY⟩ := h
  refine ⟨hv, h6, hI, hs, hd, fun i hi b hb => ?_, ⟨?_, f2, f3, ?_⟩, hY⟩
  · obtain ⟨b1, b2⟩ := hB i hi b hb
    exact ⟨b1.trans (congrArg nI (cntB_congr (S := S) (S' := K_tick S) i b (fun j => rfl) _).symm), b2.trans (penB_congr (S := S) (S' := K_tick S) i b (fun j => rfl) (fun v => rfl) _).symm⟩
  · show D + nI 1 = su S 0 0 _ 0 0 0
    rw [su_self, upd_self, f1]
  · have e := sgN_congr (S := S) (S' := K_tick S) (fun i => rfl) (N 0 0 0)
    rw [e]
    exact f4
/-- the terms of those that wait, one day later -/
theorem rz_puts (h : RZ S N Y t D a b) (ht : ∀ j, j < N 5 0 0 → t' j = t j + (if isHeld S N j then nI 1 else nI 0)) : RZ (K_put S N (N 5 0 0)) N Y t' D a b := by
  obtain ⟨hv, h6, hI, hs, hd, hB, ⟨f1, f2, f3, f4⟩, hY⟩ := h
  have row : ∀ a, ¬ a = 9 → K_put S N (N 5 0 0) a = S a := fun a h9 => put_row _ _ a h9 _
  have r90 : ∀ k, K_put S N (N 5 0 0) 9 k 0 = S 9 k 0 := fun k => put_0 _ _ k _
  refine ⟨fun d hd' => ?_, h6, fun i hi => ?_, fun i hi => ?_, fun j hj => ?_, fun i hi b hb => ?_, ⟨?_, f2, f3, ?_⟩, hY⟩
  · unfold isV pV
    rw [row 1 (by decide), row 2 (by decide), row 3 (by decide)]
    exact hv d hd'
  · rw [row 4 (by decide), row 5 (by decide)]
    exact hI i hi
  · rw [row 6 (by decide)]
    exact hs i hi
  · obtain ⟨d1, d2, d3, d4, d5, d6⟩ := hd j hj
    unfold isV pD
    rw [row 3 (by decide), r90, put_1, ht j hj, d4]
    refine ⟨d1, d2, d3, ?_, d5, d6⟩
    by_cases hq : isHeld S N j
    · rw [if_pos hq, if_pos ⟨hj, hq⟩]
    · rw [if_neg hq, if_neg (fun q => hq q.2)]
  · obtain ⟨b1, b2⟩ := hB i hi b hb
    have c1 : cntB (K_put S N (N 5 0 0)) N i b (N 5 0 0) = cntB S N i b (N 5 0 0) := cntB_congr3 i b _ (fun k hk => r90 k)
    have c2 : penB (K_put S N (N 5 0 0)) N i b (N 5 0 0) = penB S N i b (N 5 0 0) := penB_congr3 i b (row 3 (by decide)) _ (fun k hk => r90 k)
    rw [c1, c2, row 7 (by decide), row 8 (by decide)]
    exact ⟨b1, b2⟩
  · rw [row 0 (by decide)]
    exact f1
  · have e := sgN_congr (S := S) (S' := K_put S N (N 5 0 0)) (fun i => by rw [row 6 (by decide)]) (N 0 0 0)
    rw [e]
    exact f4
/-- penalties as numbers -/
theorem pen_N (h : RZ S N Y t D a b) (hN : okS N) (i o : Nat) : ∀ n, n ≤ N 5 0 0 → ∃ k, k ≤ 1000 * n ∧ penB S N i o n = nI k
  | 0, _ => ⟨0, Nat.le_refl _, nI_00.symm⟩
  | n + 1, hn => by
    obtain ⟨k, h1, h2⟩ := pen_N h hN i o n (by omega)
    obtain ⟨-, ⟨-, -, ⟨e3, e4⟩⟩, -⟩ := h.2.2.2.2.1 n (by omega)
    simp only [penB]
    rw [h2]
    split
    · exact ⟨k + ix (S 3 (N 3 n 1) 3), by omega, by rw [← nI_add, ← e3]⟩
    · exact ⟨k, by omega, Int32.add_zero _⟩
end RZ3

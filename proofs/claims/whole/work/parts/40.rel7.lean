/-! sign -/
def JJm (q : Nat) (u : CS) (v : MS) : Prop := (v.1 1 = u.1 0 0 0 ∧ v.2.1 9 = u.2 0 0 0 ∧ v.2.1 14 = u.2 5 0 0 ∧ u.2 5 0 0 + q ≤ 10 * sgN u.1 (u.2 0 0 0)) ∧ jV u.1 u.2 v.2.2.1 v.2.2.2 ∧ jI u.1 u.2 v.2.2.1 v.2.2.2 ∧ jS u.1 u.2 v.2.2.1 ∧ jD u.1 u.2 v.2.2.1 v.2.2.2 ∧ jB u.1 u.2
theorem JJm_0 {u : CS} {v : MS} (h : JJm 0 u v) : JJ u v := h
theorem JJm_le {q q' : Nat} {u : CS} {v : MS} (h : JJm q u v) (hq : q' ≤ q) : JJm q' u v := ⟨⟨h.1.1, h.1.2.1, h.1.2.2.1, Nat.le_trans (Nat.add_le_add_left hq _) h.1.2.2.2⟩, h.2⟩
section JW6
variable {S : SS} {N : NN} {F : Nat → Int32} {C : Nat → Nat} {R : Nat → Nat → Int32} {T : Nat → Nat → Nat}
theorem JJ_put {q i c : Nat} (h : JJm (q + 1) (S, N) (F, C, R, T)) (hi : i < N 0 0 0) (hc : c < 10) (h0 : ¬ N 2 i c = 0) (hle : N 2 i c ≤ N 1 0 c) :
    JJm q (S_dut S (N 5 0 0) (S 0 0 0 + S 3 (9 * c + N 2 i c - 1) 1), N_dut N i (9 * c + N 2 i c - 1)) (M_mdPut i (9 * c + N 2 i c - 1) (F, C, R, T)) := by
  obtain ⟨⟨f1, f2, f3, f4⟩, hv, hI, hs, hd, hB⟩ := h
  have f3' : C 14 = N 5 0 0 := f3
  have f1' : F 1 = S 0 0 0 := f1
  have f4' : N 5 0 0 + (q + 1) ≤ 10 * sgN S (N 0 0 0) := f4
  obtain ⟨v1, v2, v3, v4⟩ := hv c hc
  have ev : 9 * c + N 2 i c - 1 = 9 * c + (N 2 i c - 1) := by omega
  have w := v4 (N 2 i c - 1) (show N 2 i c - 1 < N 1 0 c by omega)
  rw [← ev] at w
  obtain ⟨w3, w4, w5, w6⟩ := w
  generalize hvv : 9 * c + N 2 i c - 1 = vv at *
  have s9 : S_dut S (N 5 0 0) (S 0 0 0 + S 3 vv 1) 9 (N 5 0 0) = upd (upd (S 9 (N 5 0 0)) 0 (nI 0)) 1 (S 0 0 0 + S 3 vv 1) := by
    unfold S_dut
    rw [su_ne (fun z => absurd z.1 (by decide)), su_self]
  have n30 : N_dut N i vv 3 (N 5 0 0) 0 = i := by rw [N_dut_3i, va_up_ne _ _ (by decide), va_up_self]
  have n31 : N_dut N i vv 3 (N 5 0 0) 1 = vv := by rw [N_dut_3i, va_up_self]
  unfold M_mdPut
  rw [show (F, C, R, T).2.1 14 = N 5 0 0 from f3]
  refine ⟨⟨f1, f2, ?_, ?_⟩, hv, hI, hs, ⟨fun j hj => ?_, fun j h1 h2 => ?_⟩, fun k hk b hb => ?_⟩
  · show va_up C 14 (N 5 0 0 + 1) 14 = N 5 0 0 + 1
    exact va_up_self _ _ _
  · have e := sgN_congr (S := S) (S' := S_dut S (N 5 0 0) (S 0 0 0 + S 3 vv 1)) (fun i => rfl) (N 0 0 0)
    show N 5 0 0 + 1 + q ≤ 10 * sgN (S_dut S (N 5 0 0) (S 0 0 0 + S 3 vv 1)) (N 0 0 0)
    rw [e]
    omega
  · show va_up (T 15) (N 5 0 0) i j = N_dut N i vv 3 j 0 ∧ upd (R 16) (N 5 0 0) (R 3 vv) j = nI (N 4 (N_dut N i vv 3 j 1) 0) ∧ upd (R 17) (N 5 0 0) (R 5 vv) j = S 3 (N_dut N i vv 3 j 1) 2 ∧ upd (R 18) (N 5 0 0) (R 6 vv) j = S 3 (N_dut N i vv 3 j 1) 3 ∧ upd (R 19) (N 5 0 0) (nI 0) j = S_dut S (N 5 0 0) (S 0 0 0 + S 3 vv 1) 9 j 0 ∧ upd (R 20) (N 5 0 0) (F 1 + R 4 vv) j = S_dut S (N 5 0 0) (S 0 0 0 + S 3 vv 1) 9 j 1 ∧ (∃ c n, c < 10 ∧ n < N 1 0 c ∧ N_dut N i vv 3 j 1 = 9 * c + n) ∧ N_dut N i vv 3 j 0 < N 0 0 0
    by_cases e : j = N 5 0 0
    · subst e
      rw [n30, n31, s9, va_up_self, upd_self, upd_self, upd_self, upd_self, upd_self]
      refine ⟨rfl, w3, w5, w6, ?_, ?_, ⟨c, N 2 i c - 1, hc, by show N 2 i c - 1 < N 1 0 c; omega, by omega⟩, hi⟩
      · simp [upd]
      · rw [f1', show R 4 vv = S 3 vv 1 from w4]
        simp [upd]
    · have hj' : j < N 5 0 0 := by
        have : j < N 5 0 0 + 1 := hj
        omega
      rw [N_dut_3 e, S_dut_9 e, va_up_ne _ _ e, upd_ne e, upd_ne e, upd_ne e, upd_ne e, upd_ne e]
      exact hd.1 j hj'
  · show va_up (T 15) (N 5 0 0) i j = 0
    have h1' : N 5 0 0 + 1 ≤ j := h1
    rw [va_up_ne _ _ (show ¬ j = N 5 0 0 by omega)]
    exact hd.2 j (show N 5 0 0 ≤ j by omega) h2
  · obtain ⟨b1, b2⟩ := hB k hk b hb
    have c1 : cntB (S_dut S (N 5 0 0) (S 0 0 0 + S 3 vv 1)) (N_dut N i vv) k b (N 5 0 0) = cntB S N k b (N 5 0 0) := cntB_congr2 k b _ (fun j hj => ⟨N_dut_3 (Nat.ne_of_lt hj), rfl, S_dut_9 (Nat.ne_of_lt hj)⟩)
    have c2 : penB (S_dut S (N 5 0 0) (S 0 0 0 + S 3 vv 1)) (N_dut N i vv) k b (N 5 0 0) = penB S N k b (N 5 0 0) := penB_congr2 k b _ (fun j hj => ⟨N_dut_3 (Nat.ne_of_lt hj), rfl, S_dut_9 (Nat.ne_of_lt hj), rfl⟩)
    have hno : ¬ S_dut S (N 5 0 0) (S 0 0 0 + S 3 vv 1) 9 (N 5 0 0) 0 = nI 3 := by
      rw [s9]
      simp [upd]
      decide
    refine ⟨?_, ?_⟩
    · show S 7 k b = nI (cntB (S_dut S (N 5 0 0) (S 0 0 0 + S 3 vv 1)) (N_dut N i vv) k b (N 5 0 0 + 1))
      simp only [cntB]
      rw [c1, if_neg (fun z => hno z.2.2), Nat.add_zero]
      exact b1
    · show S 8 k b = penB (S_dut S (N 5 0 0) (S 0 0 0 + S 3 vv 1)) (N_dut N i vv) k b (N 5 0 0 + 1)
      simp only [penB]
      rw [c2, if_neg (fun z => hno z.2.2), Int32.add_zero]
      exact b2
/-- the numbers that no new duty touches -/
def sameN (N N' : NN) : Prop := N' 0 0 0 = N 0 0 0 ∧ N' 1 = N 1 ∧ N' 2 = N 2
theorem JJ_mkD {i : Nat} {v : MS} (h : JJm 10 (S, N) v) (hi : i < N 0 0 0) (hi10 : i < 10) (hle : ∀ c, c < 10 → N 2 i c ≤ N 1 0 c) : ∀ c, c ≤ 10 → JJm (10 - c) (K_mkD S N i c) (M_md i v c).1 ∧ K_made S N i c = (M_md i v c).2 ∧ sameN N (K_mkD S N i c).2 ∧ (K_mkD S N i c).1 4 = S 4 ∧ (K_mkD S N i c).1 5 = S 5 ∧ (M_md i v c).1.1 = v.1
  | 0, _ => ⟨h, rfl, ⟨rfl, rfl, rfl⟩, rfl, rfl, rfl⟩
  | c + 1, hc => by
    obtain ⟨ih, im, ⟨n0, n1, n2⟩, s4, s5, iF⟩ := JJ_mkD h hi hi10 hle c (by omega)
    have hI := (ih.2.2.1 i hi10 c (by omega)).1
    show JJm (10 - (c + 1)) (stepD i c (K_mkD S N i c)) (M_md i v (c + 1)).1 ∧ (if (K_mkD S N i c).2 2 i c = 0 then K_made S N i c else K_made S N i c + 1) = (M_md i v (c + 1)).2 ∧ sameN N (stepD i c (K_mkD S N i c)).2 ∧ (stepD i c (K_mkD S N i c)).1 4 = S 4 ∧ (stepD i c (K_mkD S N i c)).1 5 = S 5 ∧ (M_md i v (c + 1)).1.1 = v.1
    have eM : M_md i v (c + 1) = if (M_md i v c).1.2.2.2 12 (10 * i + c) = 0 then M_md i v c else (M_mdPut i (9 * c + (M_md i v c).1.2.2.2 12 (10 * i + c) - 1) (M_md i v c).1, (M_md i v c).2 + 1) := rfl
    rw [eM, hI]
    unfold stepD
    generalize K_mkD S N i c = u at *
    generalize (M_md i v c) = w at *
    obtain ⟨S1, N1⟩ := u
    obtain ⟨⟨F1, C1, R1, T1⟩, k1⟩ := w
    have n0' : N1 0 0 0 = N 0 0 0 := n0
    have n1' : N1 1 = N 1 := n1
    have n2' : N1 2 = N 2 := n2
    by_cases h0 : N1 2 i c = 0
    · rw [if_pos h0, if_pos h0, if_pos h0]
      exact ⟨JJm_le ih (by omega), im, ⟨n0, n1, n2⟩, s4, s5, iF⟩
    · rw [if_neg h0, if_neg h0, if_neg h0]
      refine ⟨JJ_put (q := 10 - (c + 1)) (by rw [show 10 - (c + 1) + 1 = 10 - c by omega]; exact ih) (show i < N1 0 0 0 by rw [n0']; exact hi) (by omega) h0 (show N1 2 i c ≤ N1 1 0 c by rw [n1', n2']; exact hle c (by omega)), congrArg (· + 1) im, ⟨n0, n1, n2⟩, s4, s5, iF⟩
theorem sgN_sgn {S' : SS} {i : Nat} (hd : isDr S i) (hd' : ¬ isDr S' i) (h : ∀ j, ¬ j = i → S' 6 j = S 6 j) : ∀ n, sgN S' n = sgN S n + (if i < n then 1 else 0)
  | 0 => rfl
  | n + 1 => by
    have ih := sgN_sgn hd hd' h n
    simp only [sgN]
    by_cases e : n = i
    · subst e
      rw [if_neg (Nat.lt_irrefl _)] at ih
      rw [ih, if_neg hd', if_pos hd, if_pos (Nat.lt_succ_self _)]
    · have e2 : isDr S' n ↔ isDr S n := by unfold isDr; rw [h n e]
      by_cases h1 : i < n
      · rw [if_pos h1] at ih
        rw [ih, if_pos (show i < n + 1 by omega)]
        by_cases h2 : isDr S n
        · rw [if_pos h2, if_pos (e2.mpr h2)]
        · rw [if_neg h2, if_neg (fun q => h2 (e2.mp q))]
      · rw [if_neg h1] at ih
        rw [ih, if_neg (show ¬ i < n + 1 by omega)]
        by_cases h2 : isDr S n
        · rw [if_pos h2, if_pos (e2.mpr h2)]
        · rw [if_neg h2, if_neg (fun q => h2 (e2.mp q))]
theorem sgN_le (S : SS) : ∀ n, sgN S n ≤ n
  | 0 => Nat.le_refl _
  | n + 1 => by
    have := sgN_le S n
    simp only [sgN]
    split <;> omega
theorem sgN_dr {i : Nat} (hd : isDr S i) : ∀ n, i < n → sgN S n + 1 ≤ n
  | 0, h => absurd h (Nat.not_lt_zero _)
  | n + 1, h => by
    simp only [sgN]
    by_cases e : n = i
    · subst e
      rw [if_pos hd]
      have := sgN_le S n
      omega
    · have := sgN_dr hd n (by omega)
      split <;> omega
theorem dr_bound {u : CS} {v : MS} (h : JJ u v) (hN : okS u.2) {i : Nat} (hi : i < u.2 0 0 0) (hd : isDr u.1 i) : u.2 5 0 0 + 10 ≤ 100 := by
  have h1 := h.1.2.2.2
  have h2 := sgN_dr hd _ hi
  have h3 := hN.2.2.2.1
  omega
/-- the signature of one side -/
theorem JJ_sg {i y' : Nat} {R' : Nat → Nat → Int32} (h : JJ (S, N) (F, C, R, T)) (hi : i < N 0 0 0) (hi10 : i < 10) {sd : Nat} (hsd : sd < 2)
    (hf : R' 11 i = (if S_sgn S i sd 6 i 0 = nI 0 then nI 0 else nI 1) + (if S_sgn S i sd 6 i 1 = nI 0 then nI 0 else nI 2)) (hdr : R' 10 i = if isDr (S_sgn S i sd) i then nI 0 else nI 1) (r11 : ∀ j, ¬ j = i → R' 11 j = R 11 j) (r10 : ∀ j, ¬ j = i → R' 10 j = R 10 j) (rk : ∀ k, ¬ k = 10 → ¬ k = 11 → R' k = R k)
    (hq : N 5 0 0 + y' ≤ 10 * sgN (S_sgn S i sd) (N 0 0 0)) : JJm y' (S_sgn S i sd, N) (F, C, R', T) := by
  obtain ⟨⟨f1, f2, f3, f4⟩, hv, hI, hs, hd, hB⟩ := h
  have e6 : S_sgn S i sd 6 i = upd (S 6 i) sd (nI 1) := su_self _ _ _ _
  have ene : ∀ j, ¬ j = i → S_sgn S i sd 6 j = S 6 j := fun j e => su_ne (fun z => e z.2)
  refine ⟨⟨f1, f2, f3, hq⟩, fun d hd' => ?_, fun j hj d hd' => ?_, fun j hj => ?_, ⟨fun j hj => ?_, hd.2⟩, fun j hj b hb => ?_⟩
  · obtain ⟨v1, v2, v3, v4⟩ := hv d hd'
    show T 2 d = N 1 0 d ∧ R' 7 d = S 1 0 d ∧ R' 8 d = S 2 0 d ∧ ∀ m, m < N 1 0 d → R' 3 (9 * d + m) = nI (N 4 (9 * d + m) 0) ∧ R' 4 (9 * d + m) = S 3 (9 * d + m) 1 ∧ R' 5 (9 * d + m) = S 3 (9 * d + m) 2 ∧ R' 6 (9 * d + m) = S 3 (9 * d + m) 3
    rw [rk 7 (by decide) (by decide), rk 8 (by decide) (by decide), rk 3 (by decide) (by decide), rk 4 (by decide) (by decide), rk 5 (by decide) (by decide), rk 6 (by decide) (by decide)]
    exact ⟨v1, v2, v3, v4⟩
  · obtain ⟨i1, i2, i3, i4⟩ := hI j hj d hd'
    show T 12 (10 * j + d) = N 2 j d ∧ (¬ N 2 j d = 0 → R' 13 (2 * (10 * j + d)) = S 4 j d ∧ R' 13 (2 * (10 * j + d) + 1) = S 5 j d) ∧ (N 2 j d = 0 → R' 13 (2 * (10 * j + d)) = nI 0 ∧ R' 13 (2 * (10 * j + d) + 1) = nI 0) ∧ (N 0 0 0 ≤ j → N 2 j d = 0)
    rw [rk 13 (by decide) (by decide)]
    exact ⟨i1, i2, i3, i4⟩
  · obtain ⟨s1, s2, s3, s4, s5⟩ := hs j hj
    show (S_sgn S i sd 6 j 0 = nI 0 ∨ S_sgn S i sd 6 j 0 = nI 1) ∧ (S_sgn S i sd 6 j 1 = nI 0 ∨ S_sgn S i sd 6 j 1 = nI 1) ∧ R' 11 j = (if S_sgn S i sd 6 j 0 = nI 0 then nI 0 else nI 1) + (if S_sgn S i sd 6 j 1 = nI 0 then nI 0 else nI 2) ∧ R' 10 j = (if isDr (S_sgn S i sd) j then nI 0 else nI 1) ∧ (N 0 0 0 ≤ j → S_sgn S i sd 6 j 0 = nI 0 ∧ S_sgn S i sd 6 j 1 = nI 0)
    by_cases e : j = i
    · subst e
      refine ⟨?_, ?_, hf, hdr, fun q => absurd q (by omega)⟩
      · rw [e6]
        by_cases e0 : 0 = sd
        · exact Or.inr (by rw [← e0]; exact upd_self _ _ _)
        · rw [upd_ne e0]; exact s1
      · rw [e6]
        by_cases e0 : 1 = sd
        · exact Or.inr (by rw [← e0]; exact upd_self _ _ _)
        · rw [upd_ne e0]; exact s2
    · have hj2 : isDr (S_sgn S i sd) j ↔ isDr S j := by unfold isDr; rw [ene j e]
      refine ⟨by rw [ene j e]; exact s1, by rw [ene j e]; exact s2, by rw [r11 j e, ene j e]; exact s3, ?_, fun q => by rw [ene j e]; exact s5 q⟩
      rw [r10 j e]
      by_cases hz : isDr S j
      · rw [if_pos (hj2.mpr hz)]; exact (show R 10 j = _ from s4).trans (if_pos hz)
      · rw [if_neg (fun q => hz (hj2.mp q))]; exact (show R 10 j = _ from s4).trans (if_neg hz)
  · obtain ⟨d1, d2, d3, d4, d5, d6, d7, d8⟩ := hd.1 j hj
    show T 15 j = N 3 j 0 ∧ R' 16 j = nI (N 4 (N 3 j 1) 0) ∧ R' 17 j = S 3 (N 3 j 1) 2 ∧ R' 18 j = S 3 (N 3 j 1) 3 ∧ R' 19 j = S 9 j 0 ∧ R' 20 j = S 9 j 1 ∧ (∃ c n, c < 10 ∧ n < N 1 0 c ∧ N 3 j 1 = 9 * c + n) ∧ N 3 j 0 < N 0 0 0
    rw [rk 16 (by decide) (by decide), rk 17 (by decide) (by decide), rk 18 (by decide) (by decide), rk 19 (by decide) (by decide), rk 20 (by decide) (by decide)]
    exact ⟨d1, d2, d3, d4, d5, d6, d7, d8⟩
  · obtain ⟨b1, b2⟩ := hB j hj b hb
    have c1 : cntB (S_sgn S i sd) N j b (N 5 0 0) = cntB S N j b (N 5 0 0) := cntB_congr2 j b _ (fun k hk => ⟨rfl, rfl, rfl⟩)
    have c2 : penB (S_sgn S i sd) N j b (N 5 0 0) = penB S N j b (N 5 0 0) := penB_congr2 j b _ (fun k hk => ⟨rfl, rfl, rfl, rfl⟩)
    exact ⟨b1.trans (congrArg nI c1.symm), b2.trans c2.symm⟩
end JW6
section JW7
variable {S : SS} {N : NN} {F : Nat → Int32} {C : Nat → Nat} {R : Nat → Nat → Int32} {T : Nat → Nat → Nat}
theorem md_F (i : Nat) (v : MS) : ∀ c, (M_md i v c).1.1 = v.1
  | 0 => rfl
  | c + 1 => by
    have ih := md_F i v c
    show (if (M_md i v c).1.2.2.2 12 (10 * i + c) = 0 then M_md i v c else (M_mdPut i (9 * c + (M_md i v c).1.2.2.2 12 (10 * i + c) - 1) (M_md i v c).1, (M_md i v c).2 + 1)).1.1 = v.1
    split <;> exact ih
theorem j_sign (h : JJ (S, N) (F, C, R, T)) (hN : okS N) (hM : jM (S, N)) (a b : Int32) : Jop S N (V_sign S N a b) (if isDr (S_sgn S (ix a) (ix b)) (ix a) then nI 0 else nI (K_made (S_sgn S (ix a) (ix b)) N (ix a) 10)) (if isDr (S_sgn S (ix a) (ix b)) (ix a) then (S_sgn S (ix a) (ix b), N) else K_mkD (S_sgn S (ix a) (ix b)) N (ix a) 10) (M_sign F C R T a b).1 (M_sign F C R T a b).2 ∧ (V_sign S N a b = 0 → jM (if isDr (S_sgn S (ix a) (ix b)) (ix a) then (S_sgn S (ix a) (ix b), N) else K_mkD (S_sgn S (ix a) (ix b)) N (ix a) 10)) := by
  unfold M_sign V_sign
  by_cases ha : isCt N 0 a
  · rw [if_pos ha, if_pos ((isC_iff h a).1.mpr ha)]
    by_cases hb : isSd b
    · rw [if_pos hb, if_pos hb]
      obtain ⟨i, hi, rfl, ei⟩ := ct_ix (n := N 0 0 0) (by have := hN.2.2.2.1; omega) ha
      obtain ⟨sd, hsd, rfl, es⟩ := sd_ix hb
      have hi10 : i < 10 := by have := hN.2.2.2.1; omega
      rw [ei, es, obst_eq h hi10]
      by_cases h1 : K_obst S N i = 0
      · rw [if_pos h1]
        have hdr := K_obst_dr h1
        obtain ⟨s1, s2, s3, s4, s5⟩ := h.2.2.2.1 i hi10
        have s1' : S 6 i 0 = nI 0 ∨ S 6 i 0 = nI 1 := s1
        have s2' : S 6 i 1 = nI 0 ∨ S 6 i 1 = nI 1 := s2
        have s3' : R 11 i = (if S 6 i 0 = nI 0 then nI 0 else nI 1) + (if S 6 i 1 = nI 0 then nI 0 else nI 2) := s3
        have hf4 : N 5 0 0 ≤ 10 * sgN S (N 0 0 0) := h.1.2.2.2
        have e6 : S_sgn S i sd 6 i = upd (S 6 i) sd (nI 1) := su_self _ _ _ _
        have ene : ∀ j, ¬ j = i → S_sgn S i sd 6 j = S 6 j := fun j e => su_ne (fun z => e z.2)
        by_cases h2 : S 6 i sd = 0
        · rw [if_pos ⟨h1, h2⟩]
          have bitno : ¬ (R 11 i >>> (nI sd &&& 31)) &&& nI 1 = nI 1 := by
            rw [s3']
            rcases (show sd = 0 ∨ sd = 1 by omega) with rfl | rfl
            · rw [if_pos (h2.trans nI_00.symm)]
              rcases s2' with q | q
              · rw [q]; decide
              · rw [q]; decide
            · rw [if_pos (h2.trans nI_00.symm)]
              rcases s1' with q | q
              · rw [q]; decide
              · rw [q]; decide
          rw [if_neg bitno]
          by_cases h3 : isDr (S_sgn S i sd) i
          · have hx : ¬ R 11 i ||| nI 1 <<< (nI sd &&& 31) = nI 3 ∧ R 11 i ||| nI 1 <<< (nI sd &&& 31) = (if S_sgn S i sd 6 i 0 = nI 0 then nI 0 else nI 1) + (if S_sgn S i sd 6 i 1 = nI 0 then nI 0 else nI 2) := by
              unfold isDr at h3
              rw [e6] at h3 ⊢
              rw [s3']
              rcases (show sd = 0 ∨ sd = 1 by omega) with rfl | rfl
              · rw [upd_self, upd_ne (by decide : ¬ (1 : Nat) = 0)] at h3 ⊢
                have q : S 6 i 1 = nI 0 := (h3.resolve_left (by decide)).trans nI_00.symm
                rw [q, if_pos (h2.trans nI_00.symm)]
                decide
              · rw [upd_self, upd_ne (by decide : ¬ (0 : Nat) = 1)] at h3 ⊢
                have q : S 6 i 0 = nI 0 := (h3.resolve_right (by decide)).trans nI_00.symm
                rw [q, if_pos (h2.trans nI_00.symm)]
                decide
            rw [if_neg hx.1, if_pos h3, if_pos h3]
            have hsg : sgN (S_sgn S i sd) (N 0 0 0) = sgN S (N 0 0 0) := sgN_congr3 _ (fun j _ => by
              by_cases e : j = i
              · subst e; exact ⟨fun _ => hdr, fun _ => h3⟩
              · unfold isDr; rw [ene j e])
            refine ⟨Jop_ok rfl (up0 F _) rfl (JJ_F _ (JJm_0 (JJ_sg (y' := 0) h hi hi10 hsd ?_ ?_ (fun j hj => ?_) (fun j hj => ?_) (fun k k1 k2 => ?_) (by rw [hsg]; exact hf4)))), fun _ => hM⟩
            · rw [va_up_self, upd_self]; exact hx.2
            · rw [va_up_ne _ _ (by decide : ¬ (10 : Nat) = 11), if_pos h3]; exact (show R 10 i = _ from s4).trans (if_pos hdr)
            · rw [va_up_self]; exact upd_ne hj
            · rw [va_up_ne _ _ (by decide : ¬ (10 : Nat) = 11)]
            · exact va_up_ne _ _ k2
          · have hx : R 11 i ||| nI 1 <<< (nI sd &&& 31) = nI 3 ∧ nI 3 = (if S_sgn S i sd 6 i 0 = nI 0 then nI 0 else nI 1) + (if S_sgn S i sd 6 i 1 = nI 0 then nI 0 else nI 2) := by
              unfold isDr at h3
              rw [e6] at h3 ⊢
              rw [s3']
              rcases (show sd = 0 ∨ sd = 1 by omega) with rfl | rfl
              · rw [upd_self, upd_ne (by decide : ¬ (1 : Nat) = 0)] at h3 ⊢
                have q : S 6 i 1 = nI 1 := s2'.resolve_left (fun q => h3 (Or.inr (q.trans nI_00)))
                rw [q, if_pos (h2.trans nI_00.symm)]
                decide
              · rw [upd_self, upd_ne (by decide : ¬ (0 : Nat) = 1)] at h3 ⊢
                have q : S 6 i 0 = nI 1 := s1'.resolve_left (fun q => h3 (Or.inl (q.trans nI_00)))
                rw [q, if_pos (h2.trans nI_00.symm)]
                decide
            rw [if_pos hx.1, if_neg h3, if_neg h3]
            have hsg : sgN (S_sgn S i sd) (N 0 0 0) = sgN S (N 0 0 0) + 1 := by
              rw [sgN_sgn hdr h3 ene, if_pos hi]
            rw [hx.1]
            have z0 : JJm 10 (S_sgn S i sd, N) (va_up F 0 (nI 0), C, va_up (va_up R 11 (upd (R 11) i (nI 3))) 10 (upd (R 10) i (nI 1)), T) := by
              refine JJ_sg (y' := 10) (JJ_F (nI 0) h) hi hi10 hsd ?_ ?_ (fun j hj => ?_) (fun j hj => ?_) (fun k k1 k2 => ?_) (by rw [hsg]; omega)
              · rw [va_up_ne _ _ (by decide : ¬ (11 : Nat) = 10), va_up_self, upd_self]; exact hx.2
              · rw [va_up_self, upd_self, if_neg h3]
              · rw [va_up_ne _ _ (by decide : ¬ (11 : Nat) = 10), va_up_self]; exact upd_ne hj
              · rw [va_up_self]; exact upd_ne hj
              · rw [va_up_ne _ _ k1, va_up_ne _ _ k2]
            obtain ⟨z1, z2, z3, z4, z5, z6⟩ := JJ_mkD z0 hi hi10 (fun c hc => hN.1 i c hi hc) 10 (Nat.le_refl _)
            have z7 : (M_md i (va_up F 0 (nI 0), C, va_up (va_up R 11 (upd (R 11) i (nI 3))) 10 (upd (R 10) i (nI 1)), T) 10).1.1 0 = nI 0 := (congrFun z6 0).trans (up0 F _)
            clear z6
            generalize M_md i (va_up F 0 (nI 0), C, va_up (va_up R 11 (upd (R 11) i (nI 3))) 10 (upd (R 10) i (nI 1)), T) 10 = w at z1 z2 z7 ⊢
            generalize K_mkD (S_sgn S i sd) N i 10 = uu at z1 z3 z4 z5 ⊢
            generalize K_made (S_sgn S i sd) N i 10 = kk at z2 ⊢
            refine ⟨Jop_ok rfl z7 (congrArg nI z2.symm) (JJm_0 z1), fun _ j hj c hc hq => ?_⟩
            rw [z4, z5]
            have e2 := z3.2.2
            rw [e2] at hq
            exact hM j hj c hc hq
        · rw [if_neg (fun q => h2 q.2)]
          have bityes : (R 11 i >>> (nI sd &&& 31)) &&& nI 1 = nI 1 := by
            rw [s3']
            rcases (show sd = 0 ∨ sd = 1 by omega) with rfl | rfl
            · rw [if_neg (fun q => h2 (q.trans nI_00))]
              rcases s2' with q | q
              · rw [q]; decide
              · rw [q]; decide
            · rw [if_neg (c := S 6 i 1 = nI 0) (fun q => h2 (q.trans nI_00))]
              rcases s1' with q | q
              · rw [q]; decide
              · rw [q]; decide
          rw [if_pos bityes]
          exact ⟨Jop_no 3 rfl (by decide) h, fun q => absurd q (by decide)⟩
      · rw [if_neg h1, if_neg (fun q => h1 q.1)]
        exact ⟨Jop_no 3 rfl (by decide) h, fun q => absurd q (by decide)⟩
    · rw [if_neg hb, if_neg hb]
      exact ⟨Jop_no 2 rfl (by decide) h, fun q => absurd q (by decide)⟩
  · rw [if_neg ha, if_neg (fun q => ha ((isC_iff h a).1.mp q))]
    exact ⟨Jop_no 1 rfl (by decide) h, fun q => absurd q (by decide)⟩
end JW7

/-! begin, issue, renew, mark -/
theorem cntB_congr2 {S S' : SS} {N N' : NN} (i b : Nat) : ∀ n, (∀ j, j < n → N' 3 j = N 3 j ∧ N' 4 (N 3 j 1) 0 = N 4 (N 3 j 1) 0 ∧ S' 9 j = S 9 j) → cntB S' N' i b n = cntB S N i b n
  | 0, _ => rfl
  | n + 1, h => by
    obtain ⟨h1, h2, h3⟩ := h n (Nat.lt_succ_self _)
    simp only [cntB]
    rw [cntB_congr2 i b n (fun j hj => h j (by omega)), h1, h2, h3]
theorem penB_congr2 {S S' : SS} {N N' : NN} (i b : Nat) : ∀ n, (∀ j, j < n → N' 3 j = N 3 j ∧ N' 4 (N 3 j 1) 0 = N 4 (N 3 j 1) 0 ∧ S' 9 j = S 9 j ∧ S' 3 (N 3 j 1) = S 3 (N 3 j 1)) → penB S' N' i b n = penB S N i b n
  | 0, _ => rfl
  | n + 1, h => by
    obtain ⟨h1, h2, h3, h4⟩ := h n (Nat.lt_succ_self _)
    simp only [penB]
    rw [penB_congr2 i b n (fun j hj => h j (by omega)), h1, h2, h3, h4]
theorem cntB_zero {S : SS} {N : NN} (i b : Nat) : ∀ n, (∀ j, j < n → ¬ N 3 j 0 = i) → cntB S N i b n = 0
  | 0, _ => rfl
  | n + 1, h => by
    simp only [cntB]
    rw [cntB_zero i b n (fun j hj => h j (by omega)), if_neg (fun q => h n (Nat.lt_succ_self _) q.1)]
theorem penB_zero {S : SS} {N : NN} (i b : Nat) : ∀ n, (∀ j, j < n → ¬ N 3 j 0 = i) → penB S N i b n = 0
  | 0, _ => rfl
  | n + 1, h => by
    simp only [penB]
    rw [penB_zero i b n (fun j hj => h j (by omega)), if_neg (fun q => h n (Nat.lt_succ_self _) q.1), Int32.add_zero]
theorem sgN_congr2 {S S' : SS} : ∀ n, (∀ i, i < n → S' 6 i 0 = S 6 i 0 ∧ S' 6 i 1 = S 6 i 1) → sgN S' n = sgN S n
  | 0, _ => rfl
  | n + 1, h => by
    obtain ⟨h1, h2⟩ := h n (Nat.lt_succ_self _)
    simp only [sgN, isDr]
    rw [sgN_congr2 n (fun i hi => h i (by omega)), h1, h2]
/-- an item is in for one side at least -/
def jM (u : CS) : Prop := ∀ i, i < 10 → ∀ c, c < 10 → ¬ u.2 2 i c = 0 → u.1 4 i c = nI 1 ∨ u.1 5 i c = nI 1
section JW2
variable {S : SS} {N : NN} {F : Nat → Int32} {C : Nat → Nat} {R : Nat → Nat → Int32} {T : Nat → Nat → Nat}
theorem beg_6 (hs : jS S N R) {i : Nat} (hi : i < 10) : S_beg S (N 0 0 0) 6 i 0 = S 6 i 0 ∧ S_beg S (N 0 0 0) 6 i 1 = S 6 i 1 := by
  by_cases e : i = N 0 0 0
  · have h1 := (hs i hi).2.2.2.2 (Nat.le_of_eq e.symm)
    have h2 : S_beg S (N 0 0 0) 6 i = fun _ => nI 0 := by
      rw [e]
      unfold S_beg
      rw [su_ne (fun z => absurd z.1 (by decide)), su_ne (fun z => absurd z.1 (by decide)), su_ne (fun z => absurd z.1 (by decide)), su_self]
    rw [h2, h1.1, h1.2]
    exact ⟨rfl, rfl⟩
  · rw [S_beg_ne e (by decide)]
    exact ⟨rfl, rfl⟩
theorem j_begin (h : JJ (S, N) (F, C, R, T)) (hN : okS N) : Jop S N (V_begin N) (nI (N 0 0 0)) (S_beg S (N 0 0 0), N_beg N (N 0 0 0)) (M_begin F C R T).1 (M_begin F C R T).2 := by
  unfold M_begin V_begin
  have h9 : C 9 = N 0 0 0 := h.1.2.1
  have hle := hN.2.2.2.1
  by_cases h10 : N 0 0 0 < 10
  · rw [if_pos h10, if_neg (by omega)]
    refine Jop_ok rfl (up0 F _) (congrArg nI h9) ?_
    obtain ⟨⟨f1, f2, f3, f4⟩, hv, hi, hs, hd, hB⟩ := h
    have f4' : N 5 0 0 ≤ 10 * sgN S (N 0 0 0) := f4
    refine ⟨⟨f1, ?_, ?_, ?_⟩, hv, fun i hi' c hc => ?_, fun i hi' => ?_, ⟨fun j hj => ?_, hd.2⟩, fun i hi' b hb => ?_⟩
    · show va_up C 9 (C 9 + 1) 9 = N 0 0 0 + 1
      rw [va_up_self, h9]
    · show va_up C 9 (C 9 + 1) 14 = N 5 0 0
      rw [va_up_ne C _ (show (14 : Nat) ≠ 9 by decide)]
      exact f3
    · show N 5 0 0 ≤ 10 * sgN (S_beg S (N 0 0 0)) (N 0 0 0 + 1)
      simp only [sgN]
      rw [sgN_congr2 (S := S) (N 0 0 0) (fun i hi => beg_6 hs (by omega))]
      omega
    · obtain ⟨i1, i2, i3, i4⟩ := hi i hi' c hc
      by_cases e : i = N 0 0 0
      · have z : N 2 i c = 0 := i4 (Nat.le_of_eq e.symm)
        have z2 : N_beg N (N 0 0 0) 2 i c = 0 := by rw [e, N_beg_2i]
        show T 12 (10 * i + c) = N_beg N (N 0 0 0) 2 i c ∧ (¬ N_beg N (N 0 0 0) 2 i c = 0 → _) ∧ (N_beg N (N 0 0 0) 2 i c = 0 → _) ∧ (_ → N_beg N (N 0 0 0) 2 i c = 0)
        rw [z2]
        exact ⟨(show T 12 (10 * i + c) = N 2 i c from i1).trans z, fun q => absurd rfl q, fun _ => i3 z, fun _ => rfl⟩
      · have e2 : N_beg N (N 0 0 0) 2 i = N 2 i := N_beg_2 e
        have e4 : S_beg S (N 0 0 0) 4 i = S 4 i := S_beg_ne e (by decide)
        have e5 : S_beg S (N 0 0 0) 5 i = S 5 i := S_beg_ne e (by decide)
        show T 12 (10 * i + c) = N_beg N (N 0 0 0) 2 i c ∧ (¬ N_beg N (N 0 0 0) 2 i c = 0 → R 13 (2 * (10 * i + c)) = S_beg S (N 0 0 0) 4 i c ∧ R 13 (2 * (10 * i + c) + 1) = S_beg S (N 0 0 0) 5 i c) ∧ (N_beg N (N 0 0 0) 2 i c = 0 → _) ∧ (N 0 0 0 + 1 ≤ i → N_beg N (N 0 0 0) 2 i c = 0)
        rw [e2, e4, e5]
        exact ⟨i1, i2, i3, fun q => i4 (show N 0 0 0 ≤ i by omega)⟩
    · obtain ⟨s1, s2, s3, s4, s5⟩ := hs i hi'
      obtain ⟨g0, g1⟩ := beg_6 hs hi'
      show (S_beg S (N 0 0 0) 6 i 0 = nI 0 ∨ S_beg S (N 0 0 0) 6 i 0 = nI 1) ∧ (S_beg S (N 0 0 0) 6 i 1 = nI 0 ∨ S_beg S (N 0 0 0) 6 i 1 = nI 1) ∧ R 11 i = (if S_beg S (N 0 0 0) 6 i 0 = nI 0 then nI 0 else nI 1) + (if S_beg S (N 0 0 0) 6 i 1 = nI 0 then nI 0 else nI 2) ∧ R 10 i = (if S_beg S (N 0 0 0) 6 i 0 = 0 ∨ S_beg S (N 0 0 0) 6 i 1 = 0 then nI 0 else nI 1) ∧ (N 0 0 0 + 1 ≤ i → S_beg S (N 0 0 0) 6 i 0 = nI 0 ∧ S_beg S (N 0 0 0) 6 i 1 = nI 0)
      rw [g0, g1]
      exact ⟨s1, s2, s3, s4, fun q => s5 (show N 0 0 0 ≤ i by omega)⟩
    · obtain ⟨d1, d2, d3, d4, d5, d6, d7, d8⟩ := hd.1 j hj
      exact ⟨d1, d2, d3, d4, d5, d6, d7, Nat.lt_succ_of_lt d8⟩
    · obtain ⟨b1, b2⟩ := hB i hi' b hb
      have c1 : cntB (S_beg S (N 0 0 0)) (N_beg N (N 0 0 0)) i b (N 5 0 0) = cntB S N i b (N 5 0 0) := cntB_congr2 i b _ (fun j hj => ⟨rfl, rfl, rfl⟩)
      have c2 : penB (S_beg S (N 0 0 0)) (N_beg N (N 0 0 0)) i b (N 5 0 0) = penB S N i b (N 5 0 0) := penB_congr2 i b _ (fun j hj => ⟨rfl, rfl, rfl, rfl⟩)
      show S_beg S (N 0 0 0) 7 i b = nI (cntB (S_beg S (N 0 0 0)) (N_beg N (N 0 0 0)) i b (N 5 0 0)) ∧ S_beg S (N 0 0 0) 8 i b = penB (S_beg S (N 0 0 0)) (N_beg N (N 0 0 0)) i b (N 5 0 0)
      rw [c1, c2]
      by_cases e : i = N 0 0 0
      · have hz : ∀ j, j < N 5 0 0 → ¬ N 3 j 0 = i := fun j hj q => by
          have h9 : N 3 j 0 < N 0 0 0 := (hd.1 j hj).2.2.2.2.2.2.2
          omega
        rw [cntB_zero i b _ hz, penB_zero i b _ hz, e]
        unfold S_beg
        refine ⟨?_, ?_⟩
        · rw [su_ne (fun z => absurd z.1 (by decide)), su_ne (fun z => absurd z.1 (by decide)), su_self]
        · rw [su_ne (fun z => absurd z.1 (by decide)), su_self]; exact nI_00
      · rw [S_beg_ne e (by decide), S_beg_ne e (by decide)]
        exact ⟨b1, b2⟩
  · rw [if_neg h10, if_pos (by omega)]
    exact Jop_no 1 rfl (by decide) h
theorem m_begin (hs : jS S N R) (hM : jM (S, N)) : jM (S_beg S (N 0 0 0), N_beg N (N 0 0 0)) := fun i hi c hc h => by
  by_cases e : i = N 0 0 0
  · exact absurd (show N_beg N (N 0 0 0) 2 i c = 0 by rw [e, N_beg_2i]) h
  · have e2 : N_beg N (N 0 0 0) 2 i = N 2 i := N_beg_2 e
    have e4 : S_beg S (N 0 0 0) 4 i = S 4 i := S_beg_ne e (by decide)
    have e5 : S_beg S (N 0 0 0) 5 i = S 5 i := S_beg_ne e (by decide)
    show S_beg S (N 0 0 0) 4 i c = nI 1 ∨ S_beg S (N 0 0 0) 5 i c = nI 1
    rw [e4, e5]
    exact hM i hi c hc (by
      have h2 : ¬ N_beg N (N 0 0 0) 2 i c = 0 := h
      rw [e2] at h2
      exact h2)
theorem j_issue (h : JJ (S, N) (F, C, R, T)) (hN : okS N) (a o d k z : Int32) : Jop S N (V_issue N a o d k z) (nI (N 1 0 (ix a) + 1)) (S_iss S (9 * ix a + N 1 0 (ix a)) d k z, N_iss N (ix a) (ix o)) (M_issue F C R T a o d k z).1 (M_issue F C R T a o d k z).2 := by
  unfold M_issue V_issue
  by_cases ha : isCl a ∧ isSd o ∧ (nI 0 ≤ d ∧ d ≤ nI 100) ∧ (nI 0 ≤ k ∧ k ≤ nI 50) ∧ (nI 0 ≤ z ∧ z ≤ nI 1000)
  · rw [if_pos ha, if_pos ha]
    obtain ⟨c, hc, rfl, ec⟩ := cl_ix ha.1
    obtain ⟨sd, hsd, rfl, es⟩ := sd_ix ha.2.1
    have h2 : T 2 c = N 1 0 c := (h.2.1 c hc).1
    have hle := hN.2.1 c hc
    rw [ec, es, h2]
    by_cases h9 : N 1 0 c < 9
    · rw [if_pos h9, if_neg (by omega)]
      refine Jop_ok rfl (up0 F _) rfl ?_
      obtain ⟨⟨f1, f2, f3, f4⟩, hv, hi, hs, hd, hB⟩ := h
      have hV9 := hN.2.1
      have n1 : N_iss N c sd 1 0 = va_up (N 1 0) c (N 1 0 c + 1) := by
        unfold N_iss
        rw [nu_ne (fun z => absurd z.1 (by decide)), nu_self]
      have n4 : ∀ v, ¬ v = 9 * c + N 1 0 c → N_iss N c sd 4 v = N 4 v := fun v hv => by
        unfold N_iss
        rw [nu_ne (fun z => hv z.2), nu_ne (fun z => absurd z.1 (by decide))]
      have n4s : N_iss N c sd 4 (9 * c + N 1 0 c) = fun _ => sd := by
        unfold N_iss
        rw [nu_self]
      have s3 : ∀ v, ¬ v = 9 * c + N 1 0 c → S_iss S (9 * c + N 1 0 c) d k z 3 v = S 3 v := fun v hv => su_ne (fun z => hv z.2)
      have hlt : ∀ c', N 1 0 c' ≤ N_iss N c sd 1 0 c' := fun c' => by
        rw [n1]
        by_cases e : c' = c
        · subst e; rw [va_up_self]; omega
        · rw [va_up_ne _ _ e]; exact Nat.le_refl _
      have hne : ∀ j, j < N 5 0 0 → ¬ N 3 j 1 = 9 * c + N 1 0 c := fun j hj e => by
        obtain ⟨c2, n2, q1, q2, q3⟩ := (hd.1 j hj).2.2.2.2.2.2.1
        have q2' : n2 < N 1 0 c2 := q2
        have q3' : N 3 j 1 = 9 * c2 + n2 := q3
        have := hV9 c2 q1
        by_cases e2 : c2 = c
        · subst e2; omega
        · omega
      refine ⟨⟨f1, f2, f3, ?_⟩, fun c' hc' => ?_, hi, hs, ⟨fun j hj => ?_, hd.2⟩, fun i hi' b hb => ?_⟩
      · have e := sgN_congr (S := S) (S' := S_iss S (9 * c + N 1 0 c) d k z) (fun i => rfl) (N 0 0 0)
        show N 5 0 0 ≤ 10 * sgN (S_iss S (9 * c + N 1 0 c) d k z) (N 0 0 0)
        rw [e]
        exact f4
      · obtain ⟨v1, v2, v3, v4⟩ := hv c' hc'
        refine ⟨?_, v2, v3, fun n hn => ?_⟩
        · show va_up T 2 (va_up (T 2) c (N 1 0 c + 1)) 2 c' = N_iss N c sd 1 0 c'
          rw [n1, va_up_self]
          by_cases e : c' = c
          · subst e; rw [va_up_self, va_up_self]
          · rw [va_up_ne _ _ e, va_up_ne _ _ e]; exact v1
        · show upd (R 3) (9 * c + N 1 0 c) (nI sd) (9 * c' + n) = nI (N_iss N c sd 4 (9 * c' + n) 0) ∧ upd (R 4) (9 * c + N 1 0 c) d (9 * c' + n) = S_iss S (9 * c + N 1 0 c) d k z 3 (9 * c' + n) 1 ∧ upd (R 5) (9 * c + N 1 0 c) k (9 * c' + n) = S_iss S (9 * c + N 1 0 c) d k z 3 (9 * c' + n) 2 ∧ upd (R 6) (9 * c + N 1 0 c) z (9 * c' + n) = S_iss S (9 * c + N 1 0 c) d k z 3 (9 * c' + n) 3
          by_cases e : 9 * c' + n = 9 * c + N 1 0 c
          · rw [e, n4s, show S_iss S (9 * c + N 1 0 c) d k z 3 (9 * c + N 1 0 c) = upd (upd (upd (S 3 (9 * c + N 1 0 c)) 1 d) 2 k) 3 z from su_self _ _ _ _]
            simp [upd]
          · rw [n4 _ e, s3 _ e]
            simp only [upd, if_neg e]
            have hn' : n < N_iss N c sd 1 0 c' := hn
            rw [n1] at hn'
            refine v4 n ?_
            show n < N 1 0 c'
            by_cases e2 : c' = c
            · subst e2; rw [va_up_self] at hn'; omega
            · rw [va_up_ne _ _ e2] at hn'; exact hn'
      · obtain ⟨d1, d2, d3, d4, d5, d6, ⟨c2, n2, q1, q2, q3⟩, d8⟩ := hd.1 j hj
        have e := hne j hj
        show T 15 j = N 3 j 0 ∧ R 16 j = nI (N_iss N c sd 4 (N 3 j 1) 0) ∧ R 17 j = S_iss S (9 * c + N 1 0 c) d k z 3 (N 3 j 1) 2 ∧ R 18 j = S_iss S (9 * c + N 1 0 c) d k z 3 (N 3 j 1) 3 ∧ R 19 j = S 9 j 0 ∧ R 20 j = S 9 j 1 ∧ (∃ c' n, c' < 10 ∧ n < N_iss N c sd 1 0 c' ∧ N 3 j 1 = 9 * c' + n) ∧ N 3 j 0 < N 0 0 0
        rw [n4 _ e, s3 _ e]
        exact ⟨d1, d2, d3, d4, d5, d6, ⟨c2, n2, q1, Nat.lt_of_lt_of_le q2 (hlt c2), q3⟩, d8⟩
      · obtain ⟨b1, b2⟩ := hB i hi' b hb
        have c1 : cntB (S_iss S (9 * c + N 1 0 c) d k z) (N_iss N c sd) i b (N 5 0 0) = cntB S N i b (N 5 0 0) := cntB_congr2 i b _ (fun j hj => ⟨rfl, by rw [n4 _ (hne j hj)], rfl⟩)
        have c2 : penB (S_iss S (9 * c + N 1 0 c) d k z) (N_iss N c sd) i b (N 5 0 0) = penB S N i b (N 5 0 0) := penB_congr2 i b _ (fun j hj => ⟨rfl, by rw [n4 _ (hne j hj)], rfl, s3 _ (hne j hj)⟩)
        exact ⟨b1.trans (congrArg nI c1.symm), b2.trans c2.symm⟩
    · rw [if_neg h9, if_pos (by omega)]
      exact Jop_no 2 rfl (by decide) h
  · rw [if_neg ha, if_neg ha]
    exact Jop_no 1 rfl (by decide) h
end JW2

/-! the class and the reference hold the same -/
def cntB (S : SS) (N : NN) (i b : Nat) : Nat → Nat
  | 0 => 0
  | j + 1 => cntB S N i b j + (if N 3 j 0 = i ∧ N 4 (N 3 j 1) 0 = b ∧ S 9 j 0 = nI 3 then 1 else 0)
def penB (S : SS) (N : NN) (i b : Nat) : Nat → Int32
  | 0 => 0
  | j + 1 => penB S N i b j + (if N 3 j 0 = i ∧ N 4 (N 3 j 1) 0 = b ∧ S 9 j 0 = nI 3 then S 3 (N 3 j 1) 3 else 0)
def sgN (S : SS) : Nat → Nat
  | 0 => 0
  | i + 1 => sgN S i + (if isDr S i then 0 else 1)
def jV (S : SS) (N : NN) (R : Nat → Nat → Int32) (T : Nat → Nat → Nat) : Prop := ∀ c, c < 10 → T 2 c = N 1 0 c ∧ R 7 c = S 1 0 c ∧ R 8 c = S 2 0 c ∧ ∀ n, n < N 1 0 c → R 3 (9 * c + n) = nI (N 4 (9 * c + n) 0) ∧ R 4 (9 * c + n) = S 3 (9 * c + n) 1 ∧ R 5 (9 * c + n) = S 3 (9 * c + n) 2 ∧ R 6 (9 * c + n) = S 3 (9 * c + n) 3
def jI (S : SS) (N : NN) (R : Nat → Nat → Int32) (T : Nat → Nat → Nat) : Prop := ∀ i, i < 10 → ∀ c, c < 10 → T 12 (10 * i + c) = N 2 i c ∧ (¬ N 2 i c = 0 → R 13 (2 * (10 * i + c)) = S 4 i c ∧ R 13 (2 * (10 * i + c) + 1) = S 5 i c) ∧ (N 2 i c = 0 → R 13 (2 * (10 * i + c)) = nI 0 ∧ R 13 (2 * (10 * i + c) + 1) = nI 0) ∧ (N 0 0 0 ≤ i → N 2 i c = 0)
def jS (S : SS) (N : NN) (R : Nat → Nat → Int32) : Prop := ∀ i, i < 10 → (S 6 i 0 = nI 0 ∨ S 6 i 0 = nI 1) ∧ (S 6 i 1 = nI 0 ∨ S 6 i 1 = nI 1) ∧ R 11 i = (if S 6 i 0 = nI 0 then nI 0 else nI 1) + (if S 6 i 1 = nI 0 then nI 0 else nI 2) ∧ R 10 i = (if isDr S i then nI 0 else nI 1) ∧ (N 0 0 0 ≤ i → S 6 i 0 = nI 0 ∧ S 6 i 1 = nI 0)
def jD (S : SS) (N : NN) (R : Nat → Nat → Int32) (T : Nat → Nat → Nat) : Prop := (∀ j, j < N 5 0 0 → T 15 j = N 3 j 0 ∧ R 16 j = nI (N 4 (N 3 j 1) 0) ∧ R 17 j = S 3 (N 3 j 1) 2 ∧ R 18 j = S 3 (N 3 j 1) 3 ∧ R 19 j = S 9 j 0 ∧ R 20 j = S 9 j 1 ∧ (∃ c n, c < 10 ∧ n < N 1 0 c ∧ N 3 j 1 = 9 * c + n) ∧ N 3 j 0 < N 0 0 0) ∧ ∀ j, N 5 0 0 ≤ j → j < 100 → T 15 j = 0
def jB (S : SS) (N : NN) : Prop := ∀ i, i < 10 → ∀ b, b < 2 → S 7 i b = nI (cntB S N i b (N 5 0 0)) ∧ S 8 i b = penB S N i b (N 5 0 0)
def jF (S : SS) (N : NN) (F : Nat → Int32) (C : Nat → Nat) : Prop := F 1 = S 0 0 0 ∧ C 9 = N 0 0 0 ∧ C 14 = N 5 0 0 ∧ N 5 0 0 ≤ 10 * sgN S (N 0 0 0)
def JJ (u : CS) (v : MS) : Prop := jF u.1 u.2 v.1 v.2.1 ∧ jV u.1 u.2 v.2.2.1 v.2.2.2 ∧ jI u.1 u.2 v.2.2.1 v.2.2.2 ∧ jS u.1 u.2 v.2.2.1 ∧ jD u.1 u.2 v.2.2.1 v.2.2.2 ∧ jB u.1 u.2
/-- what the class's numbers keep -/
def okS (N : NN) : Prop := (∀ i c, i < N 0 0 0 → c < 10 → N 2 i c ≤ N 1 0 c) ∧ (∀ c, c < 10 → N 1 0 c ≤ 9) ∧ (∀ v, N 4 v 0 < 2) ∧ N 0 0 0 ≤ 10 ∧ N 5 0 0 ≤ 100
theorem okS_of {L : List Lc} {N : NN} (h : okC L N) : okS N := ⟨h.2.1, h.2.2.1, h.2.2.2.1, h.2.2.2.2.2.1, h.2.2.2.2.2.2.1⟩
theorem JJ_F {S : SS} {N : NN} {F : Nat → Int32} {C : Nat → Nat} {R : Nat → Nat → Int32} {T : Nat → Nat → Nat} (x : Int32) (h : JJ (S, N) (F, C, R, T)) : JJ (S, N) (va_up F 0 x, C, R, T) := by
  obtain ⟨⟨h1, h2, h3, h4⟩, hr⟩ := h
  exact ⟨⟨(va_up_ne F x (show (1 : Nat) ≠ 0 by decide)).trans h1, h2, h3, h4⟩, hr⟩
theorem up0 (F : Nat → Int32) (x : Int32) : va_up F 0 x 0 = x := va_up_self _ _ _
theorem dr_iff {S : SS} {N : NN} {R : Nat → Nat → Int32} {i : Nat} (h : jS S N R) (hi : i < 10) : R 10 i = 0 ↔ isDr S i := by
  obtain ⟨-, -, -, h4, -⟩ := h i hi
  rw [h4]
  by_cases hd : isDr S i
  · simp [hd, nI_00]
  · rw [if_neg hd]
    exact ⟨fun h => absurd h (by decide), fun h => absurd h hd⟩
/-! answers of the calls that only read -/
section JRead
variable {S : SS} {N : NN} {F : Nat → Int32} {C : Nat → Nat} {R : Nat → Nat → Int32} {T : Nat → Nat → Nat}
/-- what one call owes: the reference's code is the class's verdict; both answer the same and hold the same -/
def Jop (S : SS) (N : NN) (V : Nat) (ans : Int32) (nxt : CS) (r : Int32) (v : MS) : Prop := v.1 0 = nI V ∧ (V = 0 → r = ans ∧ JJ nxt v) ∧ (¬ V = 0 → JJ (S, N) v)
theorem Jop_ok {ans r : Int32} {nxt : CS} {v : MS} {V : Nat} (hV : V = 0) (h0 : v.1 0 = nI 0) (h1 : r = ans) (h2 : JJ nxt v) : Jop S N V ans nxt r v := ⟨by rw [hV]; exact h0, fun _ => ⟨h1, h2⟩, fun h => absurd hV h⟩
theorem Jop_no {ans r : Int32} {nxt : CS} {V : Nat} (k : Nat) (hV : V = k) (hk : ¬ k = 0) (h : JJ (S, N) (F, C, R, T)) : Jop S N V ans nxt r (va_up F 0 (nI k), C, R, T) := ⟨by rw [hV]; exact up0 F _, fun h => absurd (hV.symm.trans h) hk, fun _ => JJ_F _ h⟩
theorem j_latest (h : JJ (S, N) (F, C, R, T)) (a : Int32) : Jop S N (V_latest a) (nI (N 1 0 (ix a))) (S, N) (M_latest F C R T a).1 (M_latest F C R T a).2 := by
  unfold M_latest
  by_cases ha : isCl a
  · rw [if_pos ha]
    obtain ⟨c, hc, rfl, ec⟩ := cl_ix ha
    refine Jop_ok (if_pos ha) (up0 F _) ?_ (JJ_F _ h)
    rw [ec]
    exact congrArg nI (h.2.1 c hc).1
  · rw [if_neg ha]
    exact Jop_no 1 (if_neg ha) (by decide) h
theorem isC_iff (h : JJ (S, N) (F, C, R, T)) (a : Int32) : (isC C 9 a ↔ isCt N 0 a) ∧ (isC C 14 a ↔ isCt N 5 a) := by
  obtain ⟨⟨-, h2, h3, -⟩, -⟩ := h
  unfold isC isCt
  rw [show C 9 = N 0 0 0 from h2, show C 14 = N 5 0 0 from h3]
  exact ⟨Iff.rfl, Iff.rfl⟩
theorem j_version (h : JJ (S, N) (F, C, R, T)) (hN : okS N) (a d : Int32) : Jop S N (V_version N a d) (nI (N 2 (ix a) (ix d))) (S, N) (M_version F C R T a d).1 (M_version F C R T a d).2 := by
  unfold M_version V_version
  by_cases ha : isCt N 0 a
  · rw [if_pos ha, if_pos ((isC_iff h a).1.mpr ha)]
    by_cases hd : isCl d
    · rw [if_pos hd, if_pos hd]
      obtain ⟨i, hi, rfl, ei⟩ := ct_ix (n := N 0 0 0) (by have := hN.2.2.2.1; omega) ha
      obtain ⟨c, hc, rfl, ec⟩ := cl_ix hd
      refine Jop_ok rfl (up0 F _) ?_ (JJ_F _ h)
      rw [ei, ec]
      exact congrArg nI (h.2.2.1 i (by have := hN.2.2.2.1; omega) c hc).1
    · rw [if_neg hd, if_neg hd]
      exact Jop_no 2 rfl (by decide) h
  · rw [if_neg ha, if_neg (fun q => ha ((isC_iff h a).1.mp q))]
    exact Jop_no 1 rfl (by decide) h
theorem j_state (h : JJ (S, N) (F, C, R, T)) (hN : okS N) (a : Int32) : Jop S N (V_at N 5 a) (S 9 (ix a) 0) (S, N) (M_state F C R T a).1 (M_state F C R T a).2 := by
  unfold M_state V_at
  by_cases ha : isCt N 5 a
  · rw [if_pos ha, if_pos ((isC_iff h a).2.mpr ha)]
    obtain ⟨j, hj, rfl, ej⟩ := ct_ix (n := N 5 0 0) (by have := hN.2.2.2.2; omega) ha
    refine Jop_ok rfl (up0 F _) ?_ (JJ_F _ h)
    rw [ej]
    exact (h.2.2.2.2.1.1 j hj).2.2.2.2.1
  · rw [if_neg ha, if_neg (fun q => ha ((isC_iff h a).2.mp q))]
    exact Jop_no 1 rfl (by decide) h
theorem j_day (h : JJ (S, N) (F, C, R, T)) (hN : okS N) (a : Int32) : Jop S N (V_at N 5 a) (S 9 (ix a) 1) (S, N) (M_day F C R T a).1 (M_day F C R T a).2 := by
  unfold M_day V_at
  by_cases ha : isCt N 5 a
  · rw [if_pos ha, if_pos ((isC_iff h a).2.mpr ha)]
    obtain ⟨j, hj, rfl, ej⟩ := ct_ix (n := N 5 0 0) (by have := hN.2.2.2.2; omega) ha
    refine Jop_ok rfl (up0 F _) ?_ (JJ_F _ h)
    rw [ej]
    exact (h.2.2.2.2.1.1 j hj).2.2.2.2.2.1
  · rw [if_neg ha, if_neg (fun q => ha ((isC_iff h a).2.mp q))]
    exact Jop_no 1 rfl (by decide) h
theorem off_eq (h : jI S N R T) (hv : jV S N R T) {i : Nat} (hi : i < 10) : ∀ c, c ≤ 10 → M_off (T 12) (T 2) i c = K_off N i c
  | 0, _ => rfl
  | c + 1, hc => by
    have e := off_eq h hv hi c (by omega)
    simp only [M_off, K_off]
    rw [e, (h i hi c (by omega)).1, (hv c (by omega)).1]
    by_cases h0 : N 2 i c = 0
    · rw [if_pos h0, if_neg (fun q => q.1 h0)]; rfl
    · rw [if_neg h0]
      by_cases h1 : N 2 i c < N 1 0 c
      · rw [if_pos h1, if_pos ⟨h0, h1⟩]
      · rw [if_neg h1, if_neg (fun q => h1 q.2)]; rfl
theorem j_offered (h : JJ (S, N) (F, C, R, T)) (hN : okS N) (a : Int32) : Jop S N (V_at N 0 a) (if isDr S (ix a) then nI (K_off N (ix a) 10) else nI 0) (S, N) (M_offered F C R T a).1 (M_offered F C R T a).2 := by
  unfold M_offered V_at
  by_cases ha : isCt N 0 a
  · rw [if_pos ha, if_pos ((isC_iff h a).1.mpr ha)]
    obtain ⟨i, hi, rfl, ei⟩ := ct_ix (n := N 0 0 0) (by have := hN.2.2.2.1; omega) ha
    have hi10 : i < 10 := by have := hN.2.2.2.1; omega
    have hd := dr_iff h.2.2.2.1 hi10
    rw [ei]
    by_cases h1 : isDr S i
    · rw [if_pos (hd.mpr h1)]
      refine Jop_ok rfl (up0 F _) ?_ (JJ_F _ h)
      rw [if_pos h1]
      exact congrArg nI (off_eq h.2.2.1 h.2.1 hi10 10 (Nat.le_refl _))
    · rw [if_neg (fun q => h1 (hd.mp q))]
      refine Jop_ok rfl (up0 F _) ?_ (JJ_F _ h)
      rw [if_neg h1]
  · rw [if_neg ha, if_neg (fun q => ha ((isC_iff h a).1.mp q))]
    exact Jop_no 1 rfl (by decide) h
end JRead

/-! whyNot, isSuspended, owes -/
theorem or_and0 (x y z : Int32) : (x ||| y) &&& z = 0 ↔ x &&& z = 0 ∧ y &&& z = 0 := by
  have e : ∀ u : Int32, u = 0 ↔ u.toBitVec = 0#32 := fun u => ⟨fun h => by rw [h]; rfl, fun h => Int32.toBitVec_inj.mp (h.trans rfl)⟩
  rw [e, e, e, Int32.toBitVec_and, Int32.toBitVec_or, Int32.toBitVec_and, Int32.toBitVec_and]
  constructor
  · intro h
    constructor
    · ext i hi
      have := congrArg (fun b => b.getLsbD i) h
      simp at this ⊢
      intro h1
      exact this (Or.inl h1)
    · ext i hi
      have := congrArg (fun b => b.getLsbD i) h
      simp at this ⊢
      intro h1
      exact this (Or.inr h1)
  · rintro ⟨h1, h2⟩
    ext i hi
    have a := congrArg (fun b => b.getLsbD i) h1
    have b := congrArg (fun b => b.getLsbD i) h2
    simp at a b ⊢
    rintro (h | h)
    · exact a h
    · exact b h
theorem bit_ne : ∀ j c : Fin 10, ((nI 1 <<< (nI j.val &&& 31)) &&& (nI 1 <<< (nI c.val &&& 31)) = 0 ↔ j ≠ c) := by decide +kernel
theorem K_bit (it : Nat → Nat) (c : Nat) (hc : c < 10) : ∀ j, j ≤ 10 → (K_items it j &&& (nI 1 <<< (nI c &&& 31)) = 0 ↔ (c < j → it c = 0))
  | 0, _ => by
    simp only [K_items]
    rw [nI_00, Int32.zero_and]
    exact ⟨fun _ h => absurd h (Nat.not_lt_zero _), fun _ => rfl⟩
  | j + 1, hj => by
    have ih := K_bit it c hc j (by omega)
    simp only [K_items]
    by_cases h0 : it j = 0
    · rw [if_pos h0, ih]
      constructor
      · intro h h1
        by_cases e : c = j
        · rw [e]; exact h0
        · exact h (by omega)
      · intro h h1
        exact h (by omega)
    · rw [if_neg h0, or_and0, ih]
      have hb := bit_ne ⟨j, by omega⟩ ⟨c, hc⟩
      constructor
      · rintro ⟨h1, h2⟩ h3
        have h4 := hb.mp h2
        exact h1 (by
          have : j ≠ c := fun e => h4 (by subst e; rfl)
          omega)
      · intro h
        refine ⟨fun h1 => h (by omega), hb.mpr (fun e => ?_)⟩
        have e2 : j = c := congrArg Fin.val e
        exact h0 (by rw [e2]; exact h (by omega))
section JRead2
variable {S : SS} {N : NN} {F : Nat → Int32} {C : Nat → Nat} {R : Nat → Nat → Int32} {T : Nat → Nat → Nat}
theorem items_eq (h : jI S N R T) {i : Nat} (hi : i < 10) : ∀ c, c ≤ 10 → M_items (T 12) i c = K_items (N 2 i) c
  | 0, _ => rfl
  | c + 1, hc => by
    have e := items_eq h hi c (by omega)
    simp only [M_items, K_items]
    rw [e, (h i hi c (by omega)).1]
theorem agr_eq (h : jI S N R T) {i : Nat} (hi : i < 10) : ∀ c, c ≤ 10 → M_agr (T 12) (R 13) i c = K_agr (N 2 i) (S 4 i) (S 5 i) c
  | 0, _ => rfl
  | c + 1, hc => by
    have e := agr_eq h hi c (by omega)
    obtain ⟨h1, h2, h3, -⟩ := h i hi c (by omega)
    simp only [M_agr, K_agr]
    rw [e, h1]
    by_cases h0 : N 2 i c = 0
    · rw [if_pos h0]
      simp [h0]
    · rw [if_neg h0, (h2 h0).1, (h2 h0).2]
      simp [h0, Bool.and_assoc]
theorem un_eq (h : jI S N R T) {i : Nat} (hi : i < 10) (r : Nat → Int32) (r' : Nat → Int32) (hr : ∀ c, c < 10 → r c = r' c) : ∀ c, c ≤ 10 → M_un (T 12) r i c = K_union (K_items (N 2 i) 10) r' c
  | 0, _ => rfl
  | c + 1, hc => by
    have e := un_eq h hi r r' hr c (by omega)
    have hb := K_bit (N 2 i) c (by omega) 10 (Nat.le_refl _)
    simp only [M_un, K_union]
    rw [e, (h i hi c (by omega)).1, hr c (by omega)]
    by_cases h0 : N 2 i c = 0
    · rw [if_pos h0, if_pos (hb.mpr (fun _ => h0))]
    · rw [if_neg h0, if_neg (fun q => h0 (hb.mp q (by omega)))]
theorem obst_eq (h : JJ (S, N) (F, C, R, T)) {i : Nat} (hi : i < 10) : M_reason (T 12) (R 7) (R 8) (R 10) (R 13) i = K_obst S N i := by
  unfold M_reason K_obst
  have hd := dr_iff h.2.2.2.1 hi
  rw [items_eq h.2.2.1 hi 10 (Nat.le_refl _), agr_eq h.2.2.1 hi 10 (Nat.le_refl _), un_eq h.2.2.1 hi (R 7) (S 1 0) (fun c hc => (h.2.1 c hc).2.1) 10 (Nat.le_refl _), un_eq h.2.2.1 hi (R 8) (S 2 0) (fun c hc => (h.2.1 c hc).2.2.1) 10 (Nat.le_refl _)]
  by_cases h1 : isDr S i
  · rw [if_pos h1, if_pos (hd.mpr h1)]
  · rw [if_neg h1, if_neg (fun q => h1 (hd.mp q))]
theorem j_whyNot (h : JJ (S, N) (F, C, R, T)) (hN : okS N) (a : Int32) : Jop S N (V_at N 0 a) (nI (K_obst S N (ix a))) (S, N) (M_whyNot F C R T a).1 (M_whyNot F C R T a).2 := by
  unfold M_whyNot V_at
  by_cases ha : isCt N 0 a
  · rw [if_pos ha, if_pos ((isC_iff h a).1.mpr ha)]
    obtain ⟨i, hi, rfl, ei⟩ := ct_ix (n := N 0 0 0) (by have := hN.2.2.2.1; omega) ha
    have hi10 : i < 10 := by have := hN.2.2.2.1; omega
    refine Jop_ok rfl (up0 F _) ?_ (JJ_F _ h)
    rw [ei]
    exact congrArg nI (obst_eq h hi10)
  · rw [if_neg ha, if_neg (fun q => ha ((isC_iff h a).1.mp q))]
    exact Jop_no 1 rfl (by decide) h
theorem sus_iff (con : Nat → Nat) (sd stt : Nat → Int32) (d : Nat) : ∀ n, M_sus con sd stt d n = true ↔ ∃ k, k < n ∧ con k = con d ∧ ¬ sd k = sd d ∧ stt k = nI 3
  | 0 => ⟨fun h => absurd h (by simp [M_sus]), fun ⟨k, h, _⟩ => absurd h (Nat.not_lt_zero _)⟩
  | n + 1 => by
    simp only [M_sus, Bool.or_eq_true, Bool.and_eq_true, decide_eq_true_eq, Bool.not_eq_true', decide_eq_false_iff_not]
    rw [sus_iff con sd stt d n]
    constructor
    · rintro (⟨k, h1, h2⟩ | ⟨⟨h1, h2⟩, h3⟩)
      · exact ⟨k, by omega, h2⟩
      · exact ⟨n, by omega, h1, h2, h3⟩
    · rintro ⟨k, h1, h2, h3, h4⟩
      by_cases e : k = n
      · subst e; exact Or.inr ⟨⟨h2, h3⟩, h4⟩
      · exact Or.inl ⟨k, by omega, h2, h3, h4⟩
theorem cnt_pos (S : SS) (N : NN) (i b : Nat) : ∀ n, 0 < cntB S N i b n ↔ ∃ k, k < n ∧ N 3 k 0 = i ∧ N 4 (N 3 k 1) 0 = b ∧ S 9 k 0 = nI 3
  | 0 => ⟨fun h => absurd h (Nat.lt_irrefl _), fun ⟨k, h, _⟩ => absurd h (Nat.not_lt_zero _)⟩
  | n + 1 => by
    simp only [cntB]
    constructor
    · intro h
      by_cases h0 : N 3 n 0 = i ∧ N 4 (N 3 n 1) 0 = b ∧ S 9 n 0 = nI 3
      · exact ⟨n, by omega, h0⟩
      · rw [if_neg h0] at h
        obtain ⟨k, h1, h2⟩ := (cnt_pos S N i b n).mp h
        exact ⟨k, by omega, h2⟩
    · rintro ⟨k, h1, h2⟩
      by_cases e : k = n
      · subst e; rw [if_pos h2]; omega
      · have := (cnt_pos S N i b n).mpr ⟨k, by omega, h2⟩
        omega
theorem cnt_le (S : SS) (N : NN) (i b : Nat) : ∀ n, cntB S N i b n ≤ n
  | 0 => Nat.le_refl _
  | n + 1 => by
    have := cnt_le S N i b n
    simp only [cntB]
    split <;> omega
theorem nI_inj {a b : Nat} (ha : a < 2 ^ 31) (hb : b < 2 ^ 31) : nI a = nI b ↔ a = b := by
  constructor
  · intro h
    have h1 := nI_clamp ha
    have h2 := nI_clamp hb
    rw [h] at h1
    omega
  · rintro rfl; rfl
theorem sus_eq (h : JJ (S, N) (F, C, R, T)) (hN : okS N) {j : Nat} (hj : j < N 5 0 0) : M_sus (T 15) (R 16) (R 19) j (C 14) = true ↔ ¬ S 7 (N 3 j 0) (1 - N 4 (N 3 j 1) 0) ≤ 0 := by
  obtain ⟨-, -, hO, hnc, hnd⟩ := hN
  obtain ⟨⟨-, -, hC, -⟩, -, -, -, ⟨hd, -⟩, hB⟩ := h
  have hj3 := (hd j hj).2.2.2.2.2.2.2
  have hoj := hO (N 3 j 1)
  have h7 := (hB (N 3 j 0) (by show N 3 j 0 < 10; have h9 : N 3 j 0 < N 0 0 0 := hj3; omega) (1 - N 4 (N 3 j 1) 0) (by omega)).1
  have hc := cnt_le S N (N 3 j 0) (1 - N 4 (N 3 j 1) 0) (N 5 0 0)
  rw [show C 14 = N 5 0 0 from hC, sus_iff, show S 7 (N 3 j 0) (1 - N 4 (N 3 j 1) 0) = nI _ from h7]
  rw [show (¬ nI (cntB S N (N 3 j 0) (1 - N 4 (N 3 j 1) 0) (N 5 0 0)) ≤ 0) ↔ 0 < cntB S N (N 3 j 0) (1 - N 4 (N 3 j 1) 0) (N 5 0 0) from by
    rw [← nI_00, nI_leI (by omega) (by omega)]
    omega, cnt_pos]
  constructor
  · rintro ⟨k, h1, h2, h3, h4⟩
    obtain ⟨e1, e2, -, -, e5, -, -, -⟩ := hd k h1
    obtain ⟨f1, f2, -⟩ := hd j hj
    refine ⟨k, h1, (e1.symm.trans h2).trans f1, ?_, e5.symm.trans h4⟩
    have hok := hO (N 3 k 1)
    have hne : ¬ N 4 (N 3 k 1) 0 = N 4 (N 3 j 1) 0 := fun e => h3 (by rw [show R 16 k = nI (N 4 (N 3 k 1) 0) from e2, show R 16 j = nI (N 4 (N 3 j 1) 0) from f2, e])
    omega
  · rintro ⟨k, h1, h2, h3, h4⟩
    obtain ⟨e1, e2, -, -, e5, -, -, -⟩ := hd k h1
    obtain ⟨f1, f2, -⟩ := hd j hj
    refine ⟨k, h1, (show T 15 k = N 3 k 0 from e1).trans (h2.trans (show T 15 j = N 3 j 0 from f1).symm), fun e => ?_, (show R 19 k = S 9 k 0 from e5).trans h4⟩
    have hok := hO (N 3 k 1)
    rw [show R 16 k = nI (N 4 (N 3 k 1) 0) from e2, show R 16 j = nI (N 4 (N 3 j 1) 0) from f2, nI_inj (by omega) (by omega)] at e
    omega
theorem held_eq (h : JJ (S, N) (F, C, R, T)) (hN : okS N) {j : Nat} (hj : j < N 5 0 0) : M_isS (T 15) (R 16) (R 19) (C 14) j ↔ isHeld S N j := by
  have e5 : R 19 j = S 9 j 0 := (h.2.2.2.2.1.1 j hj).2.2.2.2.1
  unfold M_isS isHeld isLive
  rw [sus_eq h hN hj, e5]
  exact And.comm
theorem j_isSuspended (h : JJ (S, N) (F, C, R, T)) (hN : okS N) (a : Int32) : Jop S N (V_at N 5 a) (bi (isHeld S N (ix a))) (S, N) (M_isSuspended F C R T a).1 (M_isSuspended F C R T a).2 := by
  unfold M_isSuspended V_at
  by_cases ha : isCt N 5 a
  · rw [if_pos ha, if_pos ((isC_iff h a).2.mpr ha)]
    obtain ⟨j, hj, rfl, ej⟩ := ct_ix (n := N 5 0 0) (by have := hN.2.2.2.2; omega) ha
    refine Jop_ok rfl (up0 F _) ?_ (JJ_F _ h)
    rw [ej]
    by_cases hs : isHeld S N j
    · rw [if_pos ((held_eq h hN hj).mpr hs), bi_t hs]; rfl
    · rw [if_neg (fun q => hs ((held_eq h hN hj).mp q)), bi_f hs]; rfl
  · rw [if_neg ha, if_neg (fun q => ha ((isC_iff h a).2.mp q))]
    exact Jop_no 1 rfl (by decide) h
theorem add_sub_l (x y q : Int32) : (x + q) - (y + 0) = x - y + q := by
  rw [Int32.add_zero, Int32.sub_eq_add_neg, Int32.sub_eq_add_neg, Int32.add_assoc, Int32.add_comm q, ← Int32.add_assoc]
theorem add_sub_r (x y q : Int32) : (x + 0) - (y + q) = x - y + -q := by
  rw [Int32.add_zero, Int32.sub_eq_add_neg, Int32.sub_eq_add_neg, Int32.neg_add, Int32.sub_eq_add_neg, Int32.add_assoc]
theorem ow_eq (h : JJ (S, N) (F, C, R, T)) (hN : okS N) {i b : Nat} (hb : b < 2) : ∀ n, n ≤ N 5 0 0 → M_ow (T 15) (R 16) (R 18) (R 19) i (nI b) n = penB S N i b n - penB S N i (1 - b) n
  | 0, _ => by simp only [M_ow, penB]; rw [nI_00, Int32.sub_self]
  | n + 1, hn => by
    have e := ow_eq h hN (i := i) hb n (by omega)
    obtain ⟨e1, e2, -, e4, e5, -, -, -⟩ := h.2.2.2.2.1.1 n (by show n < N 5 0 0; omega)
    have hO := hN.2.2.1 (N 3 n 1)
    have hI := nI_inj (a := N 4 (N 3 n 1) 0) (b := b) (by omega) (by omega)
    simp only [M_ow, penB]
    rw [e, show T 15 n = N 3 n 0 from e1, show R 16 n = nI (N 4 (N 3 n 1) 0) from e2, show R 18 n = S 3 (N 3 n 1) 3 from e4, show R 19 n = S 9 n 0 from e5]
    by_cases h1 : N 3 n 0 = i
    · by_cases h2 : S 9 n 0 = nI 3
      · rw [if_pos h1, if_pos h2]
        by_cases h3 : N 4 (N 3 n 1) 0 = b
        · rw [if_pos (hI.mpr h3), if_pos ⟨h1, h3, h2⟩, if_neg (fun q => absurd q.2.1 (by omega)), add_sub_l]
        · rw [if_neg (fun q => h3 (hI.mp q)), if_neg (fun q => h3 q.2.1), if_pos ⟨h1, by omega, h2⟩, add_sub_r]
      · rw [if_pos h1, if_neg h2, if_neg (fun q => h2 q.2.2), if_neg (fun q => h2 q.2.2), nI_00, add_sub_l]
    · rw [if_neg h1, if_neg (fun q => h1 q.1), if_neg (fun q => h1 q.1), nI_00, add_sub_l]
theorem j_owes (h : JJ (S, N) (F, C, R, T)) (hN : okS N) (a b : Int32) : Jop S N (V_owes N a b) (if nI 0 < S 8 (ix a) (ix b) - S 8 (ix a) (1 - ix b) then S 8 (ix a) (ix b) - S 8 (ix a) (1 - ix b) else nI 0) (S, N) (M_owes F C R T a b).1 (M_owes F C R T a b).2 := by
  unfold M_owes V_owes
  by_cases ha : isCt N 0 a
  · rw [if_pos ha, if_pos ((isC_iff h a).1.mpr ha)]
    by_cases hb : isSd b
    · rw [if_pos hb, if_pos hb]
      obtain ⟨i, hi, rfl, ei⟩ := ct_ix (n := N 0 0 0) (by have := hN.2.2.2.1; omega) ha
      obtain ⟨sd, hsd, rfl, es⟩ := sd_ix hb
      have hi10 : i < 10 := by have := hN.2.2.2.1; omega
      refine Jop_ok rfl (up0 F _) ?_ (JJ_F _ h)
      have h1 := (h.2.2.2.2.2 i hi10 sd hsd).2
      have h2 := (h.2.2.2.2.2 i hi10 (1 - sd) (by omega)).2
      rw [ei, es, show C 14 = N 5 0 0 from h.1.2.2.1, ow_eq h hN hsd (N 5 0 0) (Nat.le_refl _), show S 8 i sd = _ from h1, show S 8 i (1 - sd) = _ from h2]
      generalize penB S N i sd (N 5 0 0) - penB S N i (1 - sd) (N 5 0 0) = x
      rw [nI_00]
      by_cases h3 : (0 : Int32) ≤ x
      · rw [if_pos h3]
        by_cases h4 : (0 : Int32) < x
        · rw [if_pos h4]
        · rw [if_neg h4]
          exact Int32.le_antisymm (Int32.not_lt.mp h4) h3
      · rw [if_neg h3, if_neg (fun q => h3 (Int32.le_of_lt q))]
    · rw [if_neg hb, if_neg hb]
      exact Jop_no 2 rfl (by decide) h
  · rw [if_neg ha, if_neg (fun q => ha ((isC_iff h a).1.mp q))]
    exact Jop_no 1 rfl (by decide) h
end JRead2

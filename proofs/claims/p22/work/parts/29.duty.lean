/-! a duty is made -/
theorem w_extY {D : va_G} {A : Nat → Prop} {L NL : List Lc} {ad ad' : Lc → Nat} {f g : Lc → va_E} {X Y : va_W} {H : Heap} (hP : va_P D vwCl (pl L ad f ++ (X ++ Y)) H) (hD : va_D A (pl L ad f ++ (X ++ Y))) (h1 : ∀ q ∈ L, ad' q = ad q ∧ sameE (f q) (g q)) (h2 : pl NL ad' g = X) : va_P D vwCl (pl (L ++ NL) ad' g ++ Y) H ∧ va_D A (pl (L ++ NL) ad' g ++ Y) := by
  have e : pl (L ++ NL) ad' g ++ Y = pl L ad' g ++ (X ++ Y) := by
    rw [← h2, ← List.append_assoc]
    unfold pl
    rw [List.map_append]
  have hl : ∀ (ad9 : Lc → Nat) (f9 : Lc → va_E), (pl L ad9 f9).length = L.length := fun _ _ => by unfold pl; rw [List.length_map]
  refine w_same (fun k q hq => ?_) hP hD
  rw [e] at hq
  by_cases hk : k < L.length
  · rw [List.getElem?_append_left (by rw [hl]; exact hk)] at hq ⊢
    obtain ⟨q0, h0, rfl⟩ := pl_at hq
    obtain ⟨e1, e2⟩ := h1 q0 (List.mem_of_getElem? h0)
    exact ⟨f q0, by rw [pl_idx h0, e1], e2⟩
  · rw [List.getElem?_append_right (by rw [hl]; omega)] at hq ⊢
    rw [hl] at hq ⊢
    exact ⟨q.2, hq, sameE_rf _⟩
def capD (N : NN) : Nat := if N 7 0 0 = 0 then 10 else if N 5 0 0 < N 7 0 0 then N 7 0 0 else N 5 0 0 + mx (N 5 0 0)
theorem capD_ok {N : NN} (h : N 5 0 0 < 100) (h2 : N 5 0 0 ≤ N 7 0 0) (h3 : N 7 0 0 ≤ 150) : N 5 0 0 + 1 ≤ capD N ∧ capD N ≤ 150 := by
  have h4 := mx_le (N 5 0 0)
  have h5 := mx_pos (N 5 0 0)
  unfold capD
  split
  · omega
  · split <;> omega
def S_dut (S : SS) (j : Nat) (dy : Int32) : SS := su (su S 9 j (upd (upd (S 9 j) 0 (nI 0)) 1 dy)) 11 0 (upd (S 11 0) 0 (S 11 0 0 + nI 1))
def N_dut (N : NN) (i v : Nat) : NN := nu (nu (nu N 3 (N 5 0 0) (va_up (va_up (N 3 (N 5 0 0)) 0 i) 1 v)) 5 0 (fun _ => N 5 0 0 + 1)) 7 0 (fun _ => capD N)
theorem S_dut_9 {S : SS} {j j' : Nat} {dy : Int32} (h : j' ≠ j) : S_dut S j dy 9 j' = S 9 j' := by
  unfold S_dut
  rw [su_ne (fun z => absurd z.1 (by decide)), su_ne (fun z => h z.2)]
theorem N_dut_3 {N : NN} {i v j' : Nat} (h : j' ≠ N 5 0 0) : N_dut N i v 3 j' = N 3 j' := by
  unfold N_dut
  rw [nu_ne (fun z => absurd z.1 (by decide)), nu_ne (fun z => absurd z.1 (by decide)), nu_ne (fun z => h z.2)]
theorem N_dut_3i {N : NN} {i v : Nat} : N_dut N i v 3 (N 5 0 0) = va_up (va_up (N 3 (N 5 0 0)) 0 i) 1 v := by
  unfold N_dut
  rw [nu_ne (fun z => absurd z.1 (by decide)), nu_ne (fun z => absurd z.1 (by decide)), nu_self]

theorem w_dutyA {D : va_G} {A : Nat → Prop} {cy : Nat → ClassId} {e0 : Nat} {ad : Lc → Nat} {L : List Lc} {S : SS} {N : NN} {H : Heap} {a i v z16 b : Nat} {dy : Int32} {x : va_E} (hI : okC L N) (hX : okX L N) (h10 : N 5 0 0 < 100) (hi : i < N 0 0 0) (hv : (9, v) ∈ L) (h7 : N 7 0 0 = 0) (hz : (cw cy e0 ad L S N)[z16]? = some (ad (16, 0), x)) (hD0 : va_D A (cw cy e0 ad L S N)) (hP : va_P D vwCl ((cw cy e0 ad L S N).set z16 (ad (16, 0), .inr (0, [.int (S 11 0 0 + nI 1), .ref b, .int (nI 1)])) ++ [(a, .inr (2, [.ref (ad (0, i)), .ref (ad (9, v)), .int (nI 0), .int dy])), (b, .inl (cy 3, 10, .inr (.inr (.inr (.inr (va_up (fun _ => none) 0 (some a)))))))]) H) (hD : va_D A ((cw cy e0 ad L S N).set z16 (ad (16, 0), .inr (0, [.int (S 11 0 0 + nI 1), .ref b, .int (nI 1)])) ++ [(a, .inr (2, [.ref (ad (0, i)), .ref (ad (9, v)), .int (nI 0), .int dy])), (b, .inl (cy 3, 10, .inr (.inr (.inr (.inr (va_up (fun _ => none) 0 (some a)))))))])) :
    va_P D vwCl (cw cy e0 (au (au ad 8 (N 5 0 0) a) 17 0 b) (L ++ [(8, N 5 0 0), (17, 0)]) (S_dut S (N 5 0 0) dy) (N_dut N i v)) H ∧ va_D A (cw cy e0 (au (au ad 8 (N 5 0 0) a) 17 0 b) (L ++ [(8, N 5 0 0), (17, 0)]) (S_dut S (N 5 0 0) dy) (N_dut N i v)) ∧ okC (L ++ [(8, N 5 0 0), (17, 0)]) (N_dut N i v) ∧ okX (L ++ [(8, N 5 0 0), (17, 0)]) (N_dut N i v) := by
  obtain ⟨⟨hM0, hM8, hM9, hMF, hM15, hM17⟩, hV, hLt, hO, hDu, hnc, hnd, hcC, hcD, hcC2, hcD2⟩ := hI
  obtain ⟨x1, x2, x3, x4, x5, x6, x7, x8⟩ := hX
  obtain ⟨hc1, hc2⟩ := capD_ok h10 hcD x8
  have hj : ∀ j, (8, j) ∈ L → j ≠ N 5 0 0 := fun j h => Nat.ne_of_lt (x2 j h)
  have hd0 : N 5 0 0 = 0 := by omega
  have hcap : capD N = 10 := if_pos h7
  have h17 : (17, 0) ∉ L := fun h => x6 h h7
  rw [pl_put _ hD0 hz (hMF 16 (by decide))] at hP hD
  have hL : ∀ q ∈ L, (au (au ad 8 (N 5 0 0) a) 17 0 b) q = ad q := fun q hq => by
    rw [au_ne (fun z => h17 (z ▸ hq))]
    exact au_ne (fun z => hj _ (z ▸ hq) rfl)
  have hrow : ∀ j, (if j < N 5 0 0 + 1 then some ((au (au ad 8 (N 5 0 0) a) 17 0 b) (8, j)) else none) = va_up (fun j => if j < N 5 0 0 then some (ad (8, j)) else none) (N 5 0 0) (some a) j := fun j => by
    by_cases h : j = N 5 0 0
    · rw [h, va_up_self, if_pos (Nat.lt_succ_self _)]
      congr 1
      rw [au_ne (fun z => absurd (congrArg Prod.fst z) (by decide : ¬ (8 : Nat) = 17))]
      exact au_self _ _ _ _
    · rw [va_up_ne _ _ h]
      by_cases h1 : j < N 5 0 0
      · rw [if_pos h1, if_pos (by omega)]
        congr 1
        rw [au_ne (fun z => absurd (congrArg Prod.fst z) (by decide : ¬ (8 : Nat) = 17))]
        exact au_ne (fun z => h (congrArg Prod.snd z))
      · rw [if_neg h1, if_neg (by omega)]
  obtain ⟨hP, hD⟩ := w_ext (NL := [(8, N 5 0 0), (17, 0)]) (ad' := (au (au ad 8 (N 5 0 0) a) 17 0 b)) (g := (cc cy e0 (au (au ad 8 (N 5 0 0) a) 17 0 b) (S_dut S (N 5 0 0) dy) (N_dut N i v))) hP hD (fun q hq => ⟨hL q hq, by
      obtain ⟨kk, j⟩ := q
      by_cases h16 : kk = 16
      · subst h16
        have hi0 : j = 0 := x4 16 j (by decide) hq
        subst hi0
        rw [pu_self]
        refine Or.inl ?_
        simp only [cc, N_dut, nu_self]
        rw [if_neg (by omega), au_self]
        simp [S_dut, su, nu, upd, hd0]
      · rw [pu_ne (fun z => h16 (congrArg Prod.fst z))]
        match kk, h16, hq with
        | 0, _, hq => exact sameE_rf _
        | 1, _, hq => exact sameE_rf _
        | 2, _, hq => exact sameE_rf _
        | 3, _, hq => exact sameE_rf _
        | 4, _, hq => exact sameE_rf _
        | 5, _, hq => exact sameE_rf _
        | 6, _, hq => exact sameE_rf _
        | 7, _, hq => exact sameE_rf _
        | 8, _, hq =>
          have h := hj j hq
          refine Or.inl ?_
          simp only [cc]
          rw [N_dut_3 h, S_dut_9 h]
          rfl
        | 9, _, hq => exact sameE_rf _
        | 10, _, hq => exact sameE_rf _
        | 11, _, hq => exact sameE_rf _
        | 12, _, hq => exact sameE_rf _
        | 13, _, hq => exact sameE_rf _
        | 14, _, hq => exact sameE_rf _
        | 15, _, hq => exact sameE_rf _
        | 16, h, hq => exact absurd rfl h
        | 17, _, hq => exact absurd ((x4 17 j (by decide) hq) ▸ hq) h17
        | kk + 18, _, hq => exact sameE_rf _⟩) (by
      show [((au (au ad 8 (N 5 0 0) a) 17 0 b) (8, N 5 0 0), (cc cy e0 (au (au ad 8 (N 5 0 0) a) 17 0 b) (S_dut S (N 5 0 0) dy) (N_dut N i v)) (8, N 5 0 0)), ((au (au ad 8 (N 5 0 0) a) 17 0 b) (17, 0), (cc cy e0 (au (au ad 8 (N 5 0 0) a) 17 0 b) (S_dut S (N 5 0 0) dy) (N_dut N i v)) (17, 0))] = _
      rw [au_self, au_ne (fun z => absurd (congrArg Prod.fst z) (by decide : ¬ (8 : Nat) = 17)), au_self]
      simp only [cc]
      rw [N_dut_3i, show N_dut N i v 7 0 0 = capD N from rfl, hcap, show N_dut N i v 5 0 0 = N 5 0 0 + 1 from rfl]
      congr 1
      · simp [S_dut, su, upd, va_up, au]
      · congr 2
        congr 7
        funext c
        rw [hrow c, hd0]
        congr 1
      )
  have mem : ∀ q, q ∈ L → q ∈ (L ++ [(8, N 5 0 0), (17, 0)]) := fun q h => List.mem_append_left _ h
  have mem1 : (8, N 5 0 0) ∈ (L ++ [(8, N 5 0 0), (17, 0)]) := List.mem_append_right _ (by simp)
  have mem' : ∀ q, q ∈ (L ++ [(8, N 5 0 0), (17, 0)]) → q ∈ L ∨ q = (8, N 5 0 0) ∨ q = (17, 0) := fun q h => by
    rcases List.mem_append.mp h with h | h
    · exact Or.inl h
    · rcases List.mem_cons.mp h with h | h
      · exact Or.inr (Or.inl h)
      · exact Or.inr (Or.inr (List.mem_singleton.mp h))
  have hN5 : N_dut N i v 5 0 0 = N 5 0 0 + 1 := rfl
  have hN7 : N_dut N i v 7 0 0 = capD N := rfl
  refine ⟨hP, hD, ⟨⟨fun k i h1 h2 => mem _ (hM0 k i h1 h2), fun j h => ?_, fun c n h1 h2 => mem _ (hM9 c n h1 h2), fun k h => mem _ (hMF k h), fun h => mem _ (hM15 h), fun _ => List.mem_append_right _ (by simp)⟩, hV, hLt, hO, fun j h => ?_, hnc, h10, hcC, hc1, hcC2, Nat.le_trans hc2 (by decide)⟩, ?_, ?_, ?_, ?_, ?_, fun _ => (by rw [hN7]; omega), x7, hc2⟩
  · by_cases h2 : j = N 5 0 0
    · subst h2; exact mem1
    · exact mem _ (hM8 j (by rw [hN5] at h; omega))
  · by_cases h2 : j = N 5 0 0
    · subst h2
      rw [N_dut_3i]
      exact ⟨by rw [va_up_ne _ _ (by decide), va_up_self]; exact hi, by rw [va_up_self]; exact mem _ hv⟩
    · rw [N_dut_3 h2]
      have h3 := hDu j (by rw [hN5] at h; omega)
      exact ⟨h3.1, mem _ h3.2⟩
  · intro k i h1 h2
    rcases mem' _ h2 with h | h | h
    · exact x1 k i h1 h
    · have e : k = 8 := congrArg Prod.fst h; omega
    · have e : k = 17 := congrArg Prod.fst h; omega
  · intro j h2
    rcases mem' _ h2 with h | h | h
    · exact Nat.lt_succ_of_lt (x2 j h)
    · have e : j = N 5 0 0 := congrArg Prod.snd h; rw [hN5]; omega
    · exact absurd (congrArg Prod.fst h) (by decide : ¬ (8 : Nat) = 17)
  · intro w h2
    rcases mem' _ h2 with h | h | h
    · exact x3 w h
    · exact absurd (congrArg Prod.fst h) (by decide : ¬ (9 : Nat) = 8)
    · exact absurd (congrArg Prod.fst h) (by decide : ¬ (9 : Nat) = 17)
  · intro k i h1 h2
    rcases mem' _ h2 with h | h | h
    · exact x4 k i h1 h
    · have e : k = 8 := congrArg Prod.fst h; omega
    · exact congrArg Prod.snd h
  · intro h2
    rcases mem' _ h2 with h | h | h
    · exact x5 h
    · exact absurd (congrArg Prod.fst h) (by decide : ¬ (15 : Nat) = 8)
    · exact absurd (congrArg Prod.fst h) (by decide : ¬ (15 : Nat) = 17)

theorem w_dutyB {D : va_G} {A : Nat → Prop} {cy : Nat → ClassId} {e0 : Nat} {ad : Lc → Nat} {L : List Lc} {S : SS} {N : NN} {H : Heap} {a i v z16 z17 : Nat} {dy : Int32} {x y : va_E} (hI : okC L N) (hX : okX L N) (h10 : N 5 0 0 < 100) (hi : i < N 0 0 0) (hv : (9, v) ∈ L) (h7 : ¬ N 7 0 0 = 0) (h57 : N 5 0 0 < N 7 0 0) (hz : (cw cy e0 ad L S N)[z16]? = some (ad (16, 0), x)) (hz2 : (cw cy e0 ad L S N)[z17]? = some (ad (17, 0), y)) (hD0 : va_D A (cw cy e0 ad L S N)) (hP : va_P D vwCl (((cw cy e0 ad L S N).set z17 (ad (17, 0), .inl (cy 3, N 7 0 0, .inr (.inr (.inr (.inr (va_up (fun j => if j < N 5 0 0 then some (ad (8, j)) else none) (N 5 0 0) (some a)))))))).set z16 (ad (16, 0), .inr (0, [.int (S 11 0 0 + nI 1), .ref (ad (17, 0)), .int (nI (N 5 0 0 + 1))])) ++ [(a, .inr (2, [.ref (ad (0, i)), .ref (ad (9, v)), .int (nI 0), .int dy]))]) H) (hD : va_D A (((cw cy e0 ad L S N).set z17 (ad (17, 0), .inl (cy 3, N 7 0 0, .inr (.inr (.inr (.inr (va_up (fun j => if j < N 5 0 0 then some (ad (8, j)) else none) (N 5 0 0) (some a)))))))).set z16 (ad (16, 0), .inr (0, [.int (S 11 0 0 + nI 1), .ref (ad (17, 0)), .int (nI (N 5 0 0 + 1))])) ++ [(a, .inr (2, [.ref (ad (0, i)), .ref (ad (9, v)), .int (nI 0), .int dy]))])) :
    va_P D vwCl (cw cy e0 (au ad 8 (N 5 0 0) a) (L ++ [(8, N 5 0 0)]) (S_dut S (N 5 0 0) dy) (N_dut N i v)) H ∧ va_D A (cw cy e0 (au ad 8 (N 5 0 0) a) (L ++ [(8, N 5 0 0)]) (S_dut S (N 5 0 0) dy) (N_dut N i v)) ∧ okC (L ++ [(8, N 5 0 0)]) (N_dut N i v) ∧ okX (L ++ [(8, N 5 0 0)]) (N_dut N i v) := by
  obtain ⟨⟨hM0, hM8, hM9, hMF, hM15, hM17⟩, hV, hLt, hO, hDu, hnc, hnd, hcC, hcD, hcC2, hcD2⟩ := hI
  obtain ⟨x1, x2, x3, x4, x5, x6, x7, x8⟩ := hX
  obtain ⟨hc1, hc2⟩ := capD_ok h10 hcD x8
  have hj : ∀ j, (8, j) ∈ L → j ≠ N 5 0 0 := fun j h => Nat.ne_of_lt (x2 j h)
  have hcap : capD N = N 7 0 0 := by unfold capD; rw [if_neg h7, if_pos h57]
  rw [pl_put _ hD0 hz2 (hM17 h7), pl_put _ (plD _ hD0) (pl_ix _ hD0 hz (hMF 16 (by decide))) (hMF 16 (by decide))] at hP hD
  have hL : ∀ q ∈ L, (au ad 8 (N 5 0 0) a) q = ad q := fun q hq => by
    exact au_ne (fun z => hj _ (z ▸ hq) rfl)
  have hrow : ∀ j, (if j < N 5 0 0 + 1 then some ((au ad 8 (N 5 0 0) a) (8, j)) else none) = va_up (fun j => if j < N 5 0 0 then some (ad (8, j)) else none) (N 5 0 0) (some a) j := fun j => by
    by_cases h : j = N 5 0 0
    · rw [h, va_up_self, if_pos (Nat.lt_succ_self _)]
      congr 1
      exact au_self _ _ _ _
    · rw [va_up_ne _ _ h]
      by_cases h1 : j < N 5 0 0
      · rw [if_pos h1, if_pos (by omega)]
        congr 1
        exact au_ne (fun z => h (congrArg Prod.snd z))
      · rw [if_neg h1, if_neg (by omega)]
  obtain ⟨hP, hD⟩ := w_ext (NL := [(8, N 5 0 0)]) (ad' := (au ad 8 (N 5 0 0) a)) (g := (cc cy e0 (au ad 8 (N 5 0 0) a) (S_dut S (N 5 0 0) dy) (N_dut N i v))) hP hD (fun q hq => ⟨hL q hq, by
      obtain ⟨kk, j⟩ := q
      by_cases h16 : kk = 16
      · subst h16
        have hi0 : j = 0 := x4 16 j (by decide) hq
        subst hi0
        rw [pu_self]
        refine Or.inl ?_
        simp only [cc, N_dut, nu_self]
        rw [if_neg (by omega), show au ad 8 (N 5 0 0) a (17, 0) = ad (17, 0) from rfl]
        simp [S_dut, su, nu, upd]
      · rw [pu_ne (fun z => h16 (congrArg Prod.fst z))]
        by_cases h17 : kk = 17
        · subst h17
          have hi0 : j = 0 := x4 17 j (by decide) hq
          subst hi0
          rw [pu_self]
          refine Or.inl ?_
          simp only [cc]
          rw [show N_dut N i v 7 0 0 = capD N from rfl, hcap, show N_dut N i v 5 0 0 = N 5 0 0 + 1 from rfl]
          congr 7
          funext c
          exact (hrow c).symm
        rw [pu_ne (fun z => h17 (congrArg Prod.fst z))]
        match kk, h16, hq with
        | 0, _, hq => exact sameE_rf _
        | 1, _, hq => exact sameE_rf _
        | 2, _, hq => exact sameE_rf _
        | 3, _, hq => exact sameE_rf _
        | 4, _, hq => exact sameE_rf _
        | 5, _, hq => exact sameE_rf _
        | 6, _, hq => exact sameE_rf _
        | 7, _, hq => exact sameE_rf _
        | 8, _, hq =>
          have h := hj j hq
          refine Or.inl ?_
          simp only [cc]
          rw [N_dut_3 h, S_dut_9 h]
          rfl
        | 9, _, hq => exact sameE_rf _
        | 10, _, hq => exact sameE_rf _
        | 11, _, hq => exact sameE_rf _
        | 12, _, hq => exact sameE_rf _
        | 13, _, hq => exact sameE_rf _
        | 14, _, hq => exact sameE_rf _
        | 15, _, hq => exact sameE_rf _
        | 16, h, hq => exact absurd rfl h
        | 17, _, hq => exact absurd rfl h17
        | kk + 18, _, hq => exact sameE_rf _⟩) (by
      show [((au ad 8 (N 5 0 0) a) (8, N 5 0 0), (cc cy e0 (au ad 8 (N 5 0 0) a) (S_dut S (N 5 0 0) dy) (N_dut N i v)) (8, N 5 0 0))] = _
      rw [au_self]
      simp only [cc]
      rw [N_dut_3i]
      simp [S_dut, su, upd, va_up, au]
      )
  have mem : ∀ q, q ∈ L → q ∈ (L ++ [(8, N 5 0 0)]) := fun q h => List.mem_append_left _ h
  have mem1 : (8, N 5 0 0) ∈ (L ++ [(8, N 5 0 0)]) := List.mem_append_right _ (by simp)
  have mem' : ∀ q, q ∈ (L ++ [(8, N 5 0 0)]) → q ∈ L ∨ q = (8, N 5 0 0) ∨ False := fun q h => by
    rcases List.mem_append.mp h with h | h
    · exact Or.inl h
    · exact Or.inr (Or.inl (List.mem_singleton.mp h))
  have hN5 : N_dut N i v 5 0 0 = N 5 0 0 + 1 := rfl
  have hN7 : N_dut N i v 7 0 0 = capD N := rfl
  refine ⟨hP, hD, ⟨⟨fun k i h1 h2 => mem _ (hM0 k i h1 h2), fun j h => ?_, fun c n h1 h2 => mem _ (hM9 c n h1 h2), fun k h => mem _ (hMF k h), fun h => mem _ (hM15 h), fun _ => mem _ (hM17 h7)⟩, hV, hLt, hO, fun j h => ?_, hnc, h10, hcC, hc1, hcC2, Nat.le_trans hc2 (by decide)⟩, ?_, ?_, ?_, ?_, ?_, fun _ => (by rw [hN7]; omega), x7, hc2⟩
  · by_cases h2 : j = N 5 0 0
    · subst h2; exact mem1
    · exact mem _ (hM8 j (by rw [hN5] at h; omega))
  · by_cases h2 : j = N 5 0 0
    · subst h2
      rw [N_dut_3i]
      exact ⟨by rw [va_up_ne _ _ (by decide), va_up_self]; exact hi, by rw [va_up_self]; exact mem _ hv⟩
    · rw [N_dut_3 h2]
      have h3 := hDu j (by rw [hN5] at h; omega)
      exact ⟨h3.1, mem _ h3.2⟩
  · intro k i h1 h2
    rcases mem' _ h2 with h | h | h
    · exact x1 k i h1 h
    · have e : k = 8 := congrArg Prod.fst h; omega
    · exact h.elim
  · intro j h2
    rcases mem' _ h2 with h | h | h
    · exact Nat.lt_succ_of_lt (x2 j h)
    · have e : j = N 5 0 0 := congrArg Prod.snd h; rw [hN5]; omega
    · exact h.elim
  · intro w h2
    rcases mem' _ h2 with h | h | h
    · exact x3 w h
    · exact absurd (congrArg Prod.fst h) (by decide : ¬ (9 : Nat) = 8)
    · exact h.elim
  · intro k i h1 h2
    rcases mem' _ h2 with h | h | h
    · exact x4 k i h1 h
    · have e : k = 8 := congrArg Prod.fst h; omega
    · exact h.elim
  · intro h2
    rcases mem' _ h2 with h | h | h
    · exact x5 h
    · exact absurd (congrArg Prod.fst h) (by decide : ¬ (15 : Nat) = 8)
    · exact h.elim

theorem w_dutyC {D : va_G} {A : Nat → Prop} {cy : Nat → ClassId} {e0 : Nat} {ad : Lc → Nat} {L : List Lc} {S : SS} {N : NN} {H : Heap} {a i v z16 b : Nat} {dy : Int32} {x : va_E} (hI : okC L N) (hX : okX L N) (h10 : N 5 0 0 < 100) (hi : i < N 0 0 0) (hv : (9, v) ∈ L) (h7 : ¬ N 7 0 0 = 0) (h57 : N 7 0 0 = N 5 0 0) (hz : (cw cy e0 ad L S N)[z16]? = some (ad (16, 0), x)) (hD0 : va_D A (cw cy e0 ad L S N)) (hP : va_P D vwCl ((cw cy e0 ad L S N).set z16 (ad (16, 0), .inr (0, [.int (S 11 0 0 + nI 1), .ref b, .int (nI (N 5 0 0 + 1))])) ++ [(a, .inr (2, [.ref (ad (0, i)), .ref (ad (9, v)), .int (nI 0), .int dy])), (b, .inl (cy 3, N 5 0 0 + mx (N 5 0 0), .inr (.inr (.inr (.inr (va_up (fun i => if i < N 5 0 0 then (fun j => if j < N 5 0 0 then some (ad (8, j)) else none) i else none) (N 5 0 0) (some a)))))))]) H) (hD : va_D A ((cw cy e0 ad L S N).set z16 (ad (16, 0), .inr (0, [.int (S 11 0 0 + nI 1), .ref b, .int (nI (N 5 0 0 + 1))])) ++ [(a, .inr (2, [.ref (ad (0, i)), .ref (ad (9, v)), .int (nI 0), .int dy])), (b, .inl (cy 3, N 5 0 0 + mx (N 5 0 0), .inr (.inr (.inr (.inr (va_up (fun i => if i < N 5 0 0 then (fun j => if j < N 5 0 0 then some (ad (8, j)) else none) i else none) (N 5 0 0) (some a)))))))])) :
    va_P D vwCl (cw cy e0 (au (au ad 8 (N 5 0 0) a) 17 0 b) (L ++ [(8, N 5 0 0)]) (S_dut S (N 5 0 0) dy) (N_dut N i v)) H ∧ va_D A (cw cy e0 (au (au ad 8 (N 5 0 0) a) 17 0 b) (L ++ [(8, N 5 0 0)]) (S_dut S (N 5 0 0) dy) (N_dut N i v)) ∧ okC (L ++ [(8, N 5 0 0)]) (N_dut N i v) ∧ okX (L ++ [(8, N 5 0 0)]) (N_dut N i v) := by
  obtain ⟨⟨hM0, hM8, hM9, hMF, hM15, hM17⟩, hV, hLt, hO, hDu, hnc, hnd, hcC, hcD, hcC2, hcD2⟩ := hI
  obtain ⟨x1, x2, x3, x4, x5, x6, x7, x8⟩ := hX
  obtain ⟨hc1, hc2⟩ := capD_ok h10 hcD x8
  have hj : ∀ j, (8, j) ∈ L → j ≠ N 5 0 0 := fun j h => Nat.ne_of_lt (x2 j h)
  have hcap : capD N = N 5 0 0 + mx (N 5 0 0) := by unfold capD; rw [if_neg h7, if_neg (by omega)]
  rw [pl_put _ hD0 hz (hMF 16 (by decide))] at hP hD
  have hL : ∀ q ∈ L, (au ad 8 (N 5 0 0) a) q = ad q := fun q hq => by
    exact au_ne (fun z => hj _ (z ▸ hq) rfl)
  have hrow : ∀ j, (if j < N 5 0 0 + 1 then some ((au (au ad 8 (N 5 0 0) a) 17 0 b) (8, j)) else none) = va_up (fun j => if j < N 5 0 0 then some (ad (8, j)) else none) (N 5 0 0) (some a) j := fun j => by
    by_cases h : j = N 5 0 0
    · rw [h, va_up_self, if_pos (Nat.lt_succ_self _)]
      congr 1
      rw [au_ne (fun z => absurd (congrArg Prod.fst z) (by decide : ¬ (8 : Nat) = 17))]
      exact au_self _ _ _ _
    · rw [va_up_ne _ _ h]
      by_cases h1 : j < N 5 0 0
      · rw [if_pos h1, if_pos (by omega)]
        congr 1
        rw [au_ne (fun z => absurd (congrArg Prod.fst z) (by decide : ¬ (8 : Nat) = 17))]
        exact au_ne (fun z => h (congrArg Prod.snd z))
      · rw [if_neg h1, if_neg (by omega)]
  obtain ⟨hP, hD⟩ := w_extY (X := [(a, .inr (2, [.ref (ad (0, i)), .ref (ad (9, v)), .int (nI 0), .int dy]))]) (Y := [(b, .inl (cy 3, N 5 0 0 + mx (N 5 0 0), .inr (.inr (.inr (.inr (va_up (fun i => if i < N 5 0 0 then (fun j => if j < N 5 0 0 then some (ad (8, j)) else none) i else none) (N 5 0 0) (some a)))))))]) (NL := [(8, N 5 0 0)]) (ad' := (au ad 8 (N 5 0 0) a)) (g := (pu (cc cy e0 (au (au ad 8 (N 5 0 0) a) 17 0 b) (S_dut S (N 5 0 0) dy) (N_dut N i v)) (17, 0) (cc cy e0 ad S N (17, 0)))) hP hD (fun q hq => ⟨hL q hq, by
      obtain ⟨kk, j⟩ := q
      by_cases h16 : kk = 16
      · subst h16
        have hi0 : j = 0 := x4 16 j (by decide) hq
        subst hi0
        rw [pu_self, pu_ne (fun z => absurd (congrArg Prod.fst z) (by decide : ¬ (16 : Nat) = 17))]
        refine Or.inl ?_
        simp only [cc, N_dut, nu_self]
        rw [if_neg (by omega), au_self]
        simp [S_dut, su, nu, upd]
      · rw [pu_ne (fun z => h16 (congrArg Prod.fst z))]
        by_cases h17 : kk = 17
        · subst h17
          have hi0 : j = 0 := x4 17 j (by decide) hq
          subst hi0
          rw [pu_self]
          exact sameE_rf _
        rw [pu_ne (fun z => h17 (congrArg Prod.fst z))]
        match kk, h16, hq with
        | 0, _, hq => exact sameE_rf _
        | 1, _, hq => exact sameE_rf _
        | 2, _, hq => exact sameE_rf _
        | 3, _, hq => exact sameE_rf _
        | 4, _, hq => exact sameE_rf _
        | 5, _, hq => exact sameE_rf _
        | 6, _, hq => exact sameE_rf _
        | 7, _, hq => exact sameE_rf _
        | 8, _, hq =>
          have h := hj j hq
          refine Or.inl ?_
          simp only [cc]
          rw [N_dut_3 h, S_dut_9 h]
          rfl
        | 9, _, hq => exact sameE_rf _
        | 10, _, hq => exact sameE_rf _
        | 11, _, hq => exact sameE_rf _
        | 12, _, hq => exact sameE_rf _
        | 13, _, hq => exact sameE_rf _
        | 14, _, hq => exact sameE_rf _
        | 15, _, hq => exact sameE_rf _
        | 16, h, hq => exact absurd rfl h
        | 17, _, hq => exact absurd rfl h17
        | kk + 18, _, hq => exact sameE_rf _⟩) (by
      show [((au ad 8 (N 5 0 0) a) (8, N 5 0 0), (pu (cc cy e0 (au (au ad 8 (N 5 0 0) a) 17 0 b) (S_dut S (N 5 0 0) dy) (N_dut N i v)) (17, 0) (cc cy e0 ad S N (17, 0))) (8, N 5 0 0))] = _
      rw [au_self, pu_ne (fun z => absurd (congrArg Prod.fst z) (by decide : ¬ (8 : Nat) = 17))]
      simp only [cc]
      rw [N_dut_3i]
      simp [S_dut, su, upd, va_up, au]
      )
  obtain ⟨hP, hD⟩ := pl_swap (ad' := (au (au ad 8 (N 5 0 0) a) 17 0 b)) (g := (cc cy e0 (au (au ad 8 (N 5 0 0) a) 17 0 b) (S_dut S (N 5 0 0) dy) (N_dut N i v))) (q := (17, 0)) (au_self _ _ _ _) (by
      simp only [cc]
      rw [show N_dut N i v 7 0 0 = capD N from rfl, hcap, show N_dut N i v 5 0 0 = N 5 0 0 + 1 from rfl]
      congr 7
      funext c
      rw [hrow c]
      by_cases h : c = N 5 0 0
      · rw [h, va_up_self, va_up_self]
      · rw [va_up_ne _ _ h, va_up_ne _ _ h]
        split <;> rfl
      ) (List.mem_append_left _ (hM17 h7)) (fun q' hne => ⟨au_ne hne, (pu_ne hne).symm⟩) hP hD (hD.by (fun k => k) (fun k q h => app_at h) (fun i j _ _ h => h))
  have mem : ∀ q, q ∈ L → q ∈ (L ++ [(8, N 5 0 0)]) := fun q h => List.mem_append_left _ h
  have mem1 : (8, N 5 0 0) ∈ (L ++ [(8, N 5 0 0)]) := List.mem_append_right _ (by simp)
  have mem' : ∀ q, q ∈ (L ++ [(8, N 5 0 0)]) → q ∈ L ∨ q = (8, N 5 0 0) ∨ False := fun q h => by
    rcases List.mem_append.mp h with h | h
    · exact Or.inl h
    · exact Or.inr (Or.inl (List.mem_singleton.mp h))
  have hN5 : N_dut N i v 5 0 0 = N 5 0 0 + 1 := rfl
  have hN7 : N_dut N i v 7 0 0 = capD N := rfl
  refine ⟨hP, hD, ⟨⟨fun k i h1 h2 => mem _ (hM0 k i h1 h2), fun j h => ?_, fun c n h1 h2 => mem _ (hM9 c n h1 h2), fun k h => mem _ (hMF k h), fun h => mem _ (hM15 h), fun _ => mem _ (hM17 h7)⟩, hV, hLt, hO, fun j h => ?_, hnc, h10, hcC, hc1, hcC2, Nat.le_trans hc2 (by decide)⟩, ?_, ?_, ?_, ?_, ?_, fun _ => (by rw [hN7]; omega), x7, hc2⟩
  · by_cases h2 : j = N 5 0 0
    · subst h2; exact mem1
    · exact mem _ (hM8 j (by rw [hN5] at h; omega))
  · by_cases h2 : j = N 5 0 0
    · subst h2
      rw [N_dut_3i]
      exact ⟨by rw [va_up_ne _ _ (by decide), va_up_self]; exact hi, by rw [va_up_self]; exact mem _ hv⟩
    · rw [N_dut_3 h2]
      have h3 := hDu j (by rw [hN5] at h; omega)
      exact ⟨h3.1, mem _ h3.2⟩
  · intro k i h1 h2
    rcases mem' _ h2 with h | h | h
    · exact x1 k i h1 h
    · have e : k = 8 := congrArg Prod.fst h; omega
    · exact h.elim
  · intro j h2
    rcases mem' _ h2 with h | h | h
    · exact Nat.lt_succ_of_lt (x2 j h)
    · have e : j = N 5 0 0 := congrArg Prod.snd h; rw [hN5]; omega
    · exact h.elim
  · intro w h2
    rcases mem' _ h2 with h | h | h
    · exact x3 w h
    · exact absurd (congrArg Prod.fst h) (by decide : ¬ (9 : Nat) = 8)
    · exact h.elim
  · intro k i h1 h2
    rcases mem' _ h2 with h | h | h
    · exact x4 k i h1 h
    · have e : k = 8 := congrArg Prod.fst h; omega
    · exact h.elim
  · intro h2
    rcases mem' _ h2 with h | h | h
    · exact x5 h
    · exact absurd (congrArg Prod.fst h) (by decide : ¬ (15 : Nat) = 8)
    · exact h.elim

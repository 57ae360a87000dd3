/-! a contract is begun -/
def S_beg (S : SS) (i : Nat) : SS := su (su (su (su (su (su S 4 i (fun _ => nI 0)) 5 i (fun _ => nI 0)) 6 i (fun _ => nI 0)) 7 i (fun _ => nI 0)) 8 i (fun _ => nI 0)) 10 0 (upd (S 10 0) 0 (S 10 0 0 + nI 1))
def N_beg (N : NN) (i : Nat) : NN := nu (nu (nu N 0 0 (fun _ => i + 1)) 2 i (fun _ => 0)) 6 0 (fun _ => 10)
def adB (ad : Lc → Nat) (i a : Nat) (u : Nat → Nat) : Lc → Nat := fun q => if q.1 ≤ 7 ∧ q.2 = i then (if q.1 = 0 then a else u q.1) else ad q
theorem adB_ne {ad : Lc → Nat} {i a : Nat} {u : Nat → Nat} {k j : Nat} (h : j ≠ i) : adB ad i a u (k, j) = ad (k, j) := if_neg (fun z => h z.2)
theorem S_beg_ne {S : SS} {i k j : Nat} (h : j ≠ i) (hk : k ≠ 10) : S_beg S i k j = S k j := by
  unfold S_beg
  rw [su_ne (fun z => hk z.1), su_ne (fun z => h z.2), su_ne (fun z => h z.2), su_ne (fun z => h z.2), su_ne (fun z => h z.2), su_ne (fun z => h z.2)]
theorem N_beg_2 {N : NN} {i j : Nat} (h : j ≠ i) : N_beg N i 2 j = N 2 j := by
  unfold N_beg
  rw [nu_ne (fun z => absurd z.1 (by decide)), nu_ne (fun z => h z.2), nu_ne (fun z => absurd z.1 (by decide))]
theorem N_beg_2i {N : NN} {i : Nat} : N_beg N i 2 i = fun _ => 0 := by
  unfold N_beg
  rw [nu_ne (fun z => absurd z.1 (by decide)), nu_self]
abbrev NLB (i : Nat) : List Lc := [(0, i), (1, i), (2, i), (3, i), (4, i), (5, i), (6, i), (7, i)]
theorem NLB_mem {i k : Nat} (h : k ≤ 7) : (k, i) ∈ NLB i := by
  match k, h with
  | 0, _ => simp
  | 1, _ => simp
  | 2, _ => simp
  | 3, _ => simp
  | 4, _ => simp
  | 5, _ => simp
  | 6, _ => simp
  | 7, _ => simp
  | n + 8, h => omega
theorem NLB_le {i : Nat} {q : Lc} (h : q ∈ NLB i) : q.1 ≤ 7 ∧ q.2 = i := by
  simp only [NLB, List.mem_cons, List.not_mem_nil, or_false] at h
  rcases h with rfl | rfl | rfl | rfl | rfl | rfl | rfl | rfl <;> exact ⟨Nat.le_of_ble_eq_true rfl, rfl⟩

theorem w_beginA {D : va_G} {A : Nat → Prop} {cy : Nat → ClassId} {e0 : Nat} {ad : Lc → Nat} {L : List Lc} {S : SS} {N : NN} {H : Heap} {a z14 b : Nat} {u : Nat → Nat} {x : va_E} (hI : okC L N) (hX : okX L N) (h10 : N 0 0 0 < 10) (h6 : N 6 0 0 = 0) (hz : (cw cy e0 ad L S N)[z14]? = some (ad (14, 0), x)) (hD0 : va_D A (cw cy e0 ad L S N)) (hP : va_P D vwCl ((cw cy e0 ad L S N).set z14 (ad (14, 0), .inr (0, [.int (S 10 0 0 + nI 1), .ref b, .int (nI 1)])) ++ [(a, .inr (1, [.ref (u 1), .ref (u 2), .ref (u 5), .ref (u 6), .ref (u 7)])), (u 1, .inl (cy 2, 10, .inr (.inr (.inr (.inr (fun _ => none)))))), (u 2, .inl (cy 4, 2, .inr (.inr (.inr (.inr (fun s => if s = 0 then some (u 3) else some (u 4))))))), (u 3, .inl (cy 0, 10, .inl (fun _ => nI 0))), (u 4, .inl (cy 0, 10, .inl (fun _ => nI 0))), (u 5, .inl (cy 1, 2, .inl (fun _ => nI 0))), (u 6, .inl (cy 0, 2, .inl (fun _ => nI 0))), (u 7, .inl (cy 0, 2, .inl (fun _ => nI 0))), (b, .inl (cy 3, 10, .inr (.inr (.inr (.inr (va_up (fun _ => none) 0 (some a)))))))]) H) (hD : va_D A ((cw cy e0 ad L S N).set z14 (ad (14, 0), .inr (0, [.int (S 10 0 0 + nI 1), .ref b, .int (nI 1)])) ++ [(a, .inr (1, [.ref (u 1), .ref (u 2), .ref (u 5), .ref (u 6), .ref (u 7)])), (u 1, .inl (cy 2, 10, .inr (.inr (.inr (.inr (fun _ => none)))))), (u 2, .inl (cy 4, 2, .inr (.inr (.inr (.inr (fun s => if s = 0 then some (u 3) else some (u 4))))))), (u 3, .inl (cy 0, 10, .inl (fun _ => nI 0))), (u 4, .inl (cy 0, 10, .inl (fun _ => nI 0))), (u 5, .inl (cy 1, 2, .inl (fun _ => nI 0))), (u 6, .inl (cy 0, 2, .inl (fun _ => nI 0))), (u 7, .inl (cy 0, 2, .inl (fun _ => nI 0))), (b, .inl (cy 3, 10, .inr (.inr (.inr (.inr (va_up (fun _ => none) 0 (some a)))))))])) :
    va_P D vwCl (cw cy e0 (au (adB ad (N 0 0 0) a u) 15 0 b) (L ++ (NLB (N 0 0 0) ++ [(15, 0)])) (S_beg S (N 0 0 0)) (N_beg N (N 0 0 0))) H ∧ va_D A (cw cy e0 (au (adB ad (N 0 0 0) a u) 15 0 b) (L ++ (NLB (N 0 0 0) ++ [(15, 0)])) (S_beg S (N 0 0 0)) (N_beg N (N 0 0 0))) ∧ okC (L ++ (NLB (N 0 0 0) ++ [(15, 0)])) (N_beg N (N 0 0 0)) ∧ okX (L ++ (NLB (N 0 0 0) ++ [(15, 0)])) (N_beg N (N 0 0 0)) := by
  obtain ⟨⟨hM0, hM8, hM9, hMF, hM15, hM17⟩, hV, hLt, hO, hDu, hnc, hnd, hcC, hcD, hcC2, hcD2⟩ := hI
  obtain ⟨x1, x2, x3, x4, x5, x6, x7, x8⟩ := hX
  have hc0 : N 0 0 0 = 0 := by omega
  have hi : ∀ k i, k ≤ 7 → (k, i) ∈ L → i ≠ N 0 0 0 := fun k i h1 h2 => Nat.ne_of_lt (x1 k i h1 h2)
  rw [pl_put _ hD0 hz (hMF 14 (by decide))] at hP hD
  have h15 : (15, 0) ∉ L := fun h => x5 h h6
  have hk : ∀ k i, k ≤ 14 → i ≠ N 0 0 0 → (au (adB ad (N 0 0 0) a u) 15 0 b) (k, i) = ad (k, i) := fun k i h1 h2 => (au_ne (fun z => absurd (congrArg Prod.fst z) (show ¬ k = 15 by omega))).trans (adB_ne h2)
  have hL : ∀ q ∈ L, (au (adB ad (N 0 0 0) a u) 15 0 b) q = ad q := fun q hq => by
    obtain ⟨k, i⟩ := q
    rw [au_ne (fun z => h15 (z ▸ hq))]
    exact if_neg (fun z => hi k i z.1 hq z.2)
  obtain ⟨hP, hD⟩ := w_ext (NL := (NLB (N 0 0 0) ++ [(15, 0)])) (ad' := (au (adB ad (N 0 0 0) a u) 15 0 b)) (g := cc cy e0 (au (adB ad (N 0 0 0) a u) 15 0 b) (S_beg S (N 0 0 0)) (N_beg N (N 0 0 0))) hP hD (fun q hq => ⟨hL q hq, by
      obtain ⟨k, i⟩ := q
      by_cases h14 : k = 14
      · subst h14
        have hi0 : i = 0 := x4 14 i (by decide) hq
        subst hi0
        rw [pu_self]
        refine Or.inl ?_
        simp only [cc, N_beg, nu_self]
        rw [if_neg (by decide), au_self]
        simp [S_beg, su, nu, upd, hc0]
      · rw [pu_ne (fun z => h14 (congrArg Prod.fst z))]
        match k, h14, hq with
        | 0, _, hq =>
          have h := hi 0 i (by decide) hq
          refine Or.inl ?_
          simp only [cc]
          rw [hk 1 i (by decide) h, hk 2 i (by decide) h, hk 5 i (by decide) h, hk 6 i (by decide) h, hk 7 i (by decide) h]
        | 1, _, hq =>
          refine Or.inl ?_
          simp only [cc]
          rw [N_beg_2 (hi 1 i (by decide) hq)]
          rfl
        | 2, _, hq =>
          have h := hi 2 i (by decide) hq
          refine Or.inl ?_
          simp only [cc]
          rw [hk 3 i (by decide) h, hk 4 i (by decide) h]
        | 3, _, hq =>
          refine Or.inl ?_
          simp only [cc]
          rw [S_beg_ne (hi 3 i (by decide) hq) (by decide)]
        | 4, _, hq =>
          refine Or.inl ?_
          simp only [cc]
          rw [S_beg_ne (hi 4 i (by decide) hq) (by decide)]
        | 5, _, hq =>
          refine Or.inl ?_
          simp only [cc]
          rw [S_beg_ne (hi 5 i (by decide) hq) (by decide)]
        | 6, _, hq =>
          refine Or.inl ?_
          simp only [cc]
          rw [S_beg_ne (hi 6 i (by decide) hq) (by decide)]
        | 7, _, hq =>
          refine Or.inl ?_
          simp only [cc]
          rw [S_beg_ne (hi 7 i (by decide) hq) (by decide)]
        | 8, _, hq =>
          have h := (hDu i (x2 i hq)).1
          have e3 : N_beg N (N 0 0 0) 3 i = N 3 i := rfl
          refine Or.inl ?_
          simp only [cc]
          rw [e3, hk 0 _ (by decide) (by omega)]
          rfl
        | 9, _, hq => exact sameE_rf _
        | 10, _, hq => exact sameE_rf _
        | 11, _, hq => exact sameE_rf _
        | 12, _, hq => exact sameE_rf _
        | 13, _, hq => exact sameE_rf _
        | 14, h, hq => exact absurd rfl h
        | 15, _, hq => exact absurd ((x4 15 i (by decide) hq) ▸ hq) h15
        | 16, _, hq => exact sameE_rf _
        | 17, _, hq => exact sameE_rf _
        | k + 18, _, hq => exact sameE_rf _⟩) (by
      simp [pl, adB, au, cc, S_beg, N_beg, su, nu, vpt, hc0]
      try (funext j; by_cases h : j = 0 <;> simp [va_up, h])
      )
  have mem : ∀ q, q ∈ L → q ∈ (L ++ (NLB (N 0 0 0) ++ [(15, 0)])) := fun q h => List.mem_append_left _ h
  have mem1 : ∀ k, k ≤ 7 → (k, N 0 0 0) ∈ (L ++ (NLB (N 0 0 0) ++ [(15, 0)])) := fun k h => List.mem_append_right _ (List.mem_append_left _ (NLB_mem h))
  have mem' : ∀ q, q ∈ (L ++ (NLB (N 0 0 0) ++ [(15, 0)])) → q ∈ L ∨ (q.1 ≤ 7 ∧ q.2 = N 0 0 0) ∨ q = (15, 0) := fun q h => by
    rcases List.mem_append.mp h with h | h
    · exact Or.inl h
    · rcases List.mem_append.mp h with h | h
      · exact Or.inr (Or.inl (NLB_le h))
      · exact Or.inr (Or.inr (List.mem_singleton.mp h))
  refine ⟨hP, hD, ⟨⟨fun k i h1 h2 => ?_, fun j h => mem _ (hM8 j h), fun c n h1 h2 => mem _ (hM9 c n h1 h2), fun k h => mem _ (hMF k h), fun _ => List.mem_append_right _ (List.mem_append_right _ (List.mem_singleton.mpr rfl)), fun h => mem _ (hM17 h)⟩, fun i c h1 h2 => ?_, hLt, hO, fun j h => ⟨Nat.lt_succ_of_lt (hDu j h).1, mem _ (hDu j h).2⟩, h10, hnd, h10, hcD, Nat.le_refl _, hcD2⟩, ?_, ?_, ?_, ?_, fun _ => (by decide : (10 : Nat) ≠ 0), ?_, Or.inr rfl, x8⟩
  · by_cases h : i = N 0 0 0
    · subst h; exact mem1 k h1
    · exact mem _ (hM0 k i h1 (by have h3 : i < N 0 0 0 + 1 := h2; omega))
  · by_cases h : i = N 0 0 0
    · subst h; rw [N_beg_2i]; exact Nat.zero_le _
    · rw [N_beg_2 h]; exact hV i c (by have h3 : i < N 0 0 0 + 1 := h1; omega) h2
  · intro k i h1 h2
    rcases mem' _ h2 with h | h | h
    · exact Nat.lt_succ_of_lt (x1 k i h1 h)
    · have e : i = N 0 0 0 := h.2
      subst e; exact Nat.lt_succ_self _
    · have e : k = 15 := congrArg Prod.fst h; omega
  · intro j h2
    rcases mem' _ h2 with h | h | h
    · exact x2 j h
    · exact absurd h.1 (by decide : ¬ (8 : Nat) ≤ 7)
    · exact absurd (congrArg Prod.fst h) (by decide : ¬ (8 : Nat) = 15)
  · intro v h2
    rcases mem' _ h2 with h | h | h
    · exact x3 v h
    · exact absurd h.1 (by decide : ¬ (9 : Nat) ≤ 7)
    · exact absurd (congrArg Prod.fst h) (by decide : ¬ (9 : Nat) = 15)
  · intro k i h1 h2
    rcases mem' _ h2 with h | h | h
    · exact x4 k i h1 h
    · have e : k ≤ 7 := h.1
      omega
    · exact congrArg Prod.snd h
  · intro h2
    rcases mem' _ h2 with h | h | h
    · exact x6 h
    · exact absurd h.1 (by decide : ¬ (17 : Nat) ≤ 7)
    · exact absurd (congrArg Prod.fst h) (by decide : ¬ (17 : Nat) = 15)

theorem w_beginB {D : va_G} {A : Nat → Prop} {cy : Nat → ClassId} {e0 : Nat} {ad : Lc → Nat} {L : List Lc} {S : SS} {N : NN} {H : Heap} {a z14 z15 : Nat} {u : Nat → Nat} {x y : va_E} (hI : okC L N) (hX : okX L N) (h10 : N 0 0 0 < 10) (h6 : ¬ N 6 0 0 = 0) (hz : (cw cy e0 ad L S N)[z14]? = some (ad (14, 0), x)) (hz2 : (cw cy e0 ad L S N)[z15]? = some (ad (15, 0), y)) (hD0 : va_D A (cw cy e0 ad L S N)) (hP : va_P D vwCl (((cw cy e0 ad L S N).set z15 (ad (15, 0), .inl (cy 3, N 6 0 0, .inr (.inr (.inr (.inr (va_up (fun j => if j < N 0 0 0 then some (ad (0, j)) else none) (N 0 0 0) (some a)))))))).set z14 (ad (14, 0), .inr (0, [.int (S 10 0 0 + nI 1), .ref (ad (15, 0)), .int (nI (N 0 0 0 + 1))])) ++ [(a, .inr (1, [.ref (u 1), .ref (u 2), .ref (u 5), .ref (u 6), .ref (u 7)])), (u 1, .inl (cy 2, 10, .inr (.inr (.inr (.inr (fun _ => none)))))), (u 2, .inl (cy 4, 2, .inr (.inr (.inr (.inr (fun s => if s = 0 then some (u 3) else some (u 4))))))), (u 3, .inl (cy 0, 10, .inl (fun _ => nI 0))), (u 4, .inl (cy 0, 10, .inl (fun _ => nI 0))), (u 5, .inl (cy 1, 2, .inl (fun _ => nI 0))), (u 6, .inl (cy 0, 2, .inl (fun _ => nI 0))), (u 7, .inl (cy 0, 2, .inl (fun _ => nI 0)))]) H) (hD : va_D A (((cw cy e0 ad L S N).set z15 (ad (15, 0), .inl (cy 3, N 6 0 0, .inr (.inr (.inr (.inr (va_up (fun j => if j < N 0 0 0 then some (ad (0, j)) else none) (N 0 0 0) (some a)))))))).set z14 (ad (14, 0), .inr (0, [.int (S 10 0 0 + nI 1), .ref (ad (15, 0)), .int (nI (N 0 0 0 + 1))])) ++ [(a, .inr (1, [.ref (u 1), .ref (u 2), .ref (u 5), .ref (u 6), .ref (u 7)])), (u 1, .inl (cy 2, 10, .inr (.inr (.inr (.inr (fun _ => none)))))), (u 2, .inl (cy 4, 2, .inr (.inr (.inr (.inr (fun s => if s = 0 then some (u 3) else some (u 4))))))), (u 3, .inl (cy 0, 10, .inl (fun _ => nI 0))), (u 4, .inl (cy 0, 10, .inl (fun _ => nI 0))), (u 5, .inl (cy 1, 2, .inl (fun _ => nI 0))), (u 6, .inl (cy 0, 2, .inl (fun _ => nI 0))), (u 7, .inl (cy 0, 2, .inl (fun _ => nI 0)))])) :
    va_P D vwCl (cw cy e0 (adB ad (N 0 0 0) a u) (L ++ (NLB (N 0 0 0))) (S_beg S (N 0 0 0)) (N_beg N (N 0 0 0))) H ∧ va_D A (cw cy e0 (adB ad (N 0 0 0) a u) (L ++ (NLB (N 0 0 0))) (S_beg S (N 0 0 0)) (N_beg N (N 0 0 0))) ∧ okC (L ++ (NLB (N 0 0 0))) (N_beg N (N 0 0 0)) ∧ okX (L ++ (NLB (N 0 0 0))) (N_beg N (N 0 0 0)) := by
  obtain ⟨⟨hM0, hM8, hM9, hMF, hM15, hM17⟩, hV, hLt, hO, hDu, hnc, hnd, hcC, hcD, hcC2, hcD2⟩ := hI
  obtain ⟨x1, x2, x3, x4, x5, x6, x7, x8⟩ := hX
  have hi : ∀ k i, k ≤ 7 → (k, i) ∈ L → i ≠ N 0 0 0 := fun k i h1 h2 => Nat.ne_of_lt (x1 k i h1 h2)
  rw [pl_put _ hD0 hz2 (hM15 h6), pl_put _ (plD _ hD0) (pl_ix _ hD0 hz (hMF 14 (by decide))) (hMF 14 (by decide))] at hP hD
  have hk : ∀ k i, k ≤ 14 → i ≠ N 0 0 0 → (adB ad (N 0 0 0) a u) (k, i) = ad (k, i) := fun k i _ h2 => adB_ne h2
  have hL : ∀ q ∈ L, (adB ad (N 0 0 0) a u) q = ad q := fun q hq => by
    obtain ⟨k, i⟩ := q
    exact if_neg (fun z => hi k i z.1 hq z.2)
  obtain ⟨hP, hD⟩ := w_ext (NL := (NLB (N 0 0 0))) (ad' := (adB ad (N 0 0 0) a u)) (g := cc cy e0 (adB ad (N 0 0 0) a u) (S_beg S (N 0 0 0)) (N_beg N (N 0 0 0))) hP hD (fun q hq => ⟨hL q hq, by
      obtain ⟨k, i⟩ := q
      by_cases h14 : k = 14
      · subst h14
        have hi0 : i = 0 := x4 14 i (by decide) hq
        subst hi0
        rw [pu_self]
        refine Or.inl ?_
        simp only [cc, N_beg, nu_self]
        rw [if_neg (by decide), show adB ad (N 0 0 0) a u (15, 0) = ad (15, 0) from rfl]
        simp [S_beg, su, nu, upd]
      · rw [pu_ne (fun z => h14 (congrArg Prod.fst z))]
        by_cases h15 : k = 15
        · subst h15
          have hi0 : i = 0 := x4 15 i (by decide) hq
          subst hi0
          rw [pu_self]
          have h6b : N 6 0 0 = 10 := by omega
          show sameE (.inl (cy 3, N 6 0 0, _)) (.inl (cy 3, 10, _))
          rw [h6b]
          refine sameE_q (fun j hj => ?_)
          show _ = if j < N 0 0 0 + 1 then some (adB ad (N 0 0 0) a u (0, j)) else none
          by_cases h : j = N 0 0 0
          · rw [h, va_up_self, if_pos (Nat.lt_succ_self _)]; congr 1; exact (if_pos ⟨Nat.le_of_ble_eq_true rfl, rfl⟩).symm
          · rw [va_up_ne _ _ h]
            by_cases h1 : j < N 0 0 0
            · rw [if_pos h1, if_pos (by omega), adB_ne h]
            · rw [if_neg h1, if_neg (by omega)]
        rw [pu_ne (fun z => h15 (congrArg Prod.fst z))]
        match k, h14, hq with
        | 0, _, hq =>
          have h := hi 0 i (by decide) hq
          refine Or.inl ?_
          simp only [cc]
          rw [hk 1 i (by decide) h, hk 2 i (by decide) h, hk 5 i (by decide) h, hk 6 i (by decide) h, hk 7 i (by decide) h]
        | 1, _, hq =>
          refine Or.inl ?_
          simp only [cc]
          rw [N_beg_2 (hi 1 i (by decide) hq)]
          rfl
        | 2, _, hq =>
          have h := hi 2 i (by decide) hq
          refine Or.inl ?_
          simp only [cc]
          rw [hk 3 i (by decide) h, hk 4 i (by decide) h]
        | 3, _, hq =>
          refine Or.inl ?_
          simp only [cc]
          rw [S_beg_ne (hi 3 i (by decide) hq) (by decide)]
        | 4, _, hq =>
          refine Or.inl ?_
          simp only [cc]
          rw [S_beg_ne (hi 4 i (by decide) hq) (by decide)]
        | 5, _, hq =>
          refine Or.inl ?_
          simp only [cc]
          rw [S_beg_ne (hi 5 i (by decide) hq) (by decide)]
        | 6, _, hq =>
          refine Or.inl ?_
          simp only [cc]
          rw [S_beg_ne (hi 6 i (by decide) hq) (by decide)]
        | 7, _, hq =>
          refine Or.inl ?_
          simp only [cc]
          rw [S_beg_ne (hi 7 i (by decide) hq) (by decide)]
        | 8, _, hq =>
          have h := (hDu i (x2 i hq)).1
          have e3 : N_beg N (N 0 0 0) 3 i = N 3 i := rfl
          refine Or.inl ?_
          simp only [cc]
          rw [e3, hk 0 _ (by decide) (by omega)]
          rfl
        | 9, _, hq => exact sameE_rf _
        | 10, _, hq => exact sameE_rf _
        | 11, _, hq => exact sameE_rf _
        | 12, _, hq => exact sameE_rf _
        | 13, _, hq => exact sameE_rf _
        | 14, h, hq => exact absurd rfl h
        | 15, _, hq => exact absurd rfl h15
        | 16, _, hq => exact sameE_rf _
        | 17, _, hq => exact sameE_rf _
        | k + 18, _, hq => exact sameE_rf _⟩) (by
      simp [pl, adB, au, cc, S_beg, N_beg, su, nu, vpt]
      )
  have mem : ∀ q, q ∈ L → q ∈ (L ++ (NLB (N 0 0 0))) := fun q h => List.mem_append_left _ h
  have mem1 : ∀ k, k ≤ 7 → (k, N 0 0 0) ∈ (L ++ (NLB (N 0 0 0))) := fun k h => List.mem_append_right _ (NLB_mem h)
  have mem' : ∀ q, q ∈ (L ++ (NLB (N 0 0 0))) → q ∈ L ∨ (q.1 ≤ 7 ∧ q.2 = N 0 0 0) ∨ False := fun q h => by
    rcases List.mem_append.mp h with h | h
    · exact Or.inl h
    · exact Or.inr (Or.inl (NLB_le h))
  refine ⟨hP, hD, ⟨⟨fun k i h1 h2 => ?_, fun j h => mem _ (hM8 j h), fun c n h1 h2 => mem _ (hM9 c n h1 h2), fun k h => mem _ (hMF k h), fun _ => mem _ (hM15 h6), fun h => mem _ (hM17 h)⟩, fun i c h1 h2 => ?_, hLt, hO, fun j h => ⟨Nat.lt_succ_of_lt (hDu j h).1, mem _ (hDu j h).2⟩, h10, hnd, h10, hcD, Nat.le_refl _, hcD2⟩, ?_, ?_, ?_, ?_, fun _ => (by decide : (10 : Nat) ≠ 0), ?_, Or.inr rfl, x8⟩
  · by_cases h : i = N 0 0 0
    · subst h; exact mem1 k h1
    · exact mem _ (hM0 k i h1 (by have h3 : i < N 0 0 0 + 1 := h2; omega))
  · by_cases h : i = N 0 0 0
    · subst h; rw [N_beg_2i]; exact Nat.zero_le _
    · rw [N_beg_2 h]; exact hV i c (by have h3 : i < N 0 0 0 + 1 := h1; omega) h2
  · intro k i h1 h2
    rcases mem' _ h2 with h | h | h
    · exact Nat.lt_succ_of_lt (x1 k i h1 h)
    · have e : i = N 0 0 0 := h.2
      subst e; exact Nat.lt_succ_self _
    · exact h.elim
  · intro j h2
    rcases mem' _ h2 with h | h | h
    · exact x2 j h
    · exact absurd h.1 (by decide : ¬ (8 : Nat) ≤ 7)
    · exact h.elim
  · intro v h2
    rcases mem' _ h2 with h | h | h
    · exact x3 v h
    · exact absurd h.1 (by decide : ¬ (9 : Nat) ≤ 7)
    · exact h.elim
  · intro k i h1 h2
    rcases mem' _ h2 with h | h | h
    · exact x4 k i h1 h
    · have e : k ≤ 7 := h.1
      omega
    · exact h.elim
  · intro h2
    rcases mem' _ h2 with h | h | h
    · exact x6 h
    · exact absurd h.1 (by decide : ¬ (17 : Nat) ≤ 7)
    · exact h.elim

/-! the class's world grows: new places -/
def au (ad : Lc → Nat) (k i a : Nat) : Lc → Nat := fun q => if q.1 = k ∧ q.2 = i then a else ad q
theorem au_self (ad : Lc → Nat) (k i a : Nat) : au ad k i a (k, i) = a := if_pos ⟨rfl, rfl⟩
theorem au_ne {ad : Lc → Nat} {k i a : Nat} {q : Lc} (h : q ≠ (k, i)) : au ad k i a q = ad q := if_neg (fun z => h (Prod.ext z.1 z.2))
/-- what lies in the pool lies there by the counts -/
def okX (L : List Lc) (N : NN) : Prop :=
  (∀ k i, k ≤ 7 → (k, i) ∈ L → i < N 0 0 0) ∧ (∀ j, (8, j) ∈ L → j < N 5 0 0) ∧ (∀ v, (9, v) ∈ L → ∃ c n, c < 10 ∧ n < N 1 0 c ∧ v = 9 * c + n) ∧ (∀ k i, 10 ≤ k → (k, i) ∈ L → i = 0) ∧ ((15, 0) ∈ L → N 6 0 0 ≠ 0) ∧ ((17, 0) ∈ L → N 7 0 0 ≠ 0) ∧ (N 6 0 0 = 0 ∨ N 6 0 0 = 10) ∧ N 7 0 0 ≤ 150
def pu (f : Lc → va_E) (q : Lc) (e : va_E) : Lc → va_E := fun q' => if q' = q then e else f q'
theorem pu_self (f : Lc → va_E) (q : Lc) (e : va_E) : pu f q e q = e := if_pos rfl
theorem pu_ne {f : Lc → va_E} {q q' : Lc} {e : va_E} (h : q' ≠ q) : pu f q e q' = f q' := if_neg h
theorem plD {A : Nat → Prop} {L : List Lc} {ad : Lc → Nat} {f : Lc → va_E} (g : Lc → va_E) (hD : va_D A (pl L ad f)) : va_D A (pl L ad g) := by
  refine ⟨fun i j p q hp hq e => ?_, fun k q hq => ?_⟩
  · obtain ⟨a, h1, rfl⟩ := pl_at hp
    obtain ⟨b, h2, rfl⟩ := pl_at hq
    exact hD.1 i j _ _ (pl_idx h1) (pl_idx h2) e
  · obtain ⟨a, h1, rfl⟩ := pl_at hq
    exact hD.2 k (ad a, f a) (pl_idx h1)
theorem pl_ix {A : Nat → Prop} {L : List Lc} {ad : Lc → Nat} {f : Lc → va_E} {k : Nat} {q : Lc} {e : va_E} (g : Lc → va_E) (hD : va_D A (pl L ad f)) (hk : (pl L ad f)[k]? = some (ad q, e)) (hq : q ∈ L) : (pl L ad g)[k]? = some (ad q, g q) := by
  obtain ⟨q0, h0, e0⟩ := pl_at hk
  have h1 : q0 = q := pl_inj hD (List.mem_of_getElem? h0) hq (congrArg Prod.fst e0).symm
  subst h1
  exact pl_idx h0
theorem pl_put {A : Nat → Prop} {L : List Lc} {ad : Lc → Nat} {f : Lc → va_E} {k : Nat} {q : Lc} {x : va_E} (e : va_E) (hD : va_D A (pl L ad f)) (hk : (pl L ad f)[k]? = some (ad q, x)) (hq : q ∈ L) : (pl L ad f).set k (ad q, e) = pl L ad (pu f q e) :=
  pl_set hD (pl_ix f hD hk hq) hq (fun q' hne => if_neg hne) (if_pos rfl)
/-- the pool with new places behind -/
theorem w_ext {D : va_G} {A : Nat → Prop} {L NL : List Lc} {ad ad' : Lc → Nat} {f g : Lc → va_E} {X : va_W} {H : Heap} (hP : va_P D vwCl (pl L ad f ++ X) H) (hD : va_D A (pl L ad f ++ X)) (h1 : ∀ q ∈ L, ad' q = ad q ∧ sameE (f q) (g q)) (h2 : pl NL ad' g = X) : va_P D vwCl (pl (L ++ NL) ad' g) H ∧ va_D A (pl (L ++ NL) ad' g) := by
  have e : pl (L ++ NL) ad' g = pl L ad' g ++ pl NL ad' g := by unfold pl; rw [List.map_append]
  have hl : ∀ (ad9 : Lc → Nat) (f9 : Lc → va_E), (pl L ad9 f9).length = L.length := fun _ _ => by unfold pl; rw [List.length_map]
  refine w_same (fun k q hq => ?_) hP hD
  rw [e] at hq
  by_cases hk : k < L.length
  · rw [List.getElem?_append_left (by rw [hl]; exact hk)] at hq ⊢
    obtain ⟨q0, h0, rfl⟩ := pl_at hq
    obtain ⟨e1, e2⟩ := h1 q0 (List.mem_of_getElem? h0)
    exact ⟨f q0, by rw [pl_idx h0, e1], e2⟩
  · rw [List.getElem?_append_right (by rw [hl]; omega)] at hq ⊢
    rw [hl] at hq ⊢
    rw [h2] at hq
    exact ⟨q.2, hq, sameE_rf _⟩
theorem sameE_q {cA : ClassId} {n : Nat} {f g : Nat → Option Nat} (h : ∀ i, i < n → f i = g i) : sameE (.inl (cA, n, .inr (.inr (.inr (.inr f))))) (.inl (cA, n, .inr (.inr (.inr (.inr g))))) := Or.inr ⟨cA, n, f, g, rfl, rfl, h⟩
/-! a version is issued -/
def S_iss (S : SS) (v : Nat) (d k z : Int32) : SS := su S 3 v (upd (upd (upd (S 3 v) 1 d) 2 k) 3 z)
def N_iss (N : NN) (cn o : Nat) : NN := nu (nu N 1 0 (va_up (N 1 0) cn (N 1 0 cn + 1))) 4 (9 * cn + N 1 0 cn) (fun _ => o)
theorem vpt_au {ad : Lc → Nat} {N : NN} {cn a n d : Nat} (hn : n ≤ N 1 0 d) (h9 : N 1 0 d ≤ 9) (hm : N 1 0 cn < 9) : vpt (au ad 9 (9 * cn + N 1 0 cn) a) n d = vpt ad n d := by
  unfold vpt
  by_cases h0 : n = 0
  · rw [if_pos h0, if_pos h0]
  · rw [if_neg h0, if_neg h0]
    congr 1
    refine au_ne (fun z => ?_)
    have e : 9 * d + n - 1 = 9 * cn + N 1 0 cn := congrArg Prod.snd z
    by_cases hd : d = cn
    · subst hd; omega
    · omega
theorem w_issue {D : va_G} {A : Nat → Prop} {cy : Nat → ClassId} {e0 : Nat} {ad : Lc → Nat} {L : List Lc} {S : SS} {N : NN} {H : Heap} {cn o a z11 : Nat} {d k z : Int32} {x : va_E} (hI : okC L N) (hX : okX L N) (hcn : cn < 10) (hm : N 1 0 cn < 9) (ho : o < 2) (hz : (cw cy e0 ad L S N)[z11]? = some (ad (11, 0), x)) (hD0 : va_D A (cw cy e0 ad L S N))
    (hP : va_P D vwCl ((cw cy e0 ad L S N).set z11 (ad (11, 0), .inl (cy 2, 10, .inr (.inr (.inr (.inr (va_up (fun d => vpt ad (N 1 0 d) d) cn (some a))))))) ++ [(a, .inr (3, [.int (nI (N 1 0 cn + 1)), .int (nI o), .int d, .int k, .int z]))]) H)
    (hD : va_D A ((cw cy e0 ad L S N).set z11 (ad (11, 0), .inl (cy 2, 10, .inr (.inr (.inr (.inr (va_up (fun d => vpt ad (N 1 0 d) d) cn (some a))))))) ++ [(a, .inr (3, [.int (nI (N 1 0 cn + 1)), .int (nI o), .int d, .int k, .int z]))])) :
    va_P D vwCl (cw cy e0 (au ad 9 (9 * cn + N 1 0 cn) a) (L ++ [(9, 9 * cn + N 1 0 cn)]) (S_iss S (9 * cn + N 1 0 cn) d k z) (N_iss N cn o)) H ∧ va_D A (cw cy e0 (au ad 9 (9 * cn + N 1 0 cn) a) (L ++ [(9, 9 * cn + N 1 0 cn)]) (S_iss S (9 * cn + N 1 0 cn) d k z) (N_iss N cn o)) ∧ okC (L ++ [(9, 9 * cn + N 1 0 cn)]) (N_iss N cn o) ∧ okX (L ++ [(9, 9 * cn + N 1 0 cn)]) (N_iss N cn o) := by
  obtain ⟨⟨hM0, hM8, hM9, hMF, hM15, hM17⟩, hV, hLt, hO, hDu, hnc, hnd, hcC, hcD, hcC2, hcD2⟩ := hI
  obtain ⟨x1, x2, x3, x4, x5, x6, x7, x8⟩ := hX
  have hnew : (9, 9 * cn + N 1 0 cn) ∉ L := fun h => by
    obtain ⟨c, n, h1, h2, h3⟩ := x3 _ h
    have := hLt c h1
    by_cases hc : c = cn
    · subst hc; omega
    · omega
  rw [pl_put _ hD0 hz (hMF 11 (by decide))] at hP hD
  obtain ⟨hP, hD⟩ := w_ext (NL := [(9, 9 * cn + N 1 0 cn)]) (ad' := au ad 9 (9 * cn + N 1 0 cn) a) (g := cc cy e0 (au ad 9 (9 * cn + N 1 0 cn) a) (S_iss S (9 * cn + N 1 0 cn) d k z) (N_iss N cn o)) hP hD (fun q hq => ⟨au_ne (fun e => hnew (e ▸ hq)), by
    obtain ⟨kk, i⟩ := q
    by_cases h11 : kk = 11
    · subst h11
      have hi : i = 0 := x4 11 i (by decide) hq
      subst hi
      rw [pu_self]
      refine sameE_q (fun c hc => ?_)
      show _ = vpt _ (va_up (N 1 0) cn (N 1 0 cn + 1) c) c
      by_cases h : c = cn
      · subst h
        rw [va_up_self, va_up_self]
        unfold vpt
        rw [if_neg (by omega), show 9 * c + (N 1 0 c + 1) - 1 = 9 * c + N 1 0 c by omega, au_self]
      · rw [va_up_ne _ _ h, va_up_ne _ _ h]
        exact (vpt_au (Nat.le_refl _) (hLt c hc) hm).symm
    · rw [pu_ne (fun e => h11 (congrArg Prod.fst e))]
      match kk, h11, hq with
      | 0, _, hq => exact sameE_rf _
      | 1, _, hq =>
        refine sameE_q (fun c hc => ?_)
        exact (vpt_au (hV i c (x1 1 i (by decide) hq) hc) (hLt c hc) hm).symm
      | 2, _, hq => exact sameE_rf _
      | 3, _, hq => exact sameE_rf _
      | 4, _, hq => exact sameE_rf _
      | 5, _, hq => exact sameE_rf _
      | 6, _, hq => exact sameE_rf _
      | 7, _, hq => exact sameE_rf _
      | 8, _, hq =>
        have h9 := (hDu i (x2 i hq)).2
        have e9 : au ad 9 (9 * cn + N 1 0 cn) a (9, N 3 i 1) = ad (9, N 3 i 1) := au_ne (fun e => hnew (e ▸ h9))
        refine Or.inl ?_
        have e3 : N_iss N cn o 3 i = N 3 i := rfl
        simp only [cc]
        rw [e3, e9]
        rfl
      | 9, _, hq =>
        have hne : ¬ i = 9 * cn + N 1 0 cn := fun e => hnew (e ▸ hq)
        refine Or.inl ?_
        simp only [cc, S_iss, N_iss]
        rw [su_ne (fun z => hne z.2), nu_ne (fun z => hne z.2), nu_ne (fun z => absurd z.1 (by decide))]
      | 10, _, hq => exact sameE_rf _
      | 11, h, hq => exact absurd rfl h
      | 12, _, hq => exact sameE_rf _
      | 13, _, hq => exact sameE_rf _
      | 14, _, hq => exact sameE_rf _
      | 15, _, hq => exact sameE_rf _
      | 16, _, hq => exact sameE_rf _
      | 17, _, hq => exact sameE_rf _
      | kk + 18, _, hq => exact sameE_rf _⟩) (by
    show [(au ad 9 (9 * cn + N 1 0 cn) a (9, 9 * cn + N 1 0 cn), cc cy e0 (au ad 9 (9 * cn + N 1 0 cn) a) (S_iss S (9 * cn + N 1 0 cn) d k z) (N_iss N cn o) (9, 9 * cn + N 1 0 cn))] = _
    rw [au_self]
    simp only [cc, S_iss, N_iss, su_self, nu_self]
    rw [show (9 * cn + N 1 0 cn) % 9 = N 1 0 cn by omega]
    simp [upd])
  have n1 : N_iss N cn o 1 0 = va_up (N 1 0) cn (N 1 0 cn + 1) := by
    unfold N_iss
    rw [nu_ne (fun z => absurd z.1 (by decide)), nu_self]
  have hle : ∀ c, N 1 0 c ≤ N_iss N cn o 1 0 c := fun c => by
    rw [n1]
    by_cases h : c = cn
    · subst h; rw [va_up_self]; omega
    · rw [va_up_ne _ _ h]; exact Nat.le_refl _
  have n4 : ∀ v, N_iss N cn o 4 v 0 < 2 := fun v => by
    show (if 4 = 4 ∧ v = 9 * cn + N 1 0 cn then (fun _ => o) else _) 0 < 2
    split
    · exact ho
    · exact hO v
  have mem : ∀ q, q ∈ L → q ∈ L ++ [(9, 9 * cn + N 1 0 cn)] := fun q h => List.mem_append_left _ h
  have mem' : ∀ q, q ∈ L ++ [(9, 9 * cn + N 1 0 cn)] → q ∈ L ∨ q = (9, 9 * cn + N 1 0 cn) := fun q h => by
    rcases List.mem_append.mp h with h | h
    · exact Or.inl h
    · exact Or.inr (List.mem_singleton.mp h)
  refine ⟨hP, hD, ⟨⟨fun k i h1 h2 => mem _ (hM0 k i h1 h2), fun j h => mem _ (hM8 j h), fun c n h1 h2 => ?_, fun k h => mem _ (hMF k h), fun h => mem _ (hM15 h), fun h => mem _ (hM17 h)⟩, fun i c h1 h2 => Nat.le_trans (hV i c h1 h2) (hle c), fun c hc => ?_, n4, fun j h => ⟨(hDu j h).1, mem _ (hDu j h).2⟩, hnc, hnd, hcC, hcD, hcC2, hcD2⟩, ?_, ?_, ?_, ?_, ?_, ?_, x7, x8⟩
  · rw [n1] at h2
    by_cases h : c = cn
    · subst h
      rw [va_up_self] at h2
      by_cases hn : n = N 1 0 c
      · subst hn; exact List.mem_append_right _ (List.mem_singleton.mpr rfl)
      · exact mem _ (hM9 c n h1 (by omega))
    · rw [va_up_ne _ _ h] at h2; exact mem _ (hM9 c n h1 h2)
  · rw [n1]
    by_cases h : c = cn
    · subst h; rw [va_up_self]; omega
    · rw [va_up_ne _ _ h]; exact hLt c hc
  · intro k i h1 h2
    rcases mem' _ h2 with h | h
    · exact x1 k i h1 h
    · have e : k = 9 := congrArg Prod.fst h
      subst e; exact absurd h1 (by decide)
  · intro j h2
    rcases mem' _ h2 with h | h
    · exact x2 j h
    · exact absurd (congrArg Prod.fst h) (by decide : ¬ (8 : Nat) = 9)
  · intro v h2
    rcases mem' _ h2 with h | h
    · obtain ⟨c, n, q1, q2, q3⟩ := x3 v h
      exact ⟨c, n, q1, Nat.lt_of_lt_of_le q2 (hle c), q3⟩
    · exact ⟨cn, N 1 0 cn, hcn, by rw [n1, va_up_self]; omega, congrArg Prod.snd h⟩
  · intro k i h1 h2
    rcases mem' _ h2 with h | h
    · exact x4 k i h1 h
    · have e : k = 9 := congrArg Prod.fst h
      subst e; exact absurd h1 (by decide)
  · intro h2
    rcases mem' _ h2 with h | h
    · exact x5 h
    · exact absurd (congrArg Prod.fst h) (by decide : ¬ (15 : Nat) = 9)
  · intro h2
    rcases mem' _ h2 with h | h
    · exact x6 h
    · exact absurd (congrArg Prod.fst h) (by decide : ¬ (17 : Nat) = 9)

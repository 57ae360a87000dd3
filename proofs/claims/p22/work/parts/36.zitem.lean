/-! an item changes; signatures; duties out of items -/
section RZ2
variable {S : SS} {N : NN} {Y Y' : Nat → Nat → Nat} {t : Nat → Int32} {D : Int32} {a b : Nat} {i c n : Nat} {r4 r5 : Nat → Int32}
theorem zs_at (hs : zS S N Y) (hi : i < 10) : ∃ s0 s1 : Nat, s0 ≤ 1 ∧ s1 ≤ 1 ∧ S 6 i 0 = nI s0 ∧ S 6 i 1 = nI s1 ∧ Y 4 i = s0 + 2 * s1 + s0 * s1 := by
  obtain ⟨⟨a1, a2⟩, ⟨b1, b2⟩, h3, -⟩ := hs i hi
  exact ⟨_, _, a2, b2, a1, b1, h3⟩
theorem dr_iff (hs : zS S N Y) (hi : i < 10) : isDr S i ↔ ¬ Y 4 i = 4 := by
  obtain ⟨s0, s1, h0, h1, e0, e1, e4⟩ := zs_at hs hi
  unfold isDr
  rw [e0, e1, e4]
  rcases (show s0 = 0 ∨ s0 = 1 by omega) with rfl | rfl <;> rcases (show s1 = 0 ∨ s1 = 1 by omega) with rfl | rfl <;> decide
theorem rz_Z (h : RZ S N Y t D a b) (hi : i < N 0 0 0) (hi10 : i < 10) (hc : c < 6) (hdr : isDr S i) (h4 : ∀ d, ¬ d = c → r4 d = S 4 i d) (h5 : ∀ d, ¬ d = c → r5 d = S 5 i d)
    (hr : ∀ r, ¬ r = 3 → ¬ r = 4 → Y' r = Y r) (y3 : ∀ q, ¬ q = 6 * i + c → Y' 3 q = Y 3 q) (y30 : n = 0 → Y' 3 (6 * i + c) = 0) (y31 : ¬ n = 0 → isN (r4 c) 2 ∧ isN (r5 c) 2 ∧ (r4 c = nI 1 ∨ r5 c = nI 1) ∧ Y' 3 (6 * i + c) = n + 16 * ix (r4 c) + 64 * ix (r5 c))
    (y4i : Y' 4 i = 0) (y4 : ∀ j, ¬ j = i → Y' 4 j = Y 4 j) (hY' : zY Y') : RZ (ZZ S i r4 r5) (nu N 2 i (va_up (N 2 i) c n)) Y' t D a b := by
  obtain ⟨hv, h6, hI, hs, hd, hB, ⟨f1, f2, f3, f4⟩, hY⟩ := h
  obtain ⟨z0, z1⟩ := ZZ_6 S i r4 r5
  have hdz : isDr (ZZ S i r4 r5) i := Or.inl (z0.trans nI_00)
  have hdi : ∀ j, isDr (ZZ S i r4 r5) j ↔ isDr S j := fun j => by
    by_cases e : j = i
    · subst e; exact ⟨fun _ => hdr, fun _ => hdz⟩
    · unfold isDr; rw [ZZ_ne e]
  have n2 : ∀ j, ¬ j = i → nu N 2 i (va_up (N 2 i) c n) 2 j = N 2 j := fun j e => nu_ne (fun z => e z.2)
  have n2i : nu N 2 i (va_up (N 2 i) c n) 2 i = va_up (N 2 i) c n := nu_self _ _ _ _
  refine ⟨fun d hd' => ?_, h6, fun j hj => ⟨fun d hd' => ?_, fun q d => ?_⟩, fun j hj => ?_, fun j hj => ?_, fun j hj b hb => ?_, ⟨f1, f2, f3, ?_⟩, hY'⟩
  · obtain ⟨v1, v2, v3, v4, v5⟩ := hv d hd'
    rw [hr 0 (by decide) (by decide), hr 1 (by decide) (by decide), hr 2 (by decide) (by decide)]
    exact ⟨v1, v2, v3, v4, v5⟩
  · obtain ⟨i1, i2⟩ := (hI j hj).1 d hd'
    by_cases e : j = i
    · subst e
      rw [n2i, ZZ_4, ZZ_5]
      by_cases e2 : d = c
      · subst e2
        rw [va_up_self]
        exact ⟨y30, y31⟩
      · rw [va_up_ne _ _ e2, y3 _ (by omega), h4 d e2, h5 d e2]
        exact ⟨i1, i2⟩
    · rw [n2 j e, ZZ_ne e, ZZ_ne e, y3 _ (by omega)]
      exact ⟨i1, i2⟩
  · have q' : N 0 0 0 ≤ j := q
    rw [n2 j (by omega)]
    exact (hI j hj).2 q' d
  · obtain ⟨s1, s2, s3, s4⟩ := hs j hj
    by_cases e : j = i
    · subst e
      rw [z0, z1, y4i]
      exact ⟨isN_nI (by decide) (by decide), isN_nI (by decide) (by decide), by decide, fun _ => ⟨rfl, rfl⟩⟩
    · rw [ZZ_ne e, y4 j e]
      exact ⟨s1, s2, s3, s4⟩
  · obtain ⟨d1, d2, d3, d4, d5, d6⟩ := hd j hj
    rw [hr 5 (by decide) (by decide)]
    exact ⟨d1, d2, d3, d4, d5, d6⟩
  · obtain ⟨b1, b2⟩ := hB j hj b hb
    have c1 : cntB (ZZ S i r4 r5) (nu N 2 i (va_up (N 2 i) c n)) j b (N 5 0 0) = cntB S N j b (N 5 0 0) := cntB_congr2 j b _ (fun k hk => ⟨rfl, rfl, rfl⟩)
    have c2 : penB (ZZ S i r4 r5) (nu N 2 i (va_up (N 2 i) c n)) j b (N 5 0 0) = penB S N j b (N 5 0 0) := penB_congr2 j b _ (fun k hk => ⟨rfl, rfl, rfl, rfl⟩)
    exact ⟨b1.trans (congrArg nI c1.symm), b2.trans c2.symm⟩
  · show N 5 0 0 + 0 ≤ 6 * sgN (ZZ S i r4 r5) (N 0 0 0)
    rw [sgN_congr3 (S := S) _ (fun j _ => hdi j)]
    exact f4
/-- an item made or renewed by a side -/
theorem rz_bring {sd : Nat} (h : RZ S N Y t D a b) (hi : i < N 0 0 0) (hi10 : i < 10) (hc : c < 6) (hdr : isDr S i) (hsd : sd < 2) (hn : ¬ n = 0)
    (hr : ∀ r, ¬ r = 3 → ¬ r = 4 → Y' r = Y r) (y3 : ∀ q, ¬ q = 6 * i + c → Y' 3 q = Y 3 q) (y31 : Y' 3 (6 * i + c) = n + (if sd = 0 then 16 else 64)) (y4i : Y' 4 i = 0) (y4 : ∀ j, ¬ j = i → Y' 4 j = Y 4 j) (hY' : zY Y') :
    RZ (K_bring S i sd c) (nu N 2 i (va_up (N 2 i) c n)) Y' t D a b := by
  rcases (show sd = 0 ∨ sd = 1 by omega) with rfl | rfl
  · rw [bring_0]
    refine rz_Z h hi hi10 hc hdr (fun d hd => upd_ne hd) (fun d hd => upd_ne hd) hr y3 (fun q => absurd q hn) (fun _ => ?_) y4i y4 hY'
    rw [upd_self, upd_self, y31, ix_nI (by decide), ix_nI (by decide)]
    exact ⟨isN_nI (by decide) (by decide), isN_nI (by decide) (by decide), Or.inl rfl, rfl⟩
  · rw [bring_1]
    refine rz_Z h hi hi10 hc hdr (fun d hd => upd_ne hd) (fun d hd => upd_ne hd) hr y3 (fun q => absurd q hn) (fun _ => ?_) y4i y4 hY'
    rw [upd_self, upd_self, y31, ix_nI (by decide), ix_nI (by decide)]
    exact ⟨isN_nI (by decide) (by decide), isN_nI (by decide) (by decide), Or.inr rfl, rfl⟩
/-- a mark of an item that is there becomes another one; m0, m1: the marks then -/
theorem rz_change {sd mk m0 m1 : Nat} (h : RZ S N Y t D a b) (hi : i < N 0 0 0) (hi10 : i < 10) (hc : c < 6) (hdr : isDr S i) (hsd : sd < 2) (h0 : ¬ N 2 i c = 0) (hmk : mk = 1 ∨ mk = 2) (hne : ¬ K_mk S i sd c = nI mk)
    (e0 : m0 = if sd = 0 then mk else ix (S 4 i c)) (e1 : m1 = if sd = 0 then ix (S 5 i c) else mk)
    (hr : ∀ r, ¬ r = 3 → ¬ r = 4 → Y' r = Y r) (y3 : ∀ q, ¬ q = 6 * i + c → Y' 3 q = Y 3 q) (y31 : Y' 3 (6 * i + c) = if m0 = 1 ∨ m1 = 1 then N 2 i c + 16 * m0 + 64 * m1 else 0) (y4i : Y' 4 i = 0) (y4 : ∀ j, ¬ j = i → Y' 4 j = Y 4 j) (hY' : zY Y') :
    RZ (K_change S N i sd c (nI mk)).1 (K_change S N i sd c (nI mk)).2 Y' t D a b := by
  obtain ⟨i1, i2, i3, i4⟩ := ((h.2.2.1 i hi10).1 c hc).2 h0
  have hmk2 : mk ≤ 2 := by omega
  have en : ∀ {x : Int32} {k : Nat}, isN x 2 → k < 2 ^ 31 → (¬ x = nI k ↔ ¬ ix x = k) := fun hx hk => not_congr (isN_eq hx (by decide) hk)
  have emk : ¬ nI mk = nI 1 ↔ ¬ mk = 1 := not_congr (nI_inj (by omega) (by decide))
  unfold K_change
  rw [if_neg hne]
  rcases (show sd = 0 ∨ sd = 1 by omega) with rfl | rfl
  · rw [if_pos rfl] at e0 e1
    rw [show K_mk S i (1 - 0) c = S 5 i c from rfl, show K_mk S i 0 = S 4 i from rfl, setmk_0]
    by_cases h2 : ¬ nI mk = nI 1 ∧ ¬ S 5 i c = nI 1
    · rw [if_pos h2]
      have q1 := emk.mp h2.1
      have q2 := (en i2 (by decide)).mp h2.2
      refine rz_Z h hi hi10 hc hdr (fun d hd => upd_ne hd) (fun d hd => rfl) hr y3 (fun _ => ?_) (fun q => absurd rfl q) y4i y4 hY'
      rw [y31, if_neg (by omega)]
    · rw [if_neg h2]
      have hin : mk = 1 ∨ S 5 i c = nI 1 := by
        by_cases q : mk = 1
        · exact Or.inl q
        · exact Or.inr (Classical.not_not.mp (fun q2 => h2 ⟨emk.mpr q, q2⟩))
      have z1 := rz_Z (n := N 2 i c) (r4 := upd (S 4 i) c (nI mk)) (r5 := S 5 i) h hi hi10 hc hdr (fun d hd => upd_ne hd) (fun d hd => rfl) hr y3 (fun q => absurd q h0) (fun _ => by
        rw [upd_self, ix_nI (by omega)]
        refine ⟨isN_nI hmk2 (by decide), i2, hin.imp (congrArg nI) id, ?_⟩
        rw [y31, if_pos (by
          rcases hin with q | q
          · omega
          · have := (isN_eq i2 (by decide) (by decide)).mp q
            omega), e0, e1]) y4i y4 hY'
      rw [nu_id] at z1
      exact z1
  · rw [if_neg (by decide)] at e0 e1
    rw [show K_mk S i (1 - 1) c = S 4 i c from rfl, show K_mk S i 1 = S 5 i from rfl, setmk_1]
    by_cases h2 : ¬ nI mk = nI 1 ∧ ¬ S 4 i c = nI 1
    · rw [if_pos h2]
      have q1 := emk.mp h2.1
      have q2 := (en i1 (by decide)).mp h2.2
      refine rz_Z h hi hi10 hc hdr (fun d hd => rfl) (fun d hd => upd_ne hd) hr y3 (fun _ => ?_) (fun q => absurd rfl q) y4i y4 hY'
      rw [y31, if_neg (by omega)]
    · rw [if_neg h2]
      have hin : mk = 1 ∨ S 4 i c = nI 1 := by
        by_cases q : mk = 1
        · exact Or.inl q
        · exact Or.inr (Classical.not_not.mp (fun q2 => h2 ⟨emk.mpr q, q2⟩))
      have z1 := rz_Z (n := N 2 i c) (r4 := S 4 i) (r5 := upd (S 5 i) c (nI mk)) h hi hi10 hc hdr (fun d hd => rfl) (fun d hd => upd_ne hd) hr y3 (fun q => absurd q h0) (fun _ => by
        rw [upd_self, ix_nI (by omega)]
        refine ⟨i1, isN_nI hmk2 (by decide), ?_, ?_⟩
        · rcases hin with q | q
          · exact Or.inr (congrArg nI q)
          · exact Or.inl q
        · rw [y31, if_pos (by
            rcases hin with q | q
            · omega
            · have := (isN_eq i1 (by decide) (by decide)).mp q
              omega), e0, e1]) y4i y4 hY'
      rw [nu_id] at z1
      exact z1
/-- a signature -/
theorem rz_sgn {sd q' v : Nat} (h : RZ S N Y t D a b) (hi : i < N 0 0 0) (hi10 : i < 10) (hsd : sd < 2) (hr : ∀ r, ¬ r = 4 → Y' r = Y r) (y4 : ∀ j, ¬ j = i → Y' 4 j = Y 4 j) (y4i : Y' 4 i = v) (hY' : zY Y')
    (hv : v = ix (S_sgn S i sd 6 i 0) + 2 * ix (S_sgn S i sd 6 i 1) + ix (S_sgn S i sd 6 i 0) * ix (S_sgn S i sd 6 i 1)) (hq : N 5 0 0 + q' ≤ 6 * sgN (S_sgn S i sd) (N 0 0 0)) : RZm q' (S_sgn S i sd) N Y' t D a b := by
  obtain ⟨hvv, h6, hI, hs, hd, hB, ⟨f1, f2, f3, f4⟩, hY⟩ := h
  have e6 : S_sgn S i sd 6 i = upd (S 6 i) sd (nI 1) := su_self _ _ _ _
  have ene : ∀ j, ¬ j = i → S_sgn S i sd 6 j = S 6 j := fun j e => su_ne (fun z => e z.2)
  refine ⟨fun d hd' => ?_, h6, fun j hj => ?_, fun j hj => ?_, fun j hj => ?_, fun j hj b hb => ?_, ⟨f1, f2, f3, hq⟩, hY'⟩
  · obtain ⟨v1, v2, v3, v4, v5⟩ := hvv d hd'
    rw [hr 0 (by decide), hr 1 (by decide), hr 2 (by decide)]
    exact ⟨v1, v2, v3, v4, v5⟩
  · rw [hr 3 (by decide)]
    exact hI j hj
  · obtain ⟨s1, s2, s3, s4⟩ := hs j hj
    by_cases e : j = i
    · subst e
      refine ⟨?_, ?_, y4i.trans hv, fun q => absurd q (by omega)⟩
      · rw [e6]
        by_cases e0 : 0 = sd
        · rw [← e0, upd_self]; exact isN_nI (by decide) (by decide)
        · rw [upd_ne e0]; exact s1
      · rw [e6]
        by_cases e0 : 1 = sd
        · rw [← e0, upd_self]; exact isN_nI (by decide) (by decide)
        · rw [upd_ne e0]; exact s2
    · rw [ene j e, y4 j e]
      exact ⟨s1, s2, s3, s4⟩
  · obtain ⟨d1, d2, d3, d4, d5, d6⟩ := hd j hj
    rw [hr 5 (by decide)]
    exact ⟨d1, d2, d3, d4, d5, d6⟩
  · obtain ⟨b1, b2⟩ := hB j hj b hb
    have c1 : cntB (S_sgn S i sd) N j b (N 5 0 0) = cntB S N j b (N 5 0 0) := cntB_congr2 j b _ (fun k hk => ⟨rfl, rfl, rfl⟩)
    have c2 : penB (S_sgn S i sd) N j b (N 5 0 0) = penB S N j b (N 5 0 0) := penB_congr2 j b _ (fun k hk => ⟨rfl, rfl, rfl, rfl⟩)
    exact ⟨b1.trans (congrArg nI c1.symm), b2.trans c2.symm⟩
/-- what the signatures of a draft are, once side sd signs that hasn't yet: still a draft, or not -/
theorem sg_one (hs : zS S N Y) (hi10 : i < 10) {sd : Nat} (hsd : sd < 2) (hdr : isDr S i) (h2 : S 6 i sd = 0) (hq : isDr (S_sgn S i sd) i) : Y 4 i = 0 ∧ (if sd = 0 then 1 else 2) = ix (S_sgn S i sd 6 i 0) + 2 * ix (S_sgn S i sd 6 i 1) + ix (S_sgn S i sd 6 i 0) * ix (S_sgn S i sd 6 i 1) := by
  obtain ⟨s0, s1, h0, h1, e0, e1, e4⟩ := zs_at hs hi10
  have e6 : S_sgn S i sd 6 i = upd (S 6 i) sd (nI 1) := su_self _ _ _ _
  unfold isDr at hq
  rw [e6] at hq ⊢
  rcases (show sd = 0 ∨ sd = 1 by omega) with rfl | rfl
  · rw [upd_self, upd_ne (by decide : ¬ (1 : Nat) = 0), e1] at hq ⊢
    rw [e0] at h2
    rcases (show s0 = 0 ∨ s0 = 1 by omega) with rfl | rfl <;> rcases (show s1 = 0 ∨ s1 = 1 by omega) with rfl | rfl
    · exact ⟨e4, by decide⟩
    · exact absurd hq (by decide)
    · exact absurd h2 (by decide)
    · exact absurd h2 (by decide)
  · rw [upd_self, upd_ne (by decide : ¬ (0 : Nat) = 1), e0] at hq ⊢
    rw [e1] at h2
    rcases (show s0 = 0 ∨ s0 = 1 by omega) with rfl | rfl <;> rcases (show s1 = 0 ∨ s1 = 1 by omega) with rfl | rfl
    · exact ⟨e4, by decide⟩
    · exact absurd h2 (by decide)
    · exact absurd hq (by decide)
    · exact absurd h2 (by decide)
theorem sg_two (hs : zS S N Y) (hi10 : i < 10) {sd : Nat} (hsd : sd < 2) (hdr : isDr S i) (h2 : S 6 i sd = 0) (hq : ¬ isDr (S_sgn S i sd) i) : Y 4 i = (if sd = 0 then 2 else 1) ∧ 4 = ix (S_sgn S i sd 6 i 0) + 2 * ix (S_sgn S i sd 6 i 1) + ix (S_sgn S i sd 6 i 0) * ix (S_sgn S i sd 6 i 1) := by
  obtain ⟨s0, s1, h0, h1, e0, e1, e4⟩ := zs_at hs hi10
  have e6 : S_sgn S i sd 6 i = upd (S 6 i) sd (nI 1) := su_self _ _ _ _
  unfold isDr at hq
  rw [e6] at hq ⊢
  rcases (show sd = 0 ∨ sd = 1 by omega) with rfl | rfl
  · rw [upd_self, upd_ne (by decide : ¬ (1 : Nat) = 0), e1] at hq ⊢
    rw [e0] at h2
    rcases (show s0 = 0 ∨ s0 = 1 by omega) with rfl | rfl <;> rcases (show s1 = 0 ∨ s1 = 1 by omega) with rfl | rfl
    · exact absurd (Or.inr (by decide)) hq
    · exact ⟨e4, by decide⟩
    · exact absurd h2 (by decide)
    · exact absurd h2 (by decide)
  · rw [upd_self, upd_ne (by decide : ¬ (0 : Nat) = 1), e0] at hq ⊢
    rw [e1] at h2
    rcases (show s0 = 0 ∨ s0 = 1 by omega) with rfl | rfl <;> rcases (show s1 = 0 ∨ s1 = 1 by omega) with rfl | rfl
    · exact absurd (Or.inl (by decide)) hq
    · exact absurd h2 (by decide)
    · exact ⟨e4, by decide⟩
    · exact absurd h2 (by decide)
theorem sgN_one (h : RZ S N Y t D a b) {sd : Nat} (hdr : isDr S i) (hq : isDr (S_sgn S i sd) i) : N 5 0 0 + 0 ≤ 6 * sgN (S_sgn S i sd) (N 0 0 0) := by
  have ene : ∀ j, ¬ j = i → S_sgn S i sd 6 j = S 6 j := fun j e => su_ne (fun z => e z.2)
  rw [sgN_congr3 (S := S) _ (fun j _ => by
    by_cases e : j = i
    · subst e; exact ⟨fun _ => hdr, fun _ => hq⟩
    · unfold isDr; rw [ene j e])]
  exact h.2.2.2.2.2.2.1.2.2.2
theorem sgN_two (h : RZ S N Y t D a b) {sd : Nat} (hi : i < N 0 0 0) (hdr : isDr S i) (hq : ¬ isDr (S_sgn S i sd) i) : N 5 0 0 + 6 ≤ 6 * sgN (S_sgn S i sd) (N 0 0 0) := by
  have ene : ∀ j, ¬ j = i → S_sgn S i sd 6 j = S 6 j := fun j e => su_ne (fun z => e z.2)
  have h1 := h.2.2.2.2.2.2.1.2.2.2
  rw [sgN_sgn hdr hq ene, if_pos hi]
  omega
/-- one duty more -/
theorem rz_put {q : Nat} (h : RZm (q + 1) S N Y t D a b) (hi : i < N 0 0 0) (hi10 : i < 10) (hc : c < 6) (h0 : ¬ N 2 i c = 0) (hle : N 2 i c ≤ N 1 0 c) (hO : ∀ v, N 4 v 0 < 2) {told w : Nat} (ht : told = Y 2 (9 * c + N 2 i c - 1)) (hw : w = i + 16 * (told % 2) + 256 * (told / 256 % 64) + 16384 * (told / 16384)) {dy : Int32} (hdy : dy = D + nI (told / 2 % 128)) :
    RZm q (S_dut S (N 5 0 0) (S 0 0 0 + S 3 (9 * c + N 2 i c - 1) 1)) (N_dut N i (9 * c + N 2 i c - 1)) (va_up Y 5 (va_up (Y 5) b w)) (upd t b dy) D a (b + 1) := by
  obtain ⟨hv, h6, hI, hs, hd, hB, ⟨f1, f2, f3, f4⟩, hY⟩ := h
  obtain ⟨v1, v2, v3, v4, v5⟩ := hv c hc
  have ev : 9 * c + N 2 i c - 1 = 9 * c + (N 2 i c - 1) := by omega
  have hwv := v5 (N 2 i c - 1) (show N 2 i c - 1 < N 1 0 c by omega)
  rw [← ev] at hwv
  have hvv2 : ∃ c' n', c' < 6 ∧ n' < N 1 0 c' ∧ 9 * c + N 2 i c - 1 = 9 * c' + n' := ⟨c, N 2 i c - 1, hc, by omega, by omega⟩
  generalize hvv : 9 * c + N 2 i c - 1 = vv at *
  obtain ⟨⟨w1, w2, w3⟩, w4⟩ := hwv
  have hob := hO vv
  unfold pV at w4
  have l1 := w1.2
  have l2 := w2.2
  have l3 := w3.2
  have t1 : told % 2 = N 4 vv 0 := by omega
  have t2 : told / 2 % 128 = ix (S 3 vv 1) := by omega
  have t3 : told / 256 % 64 = ix (S 3 vv 2) := by omega
  have t4 : told / 16384 = ix (S 3 vv 3) := by omega
  rw [t1, t3, t4] at hw
  rw [t2, ← w1.1, f1] at hdy
  subst f3
  have s9 : S_dut S (N 5 0 0) (S 0 0 0 + S 3 vv 1) 9 (N 5 0 0) = upd (upd (S 9 (N 5 0 0)) 0 (nI 0)) 1 (S 0 0 0 + S 3 vv 1) := by
    unfold S_dut
    rw [su_ne (fun z => absurd z.1 (by decide)), su_self]
  have s90 : S_dut S (N 5 0 0) (S 0 0 0 + S 3 vv 1) 9 (N 5 0 0) 0 = nI 0 := by rw [s9]; simp [upd]
  have s91 : S_dut S (N 5 0 0) (S 0 0 0 + S 3 vv 1) 9 (N 5 0 0) 1 = S 0 0 0 + S 3 vv 1 := by rw [s9]; simp [upd]
  have n30 : N_dut N i vv 3 (N 5 0 0) 0 = i := by rw [N_dut_3i, va_up_ne _ _ (by decide), va_up_self]
  have n31 : N_dut N i vv 3 (N 5 0 0) 1 = vv := by rw [N_dut_3i, va_up_self]
  refine ⟨hv, h6, hI, hs, fun j hj => ?_, fun k hk b hb => ?_, ⟨f1, f2, rfl, ?_⟩, zY_up hY _ _ (by omega)⟩
  · by_cases e : j = N 5 0 0
    · subst e
      rw [Y_at, upd_self, n31, n30, s90, s91]
      refine ⟨isN_nI (by decide) (by decide), ⟨w1, w2, w3⟩, ?_, hdy, hi, hvv2⟩
      unfold pD
      rw [n31, n30, s90, ix_nI (by decide)]
      show w = i + 16 * N 4 vv 0 + 32 * 0 + 256 * ix (S 3 vv 2) + 16384 * ix (S 3 vv 3)
      omega
    · have hj' : j < N 5 0 0 := by
        have : j < N 5 0 0 + 1 := hj
        omega
      rw [N_dut_3 e, S_dut_9 e, Y_ne e, upd_ne e]
      unfold pD
      rw [N_dut_3 e, S_dut_9 e]
      exact hd j hj'
  · obtain ⟨b1, b2⟩ := hB k hk b hb
    have c1 : cntB (S_dut S (N 5 0 0) (S 0 0 0 + S 3 vv 1)) (N_dut N i vv) k b (N 5 0 0) = cntB S N k b (N 5 0 0) := cntB_congr2 k b _ (fun j hj => ⟨N_dut_3 (Nat.ne_of_lt hj), rfl, S_dut_9 (Nat.ne_of_lt hj)⟩)
    have c2 : penB (S_dut S (N 5 0 0) (S 0 0 0 + S 3 vv 1)) (N_dut N i vv) k b (N 5 0 0) = penB S N k b (N 5 0 0) := penB_congr2 k b _ (fun j hj => ⟨N_dut_3 (Nat.ne_of_lt hj), rfl, S_dut_9 (Nat.ne_of_lt hj), rfl⟩)
    have hno : ¬ S_dut S (N 5 0 0) (S 0 0 0 + S 3 vv 1) 9 (N 5 0 0) 0 = nI 3 := by
      rw [s90]
      decide
    refine ⟨?_, ?_⟩
    · show S 7 k b = nI (cntB (S_dut S (N 5 0 0) (S 0 0 0 + S 3 vv 1)) (N_dut N i vv) k b (N 5 0 0 + 1))
      simp only [cntB]
      rw [c1, if_neg (fun z => hno z.2.2), Nat.add_zero]
      exact b1
    · show S 8 k b = penB (S_dut S (N 5 0 0) (S 0 0 0 + S 3 vv 1)) (N_dut N i vv) k b (N 5 0 0 + 1)
      simp only [penB]
      rw [c2, if_neg (fun z => hno z.2.2), Int32.add_zero]
      exact b2
  · have e := sgN_congr (S := S) (S' := S_dut S (N 5 0 0) (S 0 0 0 + S 3 vv 1)) (fun i => rfl) (N 0 0 0)
    show N 5 0 0 + 1 + q ≤ 6 * sgN (S_dut S (N 5 0 0) (S 0 0 0 + S 3 vv 1)) (N 0 0 0)
    rw [e]
    omega
theorem rz_less {q q' : Nat} (h : RZm q S N Y t D a b) (hq : q' ≤ q) : RZm q' S N Y t D a b := ⟨h.1, h.2.1, h.2.2.1, h.2.2.2.1, h.2.2.2.2.1, h.2.2.2.2.2.1, ⟨h.2.2.2.2.2.2.1.1, h.2.2.2.2.2.2.1.2.1, h.2.2.2.2.2.2.1.2.2.1, Nat.le_trans (Nat.add_le_add_left hq _) h.2.2.2.2.2.2.1.2.2.2⟩, h.2.2.2.2.2.2.2⟩
end RZ2
theorem mkD_same (S : SS) (N : NN) (i : Nat) : ∀ c, sameN N (K_mkD S N i c).2 ∧ (K_mkD S N i c).2 4 = N 4
  | 0 => ⟨⟨rfl, rfl, rfl⟩, rfl⟩
  | c + 1 => by
    obtain ⟨⟨h0, h1, h2⟩, h4⟩ := mkD_same S N i c
    show sameN N (stepD i c (K_mkD S N i c)).2 ∧ (stepD i c (K_mkD S N i c)).2 4 = N 4
    unfold stepD
    split
    · exact ⟨⟨h0, h1, h2⟩, h4⟩
    · exact ⟨⟨h0, h1, h2⟩, h4⟩
theorem mkD_stop (S : SS) (N : NN) (i : Nat) (h : ∀ c, 6 ≤ c → c < 10 → N 2 i c = 0) : ∀ k, k ≤ 4 → K_mkD S N i (6 + k) = K_mkD S N i 6 ∧ K_made S N i (6 + k) = K_made S N i 6
  | 0, _ => ⟨rfl, rfl⟩
  | k + 1, hk => by
    obtain ⟨h1, h2⟩ := mkD_stop S N i h k (by omega)
    have e : (K_mkD S N i (6 + k)).2 2 i (6 + k) = 0 := by
      rw [(mkD_same S N i (6 + k)).1.2.2]
      exact h _ (by omega) (by omega)
    refine ⟨?_, ?_⟩
    · show stepD i (6 + k) (K_mkD S N i (6 + k)) = K_mkD S N i 6
      unfold stepD
      rw [if_pos e, h1]
    · show (if (K_mkD S N i (6 + k)).2 2 i (6 + k) = 0 then K_made S N i (6 + k) else K_made S N i (6 + k) + 1) = K_made S N i 6
      rw [if_pos e, h2]

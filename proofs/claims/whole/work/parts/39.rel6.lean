/-! mark -/
theorem va_up_id {α : Type} (f : Nat → α) (k : Nat) : va_up f k (f k) = f := by
  funext j
  by_cases e : j = k
  · subst e; exact va_up_self _ _ _
  · exact va_up_ne _ _ e
theorem va_up_up {α : Type} (f : Nat → α) (k : Nat) (x y : α) : va_up (va_up f k x) k y = va_up f k y := by
  funext j
  by_cases e : j = k
  · subst e; rw [va_up_self, va_up_self]
  · rw [va_up_ne _ _ e, va_up_ne _ _ e, va_up_ne _ _ e]
section JW5
variable {S : SS} {N : NN} {F : Nat → Int32} {C : Nat → Nat} {R : Nat → Nat → Int32} {T : Nat → Nat → Nat}
theorem j_change0 (h : JJ (S, N) (F, C, R, T)) (hM : jM (S, N)) {i c : Nat} {mk : Int32} (hi : i < N 0 0 0) (hi10 : i < 10) (hc : c < 10) (hdr : isDr S i) (h0 : ¬ N 2 i c = 0) (hmk : mk = nI 1 ∨ mk = nI 2) :
    JJ (K_change S N i 0 c mk) (M_marks F C R (va_up T 12 (va_up (T 12) (10 * i + c) (T 12 (10 * i + c)))) i 0 c mk) ∧ jM (K_change S N i 0 c mk) := by
  obtain ⟨i1, i2, i3, i4⟩ := h.2.2.1 i hi10 c hc
  have e12 : T 12 (10 * i + c) = N 2 i c := i1
  have m0 : R 13 (2 * (10 * i + c)) = S 4 i c := (i2 h0).1
  have m1 : R 13 (2 * (10 * i + c) + 1) = S 5 i c := (i2 h0).2
  have hm := hM i hi10 c hc h0
  have hm' : S 4 i c = nI 1 ∨ S 5 i c = nI 1 := hm
  have eme : R 13 (2 * (10 * i + c) + 0) = S 4 i c := m0
  have eot : R 13 (2 * (10 * i + c) + 1 - 0) = S 5 i c := m1
  unfold M_marks K_change
  rw [eme, eot, show K_mk S i 0 c = S 4 i c from rfl, show K_mk S i (1 - 0) c = S 5 i c from rfl]
  by_cases h1 : S 4 i c = mk
  · rw [if_pos h1, if_pos h1]
    have hno : ¬ (mk = nI 2 ∧ ¬ S 5 i c = nI 1) := fun q => by
      rcases hm' with q1 | q1
      · exact absurd ((q1.symm.trans h1).trans q.1) (by decide)
      · exact q.2 q1
    rw [if_neg hno]
    refine ⟨?_, hM⟩
    rw [va_up_id, va_up_id]
    exact h
  · rw [if_neg h1, if_neg h1]
    have hiff : (¬ mk = nI 1 ∧ ¬ S 5 i c = nI 1) ↔ (mk = nI 2 ∧ ¬ S 5 i c = nI 1) := by
      constructor
      · rintro ⟨q1, q2⟩
        exact ⟨hmk.resolve_left q1, q2⟩
      · rintro ⟨q1, q2⟩
        exact ⟨fun q => absurd (q.symm.trans q1) (by decide), q2⟩
    by_cases h2 : mk = nI 2 ∧ ¬ S 5 i c = nI 1
    · rw [if_pos h2, if_pos (hiff.mpr h2), show K_mk S i 0 = S 4 i from rfl, setmk_0]
      refine ⟨JJ_Z h hi hi10 hc hdr (fun d hd => upd_ne hd) (fun d hd => rfl) (fun q q1 q2 => ?_) (fun q => absurd rfl q) (fun _ => ⟨?_, ?_⟩) ?_ (fun j hj => ?_) (fun k k1 k2 => ?_) ?_ (fun k hk => ?_), jM_Z hM (fun d hd => upd_ne hd) (fun d hd => rfl) (fun q => absurd rfl q)⟩
      · rw [va_up_ne _ _ (by decide : ¬ (13 : Nat) = 11), va_up_self, upd_ne q2, upd_ne q1, upd_ne (show ¬ q = 2 * (10 * i + c) + 0 by omega)]
      · rw [va_up_ne _ _ (by decide : ¬ (13 : Nat) = 11), va_up_self, upd_ne (show ¬ 2 * (10 * i + c) = 2 * (10 * i + c) + 1 by omega), upd_self]
      · rw [va_up_ne _ _ (by decide : ¬ (13 : Nat) = 11), va_up_self, upd_self]
      · rw [va_up_self]; exact upd_self _ _ _
      · rw [va_up_self]; exact upd_ne hj
      · rw [va_up_ne _ _ k2, va_up_ne _ _ k1]
      · rw [va_up_self, va_up_self, va_up_up]
      · rw [va_up_ne _ _ hk, va_up_ne _ _ hk]
    · rw [if_neg h2, if_neg (fun q => h2 (hiff.mp q)), show K_mk S i 0 = S 4 i from rfl, setmk_0]
      have hin : mk = nI 1 ∨ S 5 i c = nI 1 := by
        rcases hmk with q | q
        · exact Or.inl q
        · exact Or.inr (Classical.not_not.mp (fun q2 => h2 ⟨q, q2⟩))
      have z1 := JJ_Z (n := N 2 i c) (r4 := (upd (S 4 i) c mk)) (r5 := (S 5 i)) (R' := va_up (va_up R 13 (upd (R 13) (2 * (10 * i + c) + 0) mk)) 11 (upd (R 11) i (nI 0))) (T' := va_up T 12 (va_up (T 12) (10 * i + c) (T 12 (10 * i + c)))) h hi hi10 hc hdr (fun d hd => upd_ne hd) (fun d hd => rfl) (fun q q1 q2 => by
        rw [va_up_ne _ _ (by decide : ¬ (13 : Nat) = 11), va_up_self, upd_ne (show ¬ q = 2 * (10 * i + c) + 0 by omega)]) (fun _ => ⟨by
        rw [va_up_ne _ _ (by decide : ¬ (13 : Nat) = 11), va_up_self]
        exact (upd_self _ _ _).trans (upd_self _ _ _).symm, by
        rw [va_up_ne _ _ (by decide : ¬ (13 : Nat) = 11), va_up_self]
        rw [upd_ne (show ¬ 2 * (10 * i + c) + 1 = 2 * (10 * i + c) + 0 by omega)]; exact m1⟩) (fun q => absurd q h0) (by rw [va_up_self]; exact upd_self _ _ _) (fun j hj => by rw [va_up_self]; exact upd_ne hj) (fun k k1 k2 => by rw [va_up_ne _ _ k2, va_up_ne _ _ k1]) (by rw [va_up_self, e12]) (fun k hk => va_up_ne _ _ hk)
      have z2 := jM_Z (n := N 2 i c) (i := i) (r4 := (upd (S 4 i) c mk)) (r5 := (S 5 i)) hM (fun d hd => upd_ne hd) (fun d hd => rfl) (fun _ => by
        rcases hin with q | q
        · exact Or.inl ((upd_self _ _ _).trans q)
        · exact Or.inr q)
      rw [nu_id] at z1 z2
      exact ⟨z1, z2⟩
theorem j_change1 (h : JJ (S, N) (F, C, R, T)) (hM : jM (S, N)) {i c : Nat} {mk : Int32} (hi : i < N 0 0 0) (hi10 : i < 10) (hc : c < 10) (hdr : isDr S i) (h0 : ¬ N 2 i c = 0) (hmk : mk = nI 1 ∨ mk = nI 2) :
    JJ (K_change S N i 1 c mk) (M_marks F C R (va_up T 12 (va_up (T 12) (10 * i + c) (T 12 (10 * i + c)))) i 1 c mk) ∧ jM (K_change S N i 1 c mk) := by
  obtain ⟨i1, i2, i3, i4⟩ := h.2.2.1 i hi10 c hc
  have e12 : T 12 (10 * i + c) = N 2 i c := i1
  have m0 : R 13 (2 * (10 * i + c)) = S 4 i c := (i2 h0).1
  have m1 : R 13 (2 * (10 * i + c) + 1) = S 5 i c := (i2 h0).2
  have hm := hM i hi10 c hc h0
  have hm' : S 4 i c = nI 1 ∨ S 5 i c = nI 1 := hm
  have eme : R 13 (2 * (10 * i + c) + 1) = S 5 i c := m1
  have eot : R 13 (2 * (10 * i + c) + 1 - 1) = S 4 i c := m0
  unfold M_marks K_change
  rw [eme, eot, show K_mk S i 1 c = S 5 i c from rfl, show K_mk S i (1 - 1) c = S 4 i c from rfl]
  by_cases h1 : S 5 i c = mk
  · rw [if_pos h1, if_pos h1]
    have hno : ¬ (mk = nI 2 ∧ ¬ S 4 i c = nI 1) := fun q => by
      rcases hm' with q1 | q1
      · exact q.2 q1
      · exact absurd ((q1.symm.trans h1).trans q.1) (by decide)
    rw [if_neg hno]
    refine ⟨?_, hM⟩
    rw [va_up_id, va_up_id]
    exact h
  · rw [if_neg h1, if_neg h1]
    have hiff : (¬ mk = nI 1 ∧ ¬ S 4 i c = nI 1) ↔ (mk = nI 2 ∧ ¬ S 4 i c = nI 1) := by
      constructor
      · rintro ⟨q1, q2⟩
        exact ⟨hmk.resolve_left q1, q2⟩
      · rintro ⟨q1, q2⟩
        exact ⟨fun q => absurd (q.symm.trans q1) (by decide), q2⟩
    by_cases h2 : mk = nI 2 ∧ ¬ S 4 i c = nI 1
    · rw [if_pos h2, if_pos (hiff.mpr h2), show K_mk S i 1 = S 5 i from rfl, setmk_1]
      refine ⟨JJ_Z h hi hi10 hc hdr (fun d hd => rfl) (fun d hd => upd_ne hd) (fun q q1 q2 => ?_) (fun q => absurd rfl q) (fun _ => ⟨?_, ?_⟩) ?_ (fun j hj => ?_) (fun k k1 k2 => ?_) ?_ (fun k hk => ?_), jM_Z hM (fun d hd => rfl) (fun d hd => upd_ne hd) (fun q => absurd rfl q)⟩
      · rw [va_up_ne _ _ (by decide : ¬ (13 : Nat) = 11), va_up_self, upd_ne q2, upd_ne q1, upd_ne (show ¬ q = 2 * (10 * i + c) + 1 by omega)]
      · rw [va_up_ne _ _ (by decide : ¬ (13 : Nat) = 11), va_up_self, upd_ne (show ¬ 2 * (10 * i + c) = 2 * (10 * i + c) + 1 by omega), upd_self]
      · rw [va_up_ne _ _ (by decide : ¬ (13 : Nat) = 11), va_up_self, upd_self]
      · rw [va_up_self]; exact upd_self _ _ _
      · rw [va_up_self]; exact upd_ne hj
      · rw [va_up_ne _ _ k2, va_up_ne _ _ k1]
      · rw [va_up_self, va_up_self, va_up_up]
      · rw [va_up_ne _ _ hk, va_up_ne _ _ hk]
    · rw [if_neg h2, if_neg (fun q => h2 (hiff.mp q)), show K_mk S i 1 = S 5 i from rfl, setmk_1]
      have hin : mk = nI 1 ∨ S 4 i c = nI 1 := by
        rcases hmk with q | q
        · exact Or.inl q
        · exact Or.inr (Classical.not_not.mp (fun q2 => h2 ⟨q, q2⟩))
      have z1 := JJ_Z (n := N 2 i c) (r4 := (S 4 i)) (r5 := (upd (S 5 i) c mk)) (R' := va_up (va_up R 13 (upd (R 13) (2 * (10 * i + c) + 1) mk)) 11 (upd (R 11) i (nI 0))) (T' := va_up T 12 (va_up (T 12) (10 * i + c) (T 12 (10 * i + c)))) h hi hi10 hc hdr (fun d hd => rfl) (fun d hd => upd_ne hd) (fun q q1 q2 => by
        rw [va_up_ne _ _ (by decide : ¬ (13 : Nat) = 11), va_up_self, upd_ne (show ¬ q = 2 * (10 * i + c) + 1 by omega)]) (fun _ => ⟨by
        rw [va_up_ne _ _ (by decide : ¬ (13 : Nat) = 11), va_up_self]
        rw [upd_ne (show ¬ 2 * (10 * i + c) = 2 * (10 * i + c) + 1 by omega)]; exact m0, by
        rw [va_up_ne _ _ (by decide : ¬ (13 : Nat) = 11), va_up_self]
        exact (upd_self _ _ _).trans (upd_self _ _ _).symm⟩) (fun q => absurd q h0) (by rw [va_up_self]; exact upd_self _ _ _) (fun j hj => by rw [va_up_self]; exact upd_ne hj) (fun k k1 k2 => by rw [va_up_ne _ _ k2, va_up_ne _ _ k1]) (by rw [va_up_self, e12]) (fun k hk => va_up_ne _ _ hk)
      have z2 := jM_Z (n := N 2 i c) (i := i) (r4 := (S 4 i)) (r5 := (upd (S 5 i) c mk)) hM (fun d hd => rfl) (fun d hd => upd_ne hd) (fun _ => by
        rcases hin with q | q
        · exact Or.inr ((upd_self _ _ _).trans q)
        · exact Or.inl q)
      rw [nu_id] at z1 z2
      exact ⟨z1, z2⟩
theorem j_new0 (h : JJ (S, N) (F, C, R, T)) (hM : jM (S, N)) {i c n : Nat} (hi : i < N 0 0 0) (hi10 : i < 10) (hc : c < 10) (hdr : isDr S i) (h0 : N 2 i c = 0) (hn : ¬ n = 0) :
    JJ (K_bring S i 0 c, nu N 2 i (va_up (N 2 i) c n)) (M_marks F C R (va_up T 12 (va_up (T 12) (10 * i + c) n)) i 0 c (nI 1)) ∧ jM (K_bring S i 0 c, nu N 2 i (va_up (N 2 i) c n)) := by
  obtain ⟨i1, i2, i3, i4⟩ := h.2.2.1 i hi10 c hc
  have m0 : R 13 (2 * (10 * i + c)) = nI 0 := (i3 h0).1
  have m1 : R 13 (2 * (10 * i + c) + 1) = nI 0 := (i3 h0).2
  unfold M_marks
  rw [if_neg (fun q => absurd ((show R 13 (2 * (10 * i + c) + 0) = nI 0 from m0).symm.trans q) (by decide)), if_neg (fun q => absurd q.1 (by decide)), bring_0]
  refine ⟨JJ_Z h hi hi10 hc hdr (fun d hd => upd_ne hd) (fun d hd => upd_ne hd) (fun q q1 q2 => ?_) (fun _ => ⟨?_, ?_⟩) (fun q => absurd q hn) ?_ (fun j hj => ?_) (fun k k1 k2 => ?_) ?_ (fun k hk => ?_), jM_Z hM (fun d hd => upd_ne hd) (fun d hd => upd_ne hd) (fun _ => Or.inl (upd_self _ _ _))⟩
  · rw [va_up_ne _ _ (by decide : ¬ (13 : Nat) = 11), va_up_self, upd_ne (show ¬ q = 2 * (10 * i + c) + 0 by omega)]
  · rw [va_up_ne _ _ (by decide : ¬ (13 : Nat) = 11), va_up_self]
    exact (upd_self _ _ _).trans (upd_self _ _ _).symm
  · rw [va_up_ne _ _ (by decide : ¬ (13 : Nat) = 11), va_up_self]
    rw [upd_ne (show ¬ 2 * (10 * i + c) + 1 = 2 * (10 * i + c) + 0 by omega)]; exact m1.trans (upd_self _ _ _).symm
  · rw [va_up_self]; exact upd_self _ _ _
  · rw [va_up_self]; exact upd_ne hj
  · rw [va_up_ne _ _ k2, va_up_ne _ _ k1]
  · exact va_up_self _ _ _
  · exact va_up_ne _ _ hk
theorem j_new1 (h : JJ (S, N) (F, C, R, T)) (hM : jM (S, N)) {i c n : Nat} (hi : i < N 0 0 0) (hi10 : i < 10) (hc : c < 10) (hdr : isDr S i) (h0 : N 2 i c = 0) (hn : ¬ n = 0) :
    JJ (K_bring S i 1 c, nu N 2 i (va_up (N 2 i) c n)) (M_marks F C R (va_up T 12 (va_up (T 12) (10 * i + c) n)) i 1 c (nI 1)) ∧ jM (K_bring S i 1 c, nu N 2 i (va_up (N 2 i) c n)) := by
  obtain ⟨i1, i2, i3, i4⟩ := h.2.2.1 i hi10 c hc
  have m0 : R 13 (2 * (10 * i + c)) = nI 0 := (i3 h0).1
  have m1 : R 13 (2 * (10 * i + c) + 1) = nI 0 := (i3 h0).2
  unfold M_marks
  rw [if_neg (fun q => absurd ((show R 13 (2 * (10 * i + c) + 1) = nI 0 from m1).symm.trans q) (by decide)), if_neg (fun q => absurd q.1 (by decide)), bring_1]
  refine ⟨JJ_Z h hi hi10 hc hdr (fun d hd => upd_ne hd) (fun d hd => upd_ne hd) (fun q q1 q2 => ?_) (fun _ => ⟨?_, ?_⟩) (fun q => absurd q hn) ?_ (fun j hj => ?_) (fun k k1 k2 => ?_) ?_ (fun k hk => ?_), jM_Z hM (fun d hd => upd_ne hd) (fun d hd => upd_ne hd) (fun _ => Or.inr (upd_self _ _ _))⟩
  · rw [va_up_ne _ _ (by decide : ¬ (13 : Nat) = 11), va_up_self, upd_ne (show ¬ q = 2 * (10 * i + c) + 1 by omega)]
  · rw [va_up_ne _ _ (by decide : ¬ (13 : Nat) = 11), va_up_self]
    rw [upd_ne (show ¬ 2 * (10 * i + c) = 2 * (10 * i + c) + 1 by omega)]; exact m0.trans (upd_self _ _ _).symm
  · rw [va_up_ne _ _ (by decide : ¬ (13 : Nat) = 11), va_up_self]
    exact (upd_self _ _ _).trans (upd_self _ _ _).symm
  · rw [va_up_self]; exact upd_self _ _ _
  · rw [va_up_self]; exact upd_ne hj
  · rw [va_up_ne _ _ k2, va_up_ne _ _ k1]
  · exact va_up_self _ _ _
  · exact va_up_ne _ _ hk
theorem mk_12 {mk : Int32} (h : nI 1 ≤ mk ∧ mk ≤ nI 2) : mk = nI 1 ∨ mk = nI 2 := by
  obtain ⟨j, h1, rfl⟩ := nI_of2 (x := mk) (M := nI 2) (n := 2) (by decide) (fun q => absurd (Int32.lt_of_lt_of_le q (show (0 : Int32) ≤ nI 1 by decide)) (Int32.not_lt.mpr h.1)) h.2
  rcases (show j = 0 ∨ j = 1 ∨ j = 2 by omega) with rfl | rfl | rfl
  · exact absurd h.1 (by decide)
  · exact Or.inl rfl
  · exact Or.inr rfl
theorem mk_F {F : Nat → Int32} {C : Nat → Nat} {R : Nat → Nat → Int32} {T : Nat → Nat → Nat} {i sd c : Nat} {mk : Int32} : (M_marks F C R T i sd c mk).1 = F := by
  unfold M_marks
  split
  · split <;> rfl
  · split <;> rfl
theorem j_mark (h : JJ (S, N) (F, C, R, T)) (hN : okS N) (hM : jM (S, N)) (a b d mk : Int32) : Jop S N (V_mark S N a b d mk) (if N 2 (ix a) (ix d) = 0 then nI 0 else K_mk S (ix a) (ix b) (ix d)) (if N 2 (ix a) (ix d) = 0 then (K_bring S (ix a) (ix b) (ix d), nu N 2 (ix a) (va_up (N 2 (ix a)) (ix d) (N 1 0 (ix d)))) else K_change S N (ix a) (ix b) (ix d) mk) (M_mark F C R T a b d mk).1 (M_mark F C R T a b d mk).2 ∧ (V_mark S N a b d mk = 0 → jM (if N 2 (ix a) (ix d) = 0 then (K_bring S (ix a) (ix b) (ix d), nu N 2 (ix a) (va_up (N 2 (ix a)) (ix d) (N 1 0 (ix d)))) else K_change S N (ix a) (ix b) (ix d) mk)) := by
  unfold M_mark V_mark
  by_cases ha : isCt N 0 a
  · rw [if_pos ha, if_pos ((isC_iff h a).1.mpr ha)]
    by_cases hbd : isSd b ∧ isCl d ∧ (nI 1 ≤ mk ∧ mk ≤ nI 2)
    · rw [if_pos hbd, if_pos hbd]
      have hmk := mk_12 hbd.2.2
      obtain ⟨i, hi, rfl, ei⟩ := ct_ix (n := N 0 0 0) (by have := hN.2.2.2.1; omega) ha
      obtain ⟨sd, hsd, rfl, es⟩ := sd_ix hbd.1
      obtain ⟨c, hc, rfl, ec⟩ := cl_ix hbd.2.1
      have hi10 : i < 10 := by have := hN.2.2.2.1; omega
      have hd := dr_iff h.2.2.2.1 hi10
      obtain ⟨i1, i2, i3, i4⟩ := h.2.2.1 i hi10 c hc
      have e2 : T 12 (10 * i + c) = N 2 i c := i1
      have e1 : T 2 c = N 1 0 c := (h.2.1 c hc).1
      rw [ei, es, ec]
      by_cases h1 : isDr S i
      · rw [if_pos (hd.mpr h1)]
        by_cases h2 : N 2 i c = 0
        · rw [if_pos (e2.trans h2), if_pos h2, if_pos h2]
          by_cases h3 : mk = nI 2
          · rw [if_pos h3, if_neg (fun q => q.2 ⟨h2, Or.inl h3⟩)]
            exact ⟨Jop_no 3 rfl (by decide) h, fun q => absurd q (by decide)⟩
          · rw [if_neg h3]
            by_cases h4 : N 1 0 c = 0
            · rw [if_pos (e1.trans h4), if_neg (fun q => q.2 ⟨h2, Or.inr h4⟩)]
              exact ⟨Jop_no 3 rfl (by decide) h, fun q => absurd q (by decide)⟩
            · rw [if_neg (fun q => h4 (e1.symm.trans q)), if_pos ⟨h1, fun q => q.2.elim h3 h4⟩, e1]
              obtain rfl : mk = nI 1 := hmk.resolve_right h3
              have hF : (M_marks (va_up F 0 (nI 0)) C R (va_up T 12 (va_up (T 12) (10 * i + c) (N 1 0 c))) i sd c (nI 1)).1 0 = nI 0 := by rw [mk_F]; exact up0 F _
              rcases (show sd = 0 ∨ sd = 1 by omega) with rfl | rfl
              · have z := j_new0 (JJ_F (nI 0) h) hM hi hi10 hc h1 h2 h4
                exact ⟨Jop_ok rfl hF (i3 h2).1 z.1, fun _ => z.2⟩
              · have z := j_new1 (JJ_F (nI 0) h) hM hi hi10 hc h1 h2 h4
                exact ⟨Jop_ok rfl hF (i3 h2).2 z.1, fun _ => z.2⟩
        · rw [if_neg (fun q => h2 (e2.symm.trans q)), if_neg h2, if_neg h2, if_pos ⟨h1, fun q => h2 q.1⟩]
          have hF : (M_marks (va_up F 0 (nI 0)) C R (va_up T 12 (va_up (T 12) (10 * i + c) (T 12 (10 * i + c)))) i sd c mk).1 0 = nI 0 := by rw [mk_F]; exact up0 F _
          rcases (show sd = 0 ∨ sd = 1 by omega) with rfl | rfl
          · have z := j_change0 (JJ_F (nI 0) h) hM hi hi10 hc h1 h2 hmk
            exact ⟨Jop_ok rfl hF (i2 h2).1 z.1, fun _ => z.2⟩
          · have z := j_change1 (JJ_F (nI 0) h) hM hi hi10 hc h1 h2 hmk
            exact ⟨Jop_ok rfl hF (i2 h2).2 z.1, fun _ => z.2⟩
      · rw [if_neg (fun q => h1 (hd.mp q)), if_neg (fun q => h1 q.1)]
        exact ⟨Jop_no 3 rfl (by decide) h, fun q => absurd q (by decide)⟩
    · rw [if_neg hbd, if_neg hbd]
      exact ⟨Jop_no 2 rfl (by decide) h, fun q => absurd q (by decide)⟩
  · rw [if_neg ha, if_neg (fun q => ha ((isC_iff h a).1.mp q))]
    exact ⟨Jop_no 1 rfl (by decide) h, fun q => absurd q (by decide)⟩
end JW5

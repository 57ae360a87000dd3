/-! relate, perform, notice, settle -/
theorem sgN_congr {S S' : SS} (h : ∀ i, S' 6 i = S 6 i) : ∀ n, sgN S' n = sgN S n
  | 0 => rfl
  | n + 1 => by simp only [sgN, isDr]; rw [sgN_congr h n, h n]
theorem cntB_congr {S S' : SS} {N : NN} (i b : Nat) (h : ∀ j, S' 9 j = S 9 j) : ∀ n, cntB S' N i b n = cntB S N i b n
  | 0 => rfl
  | n + 1 => by simp only [cntB]; rw [cntB_congr i b h n, h n]
theorem penB_congr {S S' : SS} {N : NN} (i b : Nat) (h : ∀ j, S' 9 j = S 9 j) (h3 : ∀ v, S' 3 v = S 3 v) : ∀ n, penB S' N i b n = penB S N i b n
  | 0 => rfl
  | n + 1 => by simp only [penB]; rw [penB_congr i b h h3 n, h n, h3]
theorem rel_bit : ∀ x : Fin 1024, ∀ c : Fin 10, ((nI x.val >>> (nI c.val &&& 31)) &&& nI 1 = nI 1 ↔ ¬ nI x.val &&& (nI 1 <<< (nI c.val &&& 31)) = 0) := by decide +kernel
theorem nI_or (a b : Nat) : nI a ||| nI b = nI (a ||| b) := by
  apply Int32.toBitVec_inj.mp
  rw [Int32.toBitVec_or]
  show BitVec.ofNat 32 a ||| BitVec.ofNat 32 b = BitVec.ofNat 32 (a ||| b)
  ext i hi
  simp [Nat.testBit_or]
section JWrite
variable {S : SS} {N : NN} {F : Nat → Int32} {C : Nat → Nat} {R : Nat → Nat → Int32} {T : Nat → Nat → Nat}
theorem j_relate (h : JJ (S, N) (F, C, R, T)) (a n f : Int32) : (M_relate F C R T a n f).1 0 = nI (V_relate a n f) ∧ (V_relate a n f = 0 → JJ (su (su S 1 0 (upd (S 1 0) (ix a) n)) 2 0 (upd (S 2 0) (ix a) f), N) (M_relate F C R T a n f)) ∧ (¬ V_relate a n f = 0 → JJ (S, N) (M_relate F C R T a n f)) := by
  have no : ∀ k, ¬ k = 0 → V_relate a n f = k → M_relate F C R T a n f = (va_up F 0 (nI k), C, R, T) → (M_relate F C R T a n f).1 0 = nI (V_relate a n f) ∧ (V_relate a n f = 0 → JJ (su (su S 1 0 (upd (S 1 0) (ix a) n)) 2 0 (upd (S 2 0) (ix a) f), N) (M_relate F C R T a n f)) ∧ (¬ V_relate a n f = 0 → JJ (S, N) (M_relate F C R T a n f)) := fun k hk h1 h2 => by
    rw [h1, h2]
    exact ⟨up0 F _, fun q => absurd q hk, fun _ => JJ_F _ h⟩
  by_cases ha : isCl a ∧ (nI 0 ≤ n ∧ n ≤ nI 1023) ∧ (nI 0 ≤ f ∧ f ≤ nI 1023)
  · obtain ⟨hc, hn, hf⟩ := ha
    obtain ⟨c, hc10, rfl, ec⟩ := cl_ix hc
    obtain ⟨n', hn', rfl⟩ := nI_of2 (x := n) (M := nI 1023) (n := 1023) (by decide) (fun q => absurd q (Int32.not_lt.mpr (by rw [← nI_00]; exact hn.1))) hn.2
    obtain ⟨f', hf', rfl⟩ := nI_of2 (x := f) (M := nI 1023) (n := 1023) (by decide) (fun q => absurd q (Int32.not_lt.mpr (by rw [← nI_00]; exact hf.1))) hf.2
    have hor : n' ||| f' < 1024 := Nat.or_lt_two_pow (n := 10) (by omega) (by omega)
    have hb := rel_bit ⟨n' ||| f', hor⟩ ⟨c, hc10⟩
    have e1 : ((nI n' ||| nI f') >>> (nI c &&& 31)) &&& nI 1 = nI 1 ↔ ¬ (nI n' &&& (nI 1 <<< (nI c &&& 31)) = 0 ∧ nI f' &&& (nI 1 <<< (nI c &&& 31)) = 0) := by
      rw [← or_and0, nI_or]
      exact hb
    by_cases hz : nI n' &&& (nI 1 <<< (nI c &&& 31)) = 0 ∧ nI f' &&& (nI 1 <<< (nI c &&& 31)) = 0
    · have hV : V_relate (nI c) (nI n') (nI f') = 0 := by
        unfold V_relate
        rw [ec]
        exact if_pos ⟨hc, ⟨hn, hz.1⟩, ⟨hf, hz.2⟩⟩
      have hM : M_relate F C R T (nI c) (nI n') (nI f') = (va_up F 0 (nI 0), C, va_up (va_up R 7 (upd (R 7) c (nI n'))) 8 (upd (R 8) c (nI f')), T) := by
        unfold M_relate
        rw [if_pos ⟨hc, hn, hf⟩, if_neg (fun q => (e1.mp q) hz), ec]
      rw [hV, hM, ec]
      refine ⟨up0 F _, fun _ => ?_, fun q => absurd rfl q⟩
      refine JJ_F (R := va_up (va_up R 7 (upd (R 7) c (nI n'))) 8 (upd (R 8) c (nI f'))) _ ?_
      obtain ⟨⟨f1, f2, f3, f4⟩, hv, hi, hs, hd, hB⟩ := h
      refine ⟨⟨f1, f2, f3, ?_⟩, fun k hk => ?_, hi, hs, hd, fun i hi b hb => ?_⟩
      · have e := sgN_congr (S := S) (S' := (su (su S 1 0 (upd (S 1 0) c (nI n'))) 2 0 (upd (S 2 0) c (nI f')))) (fun i => rfl) (N 0 0 0)
        show N 5 0 0 ≤ 10 * sgN (su (su S 1 0 (upd (S 1 0) c (nI n'))) 2 0 (upd (S 2 0) c (nI f'))) (N 0 0 0)
        rw [e]
        exact f4
      · obtain ⟨v1, v2, v3, v4⟩ := hv k hk
        refine ⟨v1, ?_, ?_, v4⟩
        · show upd (R 7) c (nI n') k = upd (S 1 0) c (nI n') k
          by_cases e : k = c
          · simp [upd, e]
          · simp only [upd, if_neg e]; exact v2
        · show upd (R 8) c (nI f') k = upd (S 2 0) c (nI f') k
          by_cases e : k = c
          · simp [upd, e]
          · simp only [upd, if_neg e]; exact v3
      · obtain ⟨b1, b2⟩ := hB i hi b hb
        exact ⟨b1.trans (congrArg nI (cntB_congr (S := S) (S' := (su (su S 1 0 (upd (S 1 0) c (nI n'))) 2 0 (upd (S 2 0) c (nI f')))) i b (fun j => rfl) _).symm), b2.trans (penB_congr (S := S) (S' := (su (su S 1 0 (upd (S 1 0) c (nI n'))) 2 0 (upd (S 2 0) c (nI f')))) i b (fun j => rfl) (fun v => rfl) _).symm⟩
    · refine no 1 (by decide) ?_ ?_
      · unfold V_relate
        rw [ec]
        exact if_neg (fun q => hz ⟨q.2.1.2, q.2.2.2⟩)
      · unfold M_relate
        rw [if_pos ⟨hc, hn, hf⟩, if_pos (e1.mpr hz)]
  · refine no 1 (by decide) ?_ ?_
    · unfold V_relate
      exact if_neg (fun q => ha ⟨q.1, q.2.1.1, q.2.2.1⟩)
    · unfold M_relate
      rw [if_neg ha]
/-- the rows of a duty that moves -/
abbrev R_mv (R : Nat → Nat → Int32) (j : Nat) (st dy : Int32) : Nat → Nat → Int32 := va_up (va_up R 19 (upd (R 19) j st)) 20 (upd (R 20) j dy)
theorem mv_9 (S : SS) (j : Nat) (st dy : Int32) : K_move S j st dy 9 j = upd (upd (S 9 j) 0 st) 1 dy := su_self _ _ _ _
theorem mv_ne {S : SS} {j k : Nat} {st dy : Int32} (h : ¬ k = j) : K_move S j st dy 9 k = S 9 k := su_ne (fun z => h z.2)
theorem JJ_mv (h : JJ (S, N) (F, C, R, T)) (j : Nat) (st dy : Int32) : jF (K_move S j st dy) N F C ∧ jV (K_move S j st dy) N (R_mv R j st dy) T ∧ jI (K_move S j st dy) N (R_mv R j st dy) T ∧ jS (K_move S j st dy) N (R_mv R j st dy) ∧ jD (K_move S j st dy) N (R_mv R j st dy) T := by
  obtain ⟨⟨f1, f2, f3, f4⟩, hv, hi, hs, hd, hB⟩ := h
  refine ⟨⟨f1, f2, f3, ?_⟩, hv, hi, hs, fun k hk => ?_, hd.2⟩
  · have e := sgN_congr (S := S) (S' := K_move S j st dy) (fun i => rfl) (N 0 0 0)
    rw [e]
    exact f4
  · obtain ⟨d1, d2, d3, d4, d5, d6, d7, d8⟩ := hd.1 k hk
    refine ⟨d1, d2, d3, d4, ?_, ?_, d7, d8⟩
    · show upd (R 19) j st k = _
      by_cases e : k = j
      · subst e; rw [mv_9]; simp [upd]
      · rw [mv_ne e]; simp only [upd, if_neg e]; exact d5
    · show upd (R 20) j dy k = _
      by_cases e : k = j
      · subst e; rw [mv_9]; simp [upd]
      · rw [mv_ne e]; simp only [upd, if_neg e]; exact d6
abbrev isB (S : SS) (N : NN) (i b j : Nat) (x : Int32) : Prop := N 3 j 0 = i ∧ N 4 (N 3 j 1) 0 = b ∧ x = nI 3
theorem cnt_mv (S : SS) (N : NN) (i b j : Nat) (st dy : Int32) : ∀ n, cntB (K_move S j st dy) N i b n + (if j < n then (if isB S N i b j (S 9 j 0) then 1 else 0) else 0) = cntB S N i b n + (if j < n then (if isB S N i b j st then 1 else 0) else 0)
  | 0 => by simp [cntB]
  | n + 1 => by
    have ih := cnt_mv S N i b j st dy n
    simp only [cntB]
    by_cases e : n = j
    · subst e
      rw [if_neg (Nat.lt_irrefl _), if_neg (Nat.lt_irrefl _)] at ih
      rw [if_pos (Nat.lt_succ_self _), if_pos (Nat.lt_succ_self _), mv_9]
      have e2 : (upd (upd (S 9 n) 0 st) 1 dy) 0 = st := by simp [upd]
      rw [e2]
      unfold isB
      omega
    · rw [mv_ne e]
      by_cases h1 : j < n
      · rw [if_pos h1, if_pos h1] at ih
        rw [if_pos (show j < n + 1 by omega), if_pos (show j < n + 1 by omega)]
        omega
      · rw [if_neg h1, if_neg h1] at ih
        rw [if_neg (show ¬ j < n + 1 by omega), if_neg (show ¬ j < n + 1 by omega)]
        omega
theorem add4 (x y p q : Int32) (h : x + p = y + q) (t : Int32) : x + t + p = y + t + q := by
  rw [Int32.add_assoc, Int32.add_comm t, ← Int32.add_assoc, h, Int32.add_assoc, Int32.add_comm q, ← Int32.add_assoc]
theorem add2 (x p q : Int32) : x + p + q = x + q + p := by rw [Int32.add_assoc, Int32.add_comm p, ← Int32.add_assoc]
theorem pen_mv (S : SS) (N : NN) (i b j : Nat) (st dy : Int32) : ∀ n, penB (K_move S j st dy) N i b n + (if j < n then (if isB S N i b j (S 9 j 0) then S 3 (N 3 j 1) 3 else 0) else 0) = penB S N i b n + (if j < n then (if isB S N i b j st then S 3 (N 3 j 1) 3 else 0) else 0)
  | 0 => by simp [penB]
  | n + 1 => by
    have ih := pen_mv S N i b j st dy n
    simp only [penB]
    by_cases e : n = j
    · subst e
      rw [if_neg (Nat.lt_irrefl _), if_neg (Nat.lt_irrefl _), Int32.add_zero, Int32.add_zero] at ih
      rw [if_pos (Nat.lt_succ_self _), if_pos (Nat.lt_succ_self _), mv_9]
      have e2 : (upd (upd (S 9 n) 0 st) 1 dy) 0 = st := by simp [upd]
      rw [e2, ih]
      exact add2 _ _ _
    · rw [mv_ne e]
      have e3 : K_move S j st dy 3 = S 3 := rfl
      rw [e3]
      by_cases h1 : j < n
      · rw [if_pos h1, if_pos h1] at ih
        rw [if_pos (show j < n + 1 by omega), if_pos (show j < n + 1 by omega)]
        exact add4 _ _ _ _ ih _
      · rw [if_neg h1, if_neg h1, Int32.add_zero, Int32.add_zero] at ih
        rw [if_neg (show ¬ j < n + 1 by omega), if_neg (show ¬ j < n + 1 by omega), Int32.add_zero, Int32.add_zero, ih]
/-- a duty moves and is no breach before or behind -/
theorem JJ_mv0 (h : JJ (S, N) (F, C, R, T)) {j : Nat} {st : Int32} (dy : Int32) (h1 : ¬ S 9 j 0 = nI 3) (h2 : ¬ st = nI 3) : JJ (K_move S j st dy, N) (F, C, R_mv R j st dy, T) := by
  obtain ⟨a1, a2, a3, a4, a5⟩ := JJ_mv h j st dy
  refine ⟨a1, a2, a3, a4, a5, fun i hi b hb => ?_⟩
  obtain ⟨b1, b2⟩ := h.2.2.2.2.2 i hi b hb
  have c1 := cnt_mv S N i b j st dy (N 5 0 0)
  have c2 := pen_mv S N i b j st dy (N 5 0 0)
  rw [if_neg (show ¬ isB S N i b j (S 9 j 0) from fun q => h1 q.2.2), if_neg (show ¬ isB S N i b j st from fun q => h2 q.2.2)] at c1 c2
  simp only [ite_self, Nat.add_zero, Int32.add_zero] at c1 c2
  exact ⟨b1.trans (congrArg nI c1.symm), b2.trans c2.symm⟩
theorem nI_ne {a b : Nat} (ha : a < 2 ^ 31) (hb : b < 2 ^ 31) (h : a ≠ b) : ¬ nI a = nI b := fun q => h ((nI_inj ha hb).mp q)
theorem live_no3 {x : Int32} (h : x = 0 ∨ x = nI 2) : ¬ x = nI 3 := by
  rcases h with rfl | rfl <;> decide
theorem j_perform (h : JJ (S, N) (F, C, R, T)) (hN : okS N) (a : Int32) : Jop S N (V_perform S N a) (bi (S 9 (ix a) 0 = nI 2 ∨ S 9 (ix a) 1 < S 0 0 0)) (K_move S (ix a) (nI 1) (S 0 0 0), N) (M_perform F C R T a).1 (M_perform F C R T a).2 := by
  unfold M_perform V_perform
  by_cases ha : isCt N 5 a
  · rw [if_pos ha, if_pos ((isC_iff h a).2.mpr ha)]
    obtain ⟨j, hj, rfl, ej⟩ := ct_ix (n := N 5 0 0) (by have := hN.2.2.2.2; omega) ha
    obtain ⟨d1, d2, d3, d4, d5, d6, d7, d8⟩ := h.2.2.2.2.1.1 j hj
    have f1 : F 1 = S 0 0 0 := h.1.1
    rw [ej, show R 19 j = S 9 j 0 from d5, show R 20 j = S 9 j 1 from d6, f1]
    by_cases hl : isLive S j
    · rw [if_pos hl, if_pos hl]
      refine Jop_ok rfl (up0 F _) ?_ (JJ_F _ (JJ_mv0 h _ (live_no3 hl) (by decide)))
      by_cases hq : S 9 j 0 = nI 2 ∨ S 9 j 1 < S 0 0 0
      · rw [bi_t hq, if_pos (hq.imp id Int32.not_le.mpr)]; rfl
      · rw [bi_f hq, if_neg (fun q => hq (q.imp id Int32.not_le.mp))]; rfl
    · rw [if_neg hl, if_neg hl]
      exact Jop_no 2 rfl (by decide) h
  · rw [if_neg ha, if_neg (fun q => ha ((isC_iff h a).2.mp q))]
    exact Jop_no 1 rfl (by decide) h
theorem j_notice (h : JJ (S, N) (F, C, R, T)) (hN : okS N) (a : Int32) : Jop S N (V_notice S N a) (S 0 0 0 + S 3 (N 3 (ix a) 1) 2) (K_move S (ix a) (nI 2) (S 0 0 0 + S 3 (N 3 (ix a) 1) 2), N) (M_notice F C R T a).1 (M_notice F C R T a).2 := by
  unfold M_notice V_notice
  by_cases ha : isCt N 5 a
  · rw [if_pos ha, if_pos ((isC_iff h a).2.mpr ha)]
    obtain ⟨j, hj, rfl, ej⟩ := ct_ix (n := N 5 0 0) (by have := hN.2.2.2.2; omega) ha
    obtain ⟨d1, d2, d3, d4, d5, d6, d7, d8⟩ := h.2.2.2.2.1.1 j hj
    have f1 : F 1 = S 0 0 0 := h.1.1
    rw [ej, show R 19 j = S 9 j 0 from d5, show R 20 j = S 9 j 1 from d6, show R 17 j = S 3 (N 3 j 1) 2 from d3, f1]
    by_cases hl : S 9 j 0 = 0 ∧ ¬ S 0 0 0 ≤ S 9 j 1
    · rw [if_pos hl, if_pos hl]
      exact Jop_ok rfl (up0 F _) rfl (JJ_F _ (JJ_mv0 h _ (live_no3 (Or.inl hl.1)) (by decide)))
    · rw [if_neg hl, if_neg hl]
      exact Jop_no 2 rfl (by decide) h
  · rw [if_neg ha, if_neg (fun q => ha ((isC_iff h a).2.mp q))]
    exact Jop_no 1 rfl (by decide) h
/-- counts of breaches change -/
theorem JJ_cnt (h : jF S N F C ∧ jV S N R T ∧ jI S N R T ∧ jS S N R ∧ jD S N R T) (j : Nat) (sg : Int32) : jF (K_count S N j sg) N F C ∧ jV (K_count S N j sg) N R T ∧ jI (K_count S N j sg) N R T ∧ jS (K_count S N j sg) N R ∧ jD (K_count S N j sg) N R T := by
  obtain ⟨⟨f1, f2, f3, f4⟩, hv, hi, hs, hd⟩ := h
  refine ⟨⟨f1, f2, f3, ?_⟩, hv, hi, hs, hd⟩
  have e := sgN_congr (S := S) (S' := K_count S N j sg) (fun i => rfl) (N 0 0 0)
  rw [e]
  exact f4
theorem cnt_7 (S : SS) (N : NN) (j i b : Nat) (sg : Int32) : K_count S N j sg 7 i b = S 7 i b + (if N 3 j 0 = i ∧ N 4 (N 3 j 1) 0 = b then sg else 0) := by
  unfold K_count
  rw [su_ne (fun z => absurd z.1 (by decide))]
  by_cases h1 : i = N 3 j 0
  · subst h1
    rw [su_self]
    by_cases h2 : b = N 4 (N 3 j 1) 0
    · subst h2; simp [upd]
    · rw [if_neg (fun q => h2 q.2.symm)]; simp [upd, h2]
  · rw [su_ne (fun z => h1 z.2), if_neg (fun q => h1 q.1.symm), Int32.add_zero]
theorem cnt_8 (S : SS) (N : NN) (j i b : Nat) (sg : Int32) : K_count S N j sg 8 i b = S 8 i b + (if N 3 j 0 = i ∧ N 4 (N 3 j 1) 0 = b then sg * S 3 (N 3 j 1) 3 else 0) := by
  unfold K_count
  by_cases h1 : i = N 3 j 0
  · subst h1
    rw [su_self]
    by_cases h2 : b = N 4 (N 3 j 1) 0
    · subst h2; simp [upd]
    · rw [if_neg (fun q => h2 q.2.symm)]; simp [upd, h2]
  · rw [su_ne (fun z => h1 z.2), su_ne (fun z => absurd z.1 (by decide)), if_neg (fun q => h1 q.1.symm), Int32.add_zero]
theorem j_settle (h : JJ (S, N) (F, C, R, T)) (hN : okS N) (a : Int32) : Jop S N (V_settle S N a) (S 3 (N 3 (ix a) 1) 3) (K_count (K_move S (ix a) (nI 4) (S 0 0 0)) N (ix a) (-1), N) (M_settle F C R T a).1 (M_settle F C R T a).2 := by
  unfold M_settle V_settle
  by_cases ha : isCt N 5 a
  · rw [if_pos ha, if_pos ((isC_iff h a).2.mpr ha)]
    obtain ⟨j, hj, rfl, ej⟩ := ct_ix (n := N 5 0 0) (by have := hN.2.2.2.2; omega) ha
    obtain ⟨d1, d2, d3, d4, d5, d6, d7, d8⟩ := h.2.2.2.2.1.1 j hj
    have f1 : F 1 = S 0 0 0 := h.1.1
    rw [ej, show R 19 j = S 9 j 0 from d5, show R 18 j = S 3 (N 3 j 1) 3 from d4, f1]
    by_cases hl : S 9 j 0 = nI 3
    · rw [if_pos hl, if_pos hl]
      refine Jop_ok rfl (up0 F _) rfl (JJ_F _ ?_)
      obtain ⟨a1, a2, a3, a4, a5⟩ := JJ_cnt (JJ_mv h j (nI 4) (S 0 0 0)) j (-1)
      refine ⟨a1, a2, a3, a4, a5, fun i hi b hb => ?_⟩
      obtain ⟨b1, b2⟩ := h.2.2.2.2.2 i hi b hb
      have c1 := cnt_mv S N i b j (nI 4) (S 0 0 0) (N 5 0 0)
      have c2 := pen_mv S N i b j (nI 4) (S 0 0 0) (N 5 0 0)
      have hj2 : j < N 5 0 0 := hj
      rw [if_pos hj2, if_pos hj2, if_neg (show ¬ isB S N i b j (nI 4) from fun q => absurd q.2.2 (by decide))] at c1 c2
      refine ⟨?_, ?_⟩
      · show K_count (K_move S j (nI 4) (S 0 0 0)) N j (-1) 7 i b = nI (cntB (K_count (K_move S j (nI 4) (S 0 0 0)) N j (-1)) N i b (N 5 0 0))
        rw [cnt_7, cntB_congr (S := K_move S j (nI 4) (S 0 0 0)) (S' := K_count (K_move S j (nI 4) (S 0 0 0)) N j (-1)) i b (fun k => rfl), show K_move S j (nI 4) (S 0 0 0) 7 = S 7 from rfl, show S 7 i b = nI _ from b1, ← Nat.add_zero (cntB S N i b (N 5 0 0)), ← c1]
        by_cases hq : N 3 j 0 = i ∧ N 4 (N 3 j 1) 0 = b
        · rw [if_pos hq, if_pos (show isB S N i b j (S 9 j 0) from ⟨hq.1, hq.2, hl⟩), ← Int32.sub_eq_add_neg]
          exact nI_pred _
        · rw [if_neg hq, if_neg (show ¬ isB S N i b j (S 9 j 0) from fun q => hq ⟨q.1, q.2.1⟩), Int32.add_zero, Nat.add_zero]
      · show K_count (K_move S j (nI 4) (S 0 0 0)) N j (-1) 8 i b = penB (K_count (K_move S j (nI 4) (S 0 0 0)) N j (-1)) N i b (N 5 0 0)
        rw [cnt_8, penB_congr (S := K_move S j (nI 4) (S 0 0 0)) (S' := K_count (K_move S j (nI 4) (S 0 0 0)) N j (-1)) i b (fun k => rfl) (fun v => rfl), show K_move S j (nI 4) (S 0 0 0) 8 = S 8 from rfl, show K_move S j (nI 4) (S 0 0 0) 3 = S 3 from rfl, show S 8 i b = _ from b2, ← Int32.add_zero (penB S N i b (N 5 0 0)), ← c2]
        by_cases hq : N 3 j 0 = i ∧ N 4 (N 3 j 1) 0 = b
        · rw [if_pos hq, if_pos (show isB S N i b j (S 9 j 0) from ⟨hq.1, hq.2, hl⟩), Int32.neg_mul, Int32.one_mul, Int32.add_assoc, Int32.add_right_neg, Int32.add_zero]
        · rw [if_neg hq, if_neg (show ¬ isB S N i b j (S 9 j 0) from fun q => hq ⟨q.1, q.2.1⟩), Int32.add_zero, Int32.add_zero]
    · rw [if_neg hl, if_neg hl]
      exact Jop_no 2 rfl (by decide) h
  · rw [if_neg ha, if_neg (fun q => ha ((isC_iff h a).2.mp q))]
    exact Jop_no 1 rfl (by decide) h
end JWrite

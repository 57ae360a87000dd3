/-! an item changes: renew, mark -/
abbrev ZZ (S : SS) (i : Nat) (r4 r5 : Nat → Int32) : SS := noSig (su (su S 4 i r4) 5 i r5) i
theorem ZZ_4 (S : SS) (i : Nat) (r4 r5 : Nat → Int32) : ZZ S i r4 r5 4 i = r4 := by
  show su (su (su S 4 i r4) 5 i r5) 6 i _ 4 i = r4
  rw [su_ne (fun z => absurd z.1 (by decide)), su_ne (fun z => absurd z.1 (by decide)), su_self]
theorem ZZ_5 (S : SS) (i : Nat) (r4 r5 : Nat → Int32) : ZZ S i r4 r5 5 i = r5 := by
  show su (su (su S 4 i r4) 5 i r5) 6 i _ 5 i = r5
  rw [su_ne (fun z => absurd z.1 (by decide)), su_self]
theorem ZZ_6 (S : SS) (i : Nat) (r4 r5 : Nat → Int32) : ZZ S i r4 r5 6 i 0 = nI 0 ∧ ZZ S i r4 r5 6 i 1 = nI 0 := by
  have e : ZZ S i r4 r5 6 i = upd (upd (su (su S 4 i r4) 5 i r5 6 i) 0 (nI 0)) 1 (nI 0) := su_self _ _ _ _
  rw [e]
  exact ⟨by simp [upd], by simp [upd]⟩
theorem ZZ_ne {S : SS} {i k j : Nat} {r4 r5 : Nat → Int32} (h : ¬ j = i) : ZZ S i r4 r5 k j = S k j := by
  show su (su (su S 4 i r4) 5 i r5) 6 i _ k j = S k j
  rw [su_ne (fun z => h z.2), su_ne (fun z => h z.2), su_ne (fun z => h z.2)]
theorem bring_0 (S : SS) (i c : Nat) : K_bring S i 0 c = ZZ S i (upd (S 4 i) c (nI 1)) (upd (S 5 i) c (nI 0)) := rfl
theorem su_comm (S : SS) (i : Nat) (r4 r5 : Nat → Int32) : su (su S 5 i r5) 4 i r4 = su (su S 4 i r4) 5 i r5 := by
  funext a b
  by_cases h4 : a = 4 ∧ b = i
  · obtain ⟨rfl, rfl⟩ := h4
    rw [su_self, su_ne (fun z => absurd z.1 (by decide)), su_self]
  · by_cases h5 : a = 5 ∧ b = i
    · obtain ⟨rfl, rfl⟩ := h5
      rw [su_self, su_ne (fun z => absurd z.1 (by decide)), su_self]
    · rw [su_ne h4, su_ne h5, su_ne h5, su_ne h4]
theorem bring_1 (S : SS) (i c : Nat) : K_bring S i 1 c = ZZ S i (upd (S 4 i) c (nI 0)) (upd (S 5 i) c (nI 1)) := by
  show noSig (su (su S 5 i (upd (S 5 i) c (nI 1))) 4 i (upd (S 4 i) c (nI 0))) i = _
  rw [su_comm]
theorem su_id (S : SS) (k i : Nat) : su S k i (S k i) = S := by
  funext a b
  by_cases h : a = k ∧ b = i
  · obtain ⟨rfl, rfl⟩ := h; exact su_self _ _ _ _
  · exact su_ne h
theorem nu_id (N : NN) (i c : Nat) : nu N 2 i (va_up (N 2 i) c (N 2 i c)) = N := by
  funext a b
  by_cases h : a = 2 ∧ b = i
  · obtain ⟨rfl, rfl⟩ := h
    rw [nu_self]
    funext d
    by_cases e : d = c
    · subst e; exact va_up_self _ _ _
    · exact va_up_ne _ _ e
  · exact nu_ne h
theorem setmk_0 (S : SS) (i : Nat) (r : Nat → Int32) : noSig (K_setmk S i 0 r) i = ZZ S i r (S 5 i) := by
  show noSig (su S 4 i r) i = noSig (su (su S 4 i r) 5 i (S 5 i)) i
  have e : su (su S 4 i r) 5 i (S 5 i) = su S 4 i r := su_id (su S 4 i r) 5 i
  rw [e]
theorem setmk_1 (S : SS) (i : Nat) (r : Nat → Int32) : noSig (K_setmk S i 1 r) i = ZZ S i (S 4 i) r := by
  show noSig (su S 5 i r) i = noSig (su (su S 4 i (S 4 i)) 5 i r) i
  rw [su_id]
theorem sgN_congr3 {S S' : SS} : ∀ n, (∀ i, i < n → (isDr S' i ↔ isDr S i)) → sgN S' n = sgN S n
  | 0, _ => rfl
  | n + 1, h => by
    have h1 := h n (Nat.lt_succ_self _)
    simp only [sgN]
    rw [sgN_congr3 n (fun i hi => h i (by omega))]
    by_cases hd : isDr S n
    · rw [if_pos hd, if_pos (h1.mpr hd)]
    · rw [if_neg hd, if_neg (fun q => hd (h1.mp q))]
section JW3
variable {S : SS} {N : NN} {F : Nat → Int32} {C : Nat → Nat} {R R' : Nat → Nat → Int32} {T T' : Nat → Nat → Nat} {i c n : Nat} {r4 r5 : Nat → Int32}
theorem JJ_Z (h : JJ (S, N) (F, C, R, T)) (hi : i < N 0 0 0) (hi10 : i < 10) (hc : c < 10) (hdr : isDr S i) (h4 : ∀ d, ¬ d = c → r4 d = S 4 i d) (h5 : ∀ d, ¬ d = c → r5 d = S 5 i d)
    (r13 : ∀ q, ¬ q = 2 * (10 * i + c) → ¬ q = 2 * (10 * i + c) + 1 → R' 13 q = R 13 q) (r13a : ¬ n = 0 → R' 13 (2 * (10 * i + c)) = r4 c ∧ R' 13 (2 * (10 * i + c) + 1) = r5 c) (r13b : n = 0 → R' 13 (2 * (10 * i + c)) = nI 0 ∧ R' 13 (2 * (10 * i + c) + 1) = nI 0)
    (r11i : R' 11 i = nI 0) (r11 : ∀ j, ¬ j = i → R' 11 j = R 11 j) (rk : ∀ k, ¬ k = 13 → ¬ k = 11 → R' k = R k) (t12 : T' 12 = va_up (T 12) (10 * i + c) n) (tk : ∀ k, ¬ k = 12 → T' k = T k) :
    JJ (ZZ S i r4 r5, nu N 2 i (va_up (N 2 i) c n)) (F, C, R', T') := by
  obtain ⟨⟨f1, f2, f3, f4⟩, hv, hI, hs, hd, hB⟩ := h
  obtain ⟨z0, z1⟩ := ZZ_6 S i r4 r5
  have hdz : isDr (ZZ S i r4 r5) i := Or.inl (z0.trans nI_00)
  have hdi : ∀ j, isDr (ZZ S i r4 r5) j ↔ isDr S j := fun j => by
    by_cases e : j = i
    · subst e; exact ⟨fun _ => hdr, fun _ => hdz⟩
    · unfold isDr; rw [ZZ_ne e]
  have n2 : ∀ j, ¬ j = i → nu N 2 i (va_up (N 2 i) c n) 2 j = N 2 j := fun j e => nu_ne (fun z => e z.2)
  have n2i : nu N 2 i (va_up (N 2 i) c n) 2 i = va_up (N 2 i) c n := nu_self _ _ _ _
  refine ⟨⟨f1, f2, f3, ?_⟩, fun d hd' => ?_, fun j hj d hd' => ?_, fun j hj => ?_, ⟨fun j hj => ?_, fun j h1 h2 => ?_⟩, fun j hj b hb => ?_⟩
  · show N 5 0 0 ≤ 10 * sgN (ZZ S i r4 r5) (N 0 0 0)
    rw [sgN_congr3 (S := S) _ (fun j _ => hdi j)]
    exact f4
  · obtain ⟨v1, v2, v3, v4⟩ := hv d hd'
    show T' 2 d = N 1 0 d ∧ R' 7 d = S 1 0 d ∧ R' 8 d = S 2 0 d ∧ ∀ m, m < N 1 0 d → R' 3 (9 * d + m) = nI (N 4 (9 * d + m) 0) ∧ R' 4 (9 * d + m) = S 3 (9 * d + m) 1 ∧ R' 5 (9 * d + m) = S 3 (9 * d + m) 2 ∧ R' 6 (9 * d + m) = S 3 (9 * d + m) 3
    rw [tk 2 (by decide), rk 7 (by decide) (by decide), rk 8 (by decide) (by decide), rk 3 (by decide) (by decide), rk 4 (by decide) (by decide), rk 5 (by decide) (by decide), rk 6 (by decide) (by decide)]
    exact ⟨v1, v2, v3, v4⟩
  · obtain ⟨i1, i2, i3, i4⟩ := hI j hj d hd'
    show T' 12 (10 * j + d) = nu N 2 i (va_up (N 2 i) c n) 2 j d ∧ (¬ nu N 2 i (va_up (N 2 i) c n) 2 j d = 0 → R' 13 (2 * (10 * j + d)) = ZZ S i r4 r5 4 j d ∧ R' 13 (2 * (10 * j + d) + 1) = ZZ S i r4 r5 5 j d) ∧ (nu N 2 i (va_up (N 2 i) c n) 2 j d = 0 → R' 13 (2 * (10 * j + d)) = nI 0 ∧ R' 13 (2 * (10 * j + d) + 1) = nI 0) ∧ (N 0 0 0 ≤ j → nu N 2 i (va_up (N 2 i) c n) 2 j d = 0)
    rw [t12]
    by_cases e : j = i
    · subst e
      rw [n2i, ZZ_4, ZZ_5]
      by_cases e2 : d = c
      · subst e2
        rw [va_up_self, va_up_self]
        exact ⟨rfl, r13a, r13b, fun q => absurd q (by omega)⟩
      · rw [va_up_ne _ _ e2, va_up_ne _ _ (show ¬ 10 * j + d = 10 * j + c by omega), r13 _ (by omega) (by omega), r13 _ (by omega) (by omega), h4 d e2, h5 d e2]
        exact ⟨i1, i2, i3, i4⟩
    · rw [n2 j e, ZZ_ne e, ZZ_ne e, va_up_ne _ _ (show ¬ 10 * j + d = 10 * i + c by omega), r13 _ (by omega) (by omega), r13 _ (by omega) (by omega)]
      exact ⟨i1, i2, i3, i4⟩
  · obtain ⟨s1, s2, s3, s4, s5⟩ := hs j hj
    show (ZZ S i r4 r5 6 j 0 = nI 0 ∨ ZZ S i r4 r5 6 j 0 = nI 1) ∧ (ZZ S i r4 r5 6 j 1 = nI 0 ∨ ZZ S i r4 r5 6 j 1 = nI 1) ∧ R' 11 j = (if ZZ S i r4 r5 6 j 0 = nI 0 then nI 0 else nI 1) + (if ZZ S i r4 r5 6 j 1 = nI 0 then nI 0 else nI 2) ∧ R' 10 j = (if isDr (ZZ S i r4 r5) j then nI 0 else nI 1) ∧ (N 0 0 0 ≤ j → ZZ S i r4 r5 6 j 0 = nI 0 ∧ ZZ S i r4 r5 6 j 1 = nI 0)
    rw [rk 10 (by decide) (by decide)]
    by_cases e : j = i
    · subst e
      refine ⟨Or.inl z0, Or.inl z1, ?_, ?_, fun _ => ⟨z0, z1⟩⟩
      · rw [r11i, if_pos z0, if_pos z1]; rfl
      · rw [if_pos hdz]; exact (show R 10 j = _ from s4).trans (if_pos hdr)
    · refine ⟨by rw [ZZ_ne e]; exact s1, by rw [ZZ_ne e]; exact s2, by rw [r11 j e, ZZ_ne e]; exact s3, ?_, fun q => by rw [ZZ_ne e]; exact s5 q⟩
      by_cases hq : isDr S j
      · rw [if_pos ((hdi j).mpr hq)]; exact (show R 10 j = _ from s4).trans (if_pos hq)
      · rw [if_neg (fun q => hq ((hdi j).mp q))]; exact (show R 10 j = _ from s4).trans (if_neg hq)
  · obtain ⟨d1, d2, d3, d4, d5, d6, d7, d8⟩ := hd.1 j hj
    show T' 15 j = N 3 j 0 ∧ R' 16 j = nI (N 4 (N 3 j 1) 0) ∧ R' 17 j = S 3 (N 3 j 1) 2 ∧ R' 18 j = S 3 (N 3 j 1) 3 ∧ R' 19 j = S 9 j 0 ∧ R' 20 j = S 9 j 1 ∧ (∃ c n, c < 10 ∧ n < N 1 0 c ∧ N 3 j 1 = 9 * c + n) ∧ N 3 j 0 < N 0 0 0
    rw [tk 15 (by decide), rk 16 (by decide) (by decide), rk 17 (by decide) (by decide), rk 18 (by decide) (by decide), rk 19 (by decide) (by decide), rk 20 (by decide) (by decide)]
    exact ⟨d1, d2, d3, d4, d5, d6, d7, d8⟩
  · show T' 15 j = 0
    rw [tk 15 (by decide)]
    exact hd.2 j h1 h2
  · obtain ⟨b1, b2⟩ := hB j hj b hb
    have c1 : cntB (ZZ S i r4 r5) (nu N 2 i (va_up (N 2 i) c n)) j b (N 5 0 0) = cntB S N j b (N 5 0 0) := cntB_congr2 j b _ (fun k hk => ⟨rfl, rfl, rfl⟩)
    have c2 : penB (ZZ S i r4 r5) (nu N 2 i (va_up (N 2 i) c n)) j b (N 5 0 0) = penB S N j b (N 5 0 0) := penB_congr2 j b _ (fun k hk => ⟨rfl, rfl, rfl, rfl⟩)
    exact ⟨b1.trans (congrArg nI c1.symm), b2.trans c2.symm⟩
theorem jM_Z (hM : jM (S, N)) (h4 : ∀ d, ¬ d = c → r4 d = S 4 i d) (h5 : ∀ d, ¬ d = c → r5 d = S 5 i d) (hq : ¬ n = 0 → r4 c = nI 1 ∨ r5 c = nI 1) : jM (ZZ S i r4 r5, nu N 2 i (va_up (N 2 i) c n)) := fun j hj d hd h => by
  have h' : ¬ nu N 2 i (va_up (N 2 i) c n) 2 j d = 0 := h
  show ZZ S i r4 r5 4 j d = nI 1 ∨ ZZ S i r4 r5 5 j d = nI 1
  by_cases e : j = i
  · subst e
    rw [nu_self] at h'
    rw [ZZ_4, ZZ_5]
    by_cases e2 : d = c
    · subst e2; rw [va_up_self] at h'; exact hq h'
    · rw [va_up_ne _ _ e2] at h'
      rw [h4 d e2, h5 d e2]
      exact hM j hj d hd h'
  · rw [nu_ne (fun z => e z.2)] at h'
    rw [ZZ_ne e, ZZ_ne e]
    exact hM j hj d hd h'
end JW3
theorem upd_self (f : Nat → Int32) (k : Nat) (v : Int32) : upd f k v k = v := if_pos rfl
theorem upd_ne {f : Nat → Int32} {k j : Nat} {v : Int32} (h : ¬ j = k) : upd f k v j = f j := if_neg h
section JW4
variable {S : SS} {N : NN} {F : Nat → Int32} {C : Nat → Nat} {R : Nat → Nat → Int32} {T : Nat → Nat → Nat}
theorem va_up3 {α : Type} (f : Nat → α) (k a : Nat) (v : α) (h : ¬ a = k) : va_up f k v a = f a := va_up_ne _ _ h
theorem j_renew (h : JJ (S, N) (F, C, R, T)) (hN : okS N) (hM : jM (S, N)) (a b d : Int32) : Jop S N (V_renew S N a b d) (nI (N 2 (ix a) (ix d))) (K_bring S (ix a) (ix b) (ix d), nu N 2 (ix a) (va_up (N 2 (ix a)) (ix d) (N 1 0 (ix d)))) (M_renew F C R T a b d).1 (M_renew F C R T a b d).2 ∧ (V_renew S N a b d = 0 → jM (K_bring S (ix a) (ix b) (ix d), nu N 2 (ix a) (va_up (N 2 (ix a)) (ix d) (N 1 0 (ix d))))) := by
  unfold M_renew V_renew
  by_cases ha : isCt N 0 a
  · rw [if_pos ha, if_pos ((isC_iff h a).1.mpr ha)]
    by_cases hbd : isSd b ∧ isCl d
    · rw [if_pos hbd, if_pos hbd]
      obtain ⟨i, hi, rfl, ei⟩ := ct_ix (n := N 0 0 0) (by have := hN.2.2.2.1; omega) ha
      obtain ⟨sd, hsd, rfl, es⟩ := sd_ix hbd.1
      obtain ⟨c, hc, rfl, ec⟩ := cl_ix hbd.2
      have hi10 : i < 10 := by have := hN.2.2.2.1; omega
      have hd := dr_iff h.2.2.2.1 hi10
      have e2 : T 12 (10 * i + c) = N 2 i c := (h.2.2.1 i hi10 c hc).1
      have e1 : T 2 c = N 1 0 c := (h.2.1 c hc).1
      have hle := hN.1 i c hi hc
      rw [ei, es, ec, e2, e1]
      by_cases h1 : isDr S i
      · rw [if_pos (hd.mpr h1)]
        by_cases h2 : N 2 i c = 0
        · rw [if_pos h2, if_neg (fun q => q.2.1 h2)]
          exact ⟨Jop_no 3 rfl (by decide) h, fun q => absurd q (by decide)⟩
        · rw [if_neg h2]
          by_cases h3 : N 2 i c = N 1 0 c
          · rw [if_pos h3, if_neg (fun q => by have := q.2.2; omega)]
            exact ⟨Jop_no 3 rfl (by decide) h, fun q => absurd q (by decide)⟩
          · rw [if_neg h3, if_pos ⟨h1, h2, by omega⟩]
            rcases (show sd = 0 ∨ sd = 1 by omega) with rfl | rfl
            · rw [bring_0]
              refine ⟨Jop_ok rfl (up0 F _) rfl (JJ_F _ (JJ_Z h hi hi10 hc h1 (fun d hd => upd_ne hd) (fun d hd => upd_ne hd) (fun q q1 q2 => ?_) (fun _ => ⟨?_, ?_⟩) (fun q => absurd q (by omega)) ?_ (fun j hj => ?_) (fun k k1 k2 => ?_) ?_ (fun k hk => ?_))), fun _ => jM_Z hM (fun d hd => upd_ne hd) (fun d hd => upd_ne hd) (fun _ => Or.inl (upd_self _ _ _))⟩
              · rw [va_up_ne _ _ (by decide : ¬ (13 : Nat) = 11), va_up_self, upd_ne (show ¬ q = 2 * (10 * i + c) + 1 - 0 by omega), upd_ne (show ¬ q = 2 * (10 * i + c) + 0 by omega)]
              · rw [va_up_ne _ _ (by decide : ¬ (13 : Nat) = 11), va_up_self, upd_ne (show ¬ 2 * (10 * i + c) = 2 * (10 * i + c) + 1 - 0 by omega), upd_self]
                exact upd_self _ _ _
              · rw [va_up_ne _ _ (by decide : ¬ (13 : Nat) = 11), va_up_self]
                exact (upd_self _ _ _).trans (upd_self _ _ _).symm
              · rw [va_up_self]; exact upd_self _ _ _
              · rw [va_up_self]; exact upd_ne hj
              · rw [va_up_ne _ _ k2, va_up_ne _ _ k1]
              · exact va_up_self _ _ _
              · exact va_up_ne _ _ hk
            · rw [bring_1]
              refine ⟨Jop_ok rfl (up0 F _) rfl (JJ_F _ (JJ_Z h hi hi10 hc h1 (fun d hd => upd_ne hd) (fun d hd => upd_ne hd) (fun q q1 q2 => ?_) (fun _ => ⟨?_, ?_⟩) (fun q => absurd q (by omega)) ?_ (fun j hj => ?_) (fun k k1 k2 => ?_) ?_ (fun k hk => ?_))), fun _ => jM_Z hM (fun d hd => upd_ne hd) (fun d hd => upd_ne hd) (fun _ => Or.inr (upd_self _ _ _))⟩
              · rw [va_up_ne _ _ (by decide : ¬ (13 : Nat) = 11), va_up_self, upd_ne (show ¬ q = 2 * (10 * i + c) + 1 - 1 by omega), upd_ne (show ¬ q = 2 * (10 * i + c) + 1 by omega)]
              · rw [va_up_ne _ _ (by decide : ¬ (13 : Nat) = 11), va_up_self]
                exact (upd_self _ _ _).trans (upd_self _ _ _).symm
              · rw [va_up_ne _ _ (by decide : ¬ (13 : Nat) = 11), va_up_self, upd_ne (show ¬ 2 * (10 * i + c) + 1 = 2 * (10 * i + c) + 1 - 1 by omega), upd_self]
                exact (upd_self _ _ _).symm
              · rw [va_up_self]; exact upd_self _ _ _
              · rw [va_up_self]; exact upd_ne hj
              · rw [va_up_ne _ _ k2, va_up_ne _ _ k1]
              · exact va_up_self _ _ _
              · exact va_up_ne _ _ hk
      · rw [if_neg (fun q => h1 (hd.mp q)), if_neg (fun q => h1 q.1)]
        exact ⟨Jop_no 3 rfl (by decide) h, fun q => absurd q (by decide)⟩
    · rw [if_neg hbd, if_neg hbd]
      exact ⟨Jop_no 2 rfl (by decide) h, fun q => absurd q (by decide)⟩
  · rw [if_neg ha, if_neg (fun q => ha ((isC_iff h a).1.mp q))]
    exact ⟨Jop_no 1 rfl (by decide) h, fun q => absurd q (by decide)⟩
end JW4

/-! the class and the law's rows hold the same -/
theorem upd_self (f : Nat → Int32) (k : Nat) (v : Int32) : upd f k v k = v := if_pos rfl
theorem upd_ne {f : Nat → Int32} {k j : Nat} {v : Int32} (h : ¬ j = k) : upd f k v j = f j := if_neg h

def cntB (S : SS) (N : NN) (i b : Nat) : Nat → Nat
  | 0 => 0
  | j + 1 => cntB S N i b j + (if N 3 j 0 = i ∧ N 4 (N 3 j 1) 0 = b ∧ S 9 j 0 = nI 3 then 1 else 0)
def penB (S : SS) (N : NN) (i b : Nat) : Nat → Int32
  | 0 => 0
  | j + 1 => penB S N i b j + (if N 3 j 0 = i ∧ N 4 (N 3 j 1) 0 = b ∧ S 9 j 0 = nI 3 then S 3 (N 3 j 1) 3 else 0)
def sgN (S : SS) : Nat → Nat
  | 0 => 0
  | i + 1 => sgN S i + (if isDr S i then 0 else 1)
def jB (S : SS) (N : NN) : Prop := ∀ i, i < 10 → ∀ b, b < 2 → S 7 i b = nI (cntB S N i b (N 5 0 0)) ∧ S 8 i b = penB S N i b (N 5 0 0)
/-- what the class's numbers keep -/
def okS (N : NN) : Prop := (∀ i c, i < N 0 0 0 → c < 10 → N 2 i c ≤ N 1 0 c) ∧ (∀ c, c < 10 → N 1 0 c ≤ 9) ∧ (∀ v, N 4 v 0 < 2) ∧ N 0 0 0 ≤ 10 ∧ N 5 0 0 ≤ 100
theorem okS_of {L : List Lc} {N : NN} (h : okC L N) : okS N := ⟨h.2.1, h.2.2.1, h.2.2.2.1, h.2.2.2.2.2.1, h.2.2.2.2.2.2.1⟩
theorem or_and0 (x y z : Int32) : (x ||| y) &&& z = 0 ↔ x &&& z = 0 ∧ y &&& z = 0 := by
  have e : ∀ u : Int32, u = 0 ↔ u.toBitVec = 0#32 := fun u => ⟨fun h => by rw [h]; rfl, fun h => Int32.toBitVec_inj.mp (h.trans rfl)⟩
  rw [e, e, e, Int32.toBitVec_and, Int32.toBitVec_or, Int32.toBitVec_and, Int32.toBitVec_and]
  constructor
  · intro h
    constructor
    · ext i hi
      have := congrArg (fun b => b.getLsbD i) h
      simp at this ⊢
      intro h1
      exact this (Or.inl h1)
    · ext i hi
      have := congrArg (fun b => b.getLsbD i) h
      simp at this ⊢
      intro h1
      exact this (Or.inr h1)
  · rintro ⟨h1, h2⟩
    ext i hi
    have a := congrArg (fun b => b.getLsbD i) h1
    have b := congrArg (fun b => b.getLsbD i) h2
    simp at a b ⊢
    rintro (h | h)
    · exact a h
    · exact b h
theorem bit_ne : ∀ j c : Fin 10, ((nI 1 <<< (nI j.val &&& 31)) &&& (nI 1 <<< (nI c.val &&& 31)) = 0 ↔ j ≠ c) := by decide +kernel
theorem K_bit (it : Nat → Nat) (c : Nat) (hc : c < 10) : ∀ j, j ≤ 10 → (K_items it j &&& (nI 1 <<< (nI c &&& 31)) = 0 ↔ (c < j → it c = 0))
  | 0, _ => by
    simp only [K_items]
    rw [nI_00, Int32.zero_and]
    exact ⟨fun _ h => absurd h (Nat.not_lt_zero _), fun _ => rfl⟩
  | j + 1, hj => by
    have ih := K_bit it c hc j (by omega)
    simp only [K_items]
    by_cases h0 : it j = 0
    · rw [if_pos h0, ih]
      constructor
      · intro h h1
        by_cases e : c = j
        · rw [e]; exact h0
        · exact h (by omega)
      · intro h h1
        exact h (by omega)
    · rw [if_neg h0, or_and0, ih]
      have hb := bit_ne ⟨j, by omega⟩ ⟨c, hc⟩
      constructor
      · rintro ⟨h1, h2⟩ h3
        have h4 := hb.mp h2
        exact h1 (by
          have : j ≠ c := fun e => h4 (by subst e; rfl)
          omega)
      · intro h
        refine ⟨fun h1 => h (by omega), hb.mpr (fun e => ?_)⟩
        have e2 : j = c := congrArg Fin.val e
        exact h0 (by rw [e2]; exact h (by omega))
theorem cnt_pos (S : SS) (N : NN) (i b : Nat) : ∀ n, 0 < cntB S N i b n ↔ ∃ k, k < n ∧ N 3 k 0 = i ∧ N 4 (N 3 k 1) 0 = b ∧ S 9 k 0 = nI 3
  | 0 => ⟨fun h => absurd h (Nat.lt_irrefl _), fun ⟨k, h, _⟩ => absurd h (Nat.not_lt_zero _)⟩
  | n + 1 => by
    simp only [cntB]
    constructor
    · intro h
      by_cases h0 : N 3 n 0 = i ∧ N 4 (N 3 n 1) 0 = b ∧ S 9 n 0 = nI 3
      · exact ⟨n, by omega, h0⟩
      · rw [if_neg h0] at h
        obtain ⟨k, h1, h2⟩ := (cnt_pos S N i b n).mp h
        exact ⟨k, by omega, h2⟩
    · rintro ⟨k, h1, h2⟩
      by_cases e : k = n
      · subst e; rw [if_pos h2]; omega
      · have := (cnt_pos S N i b n).mpr ⟨k, by omega, h2⟩
        omega
theorem cnt_le (S : SS) (N : NN) (i b : Nat) : ∀ n, cntB S N i b n ≤ n
  | 0 => Nat.le_refl _
  | n + 1 => by
    have := cnt_le S N i b n
    simp only [cntB]
    split <;> omega
theorem nI_inj {a b : Nat} (ha : a < 2 ^ 31) (hb : b < 2 ^ 31) : nI a = nI b ↔ a = b := by
  constructor
  · intro h
    have h1 := nI_clamp ha
    have h2 := nI_clamp hb
    rw [h] at h1
    omega
  · rintro rfl; rfl
theorem nI_ne {a b : Nat} (ha : a < 2 ^ 31) (hb : b < 2 ^ 31) (h : a ≠ b) : ¬ nI a = nI b := fun q => h ((nI_inj ha hb).mp q)
theorem add_sub_l (x y q : Int32) : (x + q) - (y + 0) = x - y + q := by
  rw [Int32.add_zero, Int32.sub_eq_add_neg, Int32.sub_eq_add_neg, Int32.add_assoc, Int32.add_comm q, ← Int32.add_assoc]
theorem add_sub_r (x y q : Int32) : (x + 0) - (y + q) = x - y + -q := by
  rw [Int32.add_zero, Int32.sub_eq_add_neg, Int32.sub_eq_add_neg, Int32.neg_add, Int32.sub_eq_add_neg, Int32.add_assoc]
theorem sgN_congr {S S' : SS} (h : ∀ i, S' 6 i = S 6 i) : ∀ n, sgN S' n = sgN S n
  | 0 => rfl
  | n + 1 => by simp only [sgN, isDr]; rw [sgN_congr h n, h n]
theorem cntB_congr {S S' : SS} {N : NN} (i b : Nat) (h : ∀ j, S' 9 j = S 9 j) : ∀ n, cntB S' N i b n = cntB S N i b n
  | 0 => rfl
  | n + 1 => by simp only [cntB]; rw [cntB_congr i b h n, h n]
theorem penB_congr {S S' : SS} {N : NN} (i b : Nat) (h : ∀ j, S' 9 j = S 9 j) (h3 : ∀ v, S' 3 v = S 3 v) : ∀ n, penB S' N i b n = penB S N i b n
  | 0 => rfl
  | n + 1 => by simp only [penB]; rw [penB_congr i b h h3 n, h n, h3]
theorem cntB_congr2 {S S' : SS} {N N' : NN} (i b : Nat) : ∀ n, (∀ j, j < n → N' 3 j = N 3 j ∧ N' 4 (N 3 j 1) 0 = N 4 (N 3 j 1) 0 ∧ S' 9 j = S 9 j) → cntB S' N' i b n = cntB S N i b n
  | 0, _ => rfl
  | n + 1, h => by
    obtain ⟨h1, h2, h3⟩ := h n (Nat.lt_succ_self _)
    simp only [cntB]
    rw [cntB_congr2 i b n (fun j hj => h j (by omega)), h1, h2, h3]
theorem penB_congr2 {S S' : SS} {N N' : NN} (i b : Nat) : ∀ n, (∀ j, j < n → N' 3 j = N 3 j ∧ N' 4 (N 3 j 1) 0 = N 4 (N 3 j 1) 0 ∧ S' 9 j = S 9 j ∧ S' 3 (N 3 j 1) = S 3 (N 3 j 1)) → penB S' N' i b n = penB S N i b n
  | 0, _ => rfl
  | n + 1, h => by
    obtain ⟨h1, h2, h3, h4⟩ := h n (Nat.lt_succ_self _)
    simp only [penB]
    rw [penB_congr2 i b n (fun j hj => h j (by omega)), h1, h2, h3, h4]
theorem cntB_zero {S : SS} {N : NN} (i b : Nat) : ∀ n, (∀ j, j < n → ¬ N 3 j 0 = i) → cntB S N i b n = 0
  | 0, _ => rfl
  | n + 1, h => by
    simp only [cntB]
    rw [cntB_zero i b n (fun j hj => h j (by omega)), if_neg (fun q => h n (Nat.lt_succ_self _) q.1)]
theorem penB_zero {S : SS} {N : NN} (i b : Nat) : ∀ n, (∀ j, j < n → ¬ N 3 j 0 = i) → penB S N i b n = 0
  | 0, _ => rfl
  | n + 1, h => by
    simp only [penB]
    rw [penB_zero i b n (fun j hj => h j (by omega)), if_neg (fun q => h n (Nat.lt_succ_self _) q.1), Int32.add_zero]
theorem sgN_congr2 {S S' : SS} : ∀ n, (∀ i, i < n → S' 6 i 0 = S 6 i 0 ∧ S' 6 i 1 = S 6 i 1) → sgN S' n = sgN S n
  | 0, _ => rfl
  | n + 1, h => by
    obtain ⟨h1, h2⟩ := h n (Nat.lt_succ_self _)
    simp only [sgN, isDr]
    rw [sgN_congr2 n (fun i hi => h i (by omega)), h1, h2]
abbrev ZZ (S : SS) (i : Nat) (r4 r5 : Nat → Int32) : SS := noSig (su (su S 4 i r4) 5 i r5) i
theorem ZZ_4 (S : SS) (i : Nat) (r4 r5 : Nat → Int32) : ZZ S i r4 r5 4 i = r4 := by
  show su (su (su S 4 i r4) 5 i r5) 6 i _ 4 i = r4
  rw [su_ne (fun z => absurd z.1 (by decide)), su_ne (fun z => absurd z.1 (by decide)), su_self]
theorem ZZ_5 (S : SS) (i : Nat) (r4 r5 : Nat → Int32) : ZZ S i r4 r5 5 i = r5 := by
  show su (su (su S 4 i r4) 5 i r5) 6 i _ 5 i = r5
  rw [su_ne (fun z => absurd z.1 (by decide)), su_self]
theorem ZZ_6 (S : SS) (i : Nat) (r4 r5 : Nat → Int32) : ZZ S i r4 r5 6 i 0 = nI 0 ∧ ZZ S i r4 r5 6 i 1 = nI 0 := by
  have e : ZZ S i r4 r5 6 i = upd (upd (su (su S 4 i r4) 5 i r5 6 i) 0 (nI 0)) 1 (nI 0) := su_self _ _ _ _
  rw [e]
  exact ⟨by simp [upd], by simp [upd]⟩
theorem ZZ_ne {S : SS} {i k j : Nat} {r4 r5 : Nat → Int32} (h : ¬ j = i) : ZZ S i r4 r5 k j = S k j := by
  show su (su (su S 4 i r4) 5 i r5) 6 i _ k j = S k j
  rw [su_ne (fun z => h z.2), su_ne (fun z => h z.2), su_ne (fun z => h z.2)]
theorem bring_0 (S : SS) (i c : Nat) : K_bring S i 0 c = ZZ S i (upd (S 4 i) c (nI 1)) (upd (S 5 i) c (nI 0)) := rfl
theorem su_comm (S : SS) (i : Nat) (r4 r5 : Nat → Int32) : su (su S 5 i r5) 4 i r4 = su (su S 4 i r4) 5 i r5 := by
  funext a b
  by_cases h4 : a = 4 ∧ b = i
  · obtain ⟨rfl, rfl⟩ := h4
    rw [su_self, su_ne (fun z => absurd z.1 (by decide)), su_self]
  · by_cases h5 : a = 5 ∧ b = i
    · obtain ⟨rfl, rfl⟩ := h5
      rw [su_self, su_ne (fun z => absurd z.1 (by decide)), su_self]
    · rw [su_ne h4, su_ne h5, su_ne h5, su_ne h4]
theorem bring_1 (S : SS) (i c : Nat) : K_bring S i 1 c = ZZ S i (upd (S 4 i) c (nI 0)) (upd (S 5 i) c (nI 1)) := by
  show noSig (su (su S 5 i (upd (S 5 i) c (nI 1))) 4 i (upd (S 4 i) c (nI 0))) i = _
  rw [su_comm]
theorem su_id (S : SS) (k i : Nat) : su S k i (S k i) = S := by
  funext a b
  by_cases h : a = k ∧ b = i
  · obtain ⟨rfl, rfl⟩ := h; exact su_self _ _ _ _
  · exact su_ne h
theorem nu_id (N : NN) (i c : Nat) : nu N 2 i (va_up (N 2 i) c (N 2 i c)) = N := by
  funext a b
  by_cases h : a = 2 ∧ b = i
  · obtain ⟨rfl, rfl⟩ := h
    rw [nu_self]
    funext d
    by_cases e : d = c
    · subst e; exact va_up_self _ _ _
    · exact va_up_ne _ _ e
  · exact nu_ne h
theorem setmk_0 (S : SS) (i : Nat) (r : Nat → Int32) : noSig (K_setmk S i 0 r) i = ZZ S i r (S 5 i) := by
  show noSig (su S 4 i r) i = noSig (su (su S 4 i r) 5 i (S 5 i)) i
  have e : su (su S 4 i r) 5 i (S 5 i) = su S 4 i r := su_id (su S 4 i r) 5 i
  rw [e]
theorem setmk_1 (S : SS) (i : Nat) (r : Nat → Int32) : noSig (K_setmk S i 1 r) i = ZZ S i (S 4 i) r := by
  show noSig (su S 5 i r) i = noSig (su (su S 4 i (S 4 i)) 5 i r) i
  rw [su_id]
theorem sgN_congr3 {S S' : SS} : ∀ n, (∀ i, i < n → (isDr S' i ↔ isDr S i)) → sgN S' n = sgN S n
  | 0, _ => rfl
  | n + 1, h => by
    have h1 := h n (Nat.lt_succ_self _)
    simp only [sgN]
    rw [sgN_congr3 n (fun i hi => h i (by omega))]
    by_cases hd : isDr S n
    · rw [if_pos hd, if_pos (h1.mpr hd)]
    · rw [if_neg hd, if_neg (fun q => hd (h1.mp q))]
theorem mv_9 (S : SS) (j : Nat) (st dy : Int32) : K_move S j st dy 9 j = upd (upd (S 9 j) 0 st) 1 dy := su_self _ _ _ _
theorem mv_ne {S : SS} {j k : Nat} {st dy : Int32} (h : ¬ k = j) : K_move S j st dy 9 k = S 9 k := su_ne (fun z => h z.2)
abbrev isB (S : SS) (N : NN) (i b j : Nat) (x : Int32) : Prop := N 3 j 0 = i ∧ N 4 (N 3 j 1) 0 = b ∧ x = nI 3
theorem cnt_mv (S : SS) (N : NN) (i b j : Nat) (st dy : Int32) : ∀ n, cntB (K_move S j st dy) N i b n + (if j < n then (if isB S N i b j (S 9 j 0) then 1 else 0) else 0) = cntB S N i b n + (if j < n then (if isB S N i b j st then 1 else 0) else 0)
  | 0 => by simp [cntB]
  | n + 1 => by
    have ih := cnt_mv S N i b j st dy n
    simp only [cntB]
    by_cases e : n = j
    · subst e
      rw [if_neg (Nat.lt_irrefl _), if_neg (Nat.lt_irrefl _)] at ih
      rw [if_pos (Nat.lt_succ_self _), if_pos (Nat.lt_succ_self _), mv_9]
      have e2 : (upd (upd (S 9 n) 0 st) 1 dy) 0 = st := by simp [upd]
      rw [e2]
      unfold isB
      omega
    · rw [mv_ne e]
      by_cases h1 : j < n
      · rw [if_pos h1, if_pos h1] at ih
        rw [if_pos (show j < n + 1 by omega), if_pos (show j < n + 1 by omega)]
        omega
      · rw [if_neg h1, if_neg h1] at ih
        rw [if_neg (show ¬ j < n + 1 by omega), if_neg (show ¬ j < n + 1 by omega)]
        omega
theorem add4 (x y p q : Int32) (h : x + p = y + q) (t : Int32) : x + t + p = y + t + q := by
  rw [Int32.add_assoc, Int32.add_comm t, ← Int32.add_assoc, h, Int32.add_assoc, Int32.add_comm q, ← Int32.add_assoc]
theorem add2 (x p q : Int32) : x + p + q = x + q + p := by rw [Int32.add_assoc, Int32.add_comm p, ← Int32.add_assoc]
theorem pen_mv (S : SS) (N : NN) (i b j : Nat) (st dy : Int32) : ∀ n, penB (K_move S j st dy) N i b n + (if j < n then (if isB S N i b j (S 9 j 0) then S 3 (N 3 j 1) 3 else 0) else 0) = penB S N i b n + (if j < n then (if isB S N i b j st then S 3 (N 3 j 1) 3 else 0) else 0)
  | 0 => by simp [penB]
  | n + 1 => by
    have ih := pen_mv S N i b j st dy n
    simp only [penB]
    by_cases e : n = j
    · subst e
      rw [if_neg (Nat.lt_irrefl _), if_neg (Nat.lt_irrefl _), Int32.add_zero, Int32.add_zero] at ih
      rw [if_pos (Nat.lt_succ_self _), if_pos (Nat.lt_succ_self _), mv_9]
      have e2 : (upd (upd (S 9 n) 0 st) 1 dy) 0 = st := by simp [upd]
      rw [e2, ih]
      exact add2 _ _ _
    · rw [mv_ne e]
      have e3 : K_move S j st dy 3 = S 3 := rfl
      rw [e3]
      by_cases h1 : j < n
      · rw [if_pos h1, if_pos h1] at ih
        rw [if_pos (show j < n + 1 by omega), if_pos (show j < n + 1 by omega)]
        exact add4 _ _ _ _ ih _
      · rw [if_neg h1, if_neg h1, Int32.add_zero, Int32.add_zero] at ih
        rw [if_neg (show ¬ j < n + 1 by omega), if_neg (show ¬ j < n + 1 by omega), Int32.add_zero, Int32.add_zero, ih]
theorem cnt_7 (S : SS) (N : NN) (j i b : Nat) (sg : Int32) : K_count S N j sg 7 i b = S 7 i b + (if N 3 j 0 = i ∧ N 4 (N 3 j 1) 0 = b then sg else 0) := by
  unfold K_count
  rw [su_ne (fun z => absurd z.1 (by decide))]
  by_cases h1 : i = N 3 j 0
  · subst h1
    rw [su_self]
    by_cases h2 : b = N 4 (N 3 j 1) 0
    · subst h2; simp [upd]
    · rw [if_neg (fun q => h2 q.2.symm)]; simp [upd, h2]
  · rw [su_ne (fun z => h1 z.2), if_neg (fun q => h1 q.1.symm), Int32.add_zero]
theorem cnt_8 (S : SS) (N : NN) (j i b : Nat) (sg : Int32) : K_count S N j sg 8 i b = S 8 i b + (if N 3 j 0 = i ∧ N 4 (N 3 j 1) 0 = b then sg * S 3 (N 3 j 1) 3 else 0) := by
  unfold K_count
  by_cases h1 : i = N 3 j 0
  · subst h1
    rw [su_self]
    by_cases h2 : b = N 4 (N 3 j 1) 0
    · subst h2; simp [upd]
    · rw [if_neg (fun q => h2 q.2.symm)]; simp [upd, h2]
  · rw [su_ne (fun z => h1 z.2), su_ne (fun z => absurd z.1 (by decide)), if_neg (fun q => h1 q.1.symm), Int32.add_zero]
theorem cntB_congr3 {S S' : SS} {N : NN} (i b : Nat) : ∀ n, (∀ j, j < n → S' 9 j 0 = S 9 j 0) → cntB S' N i b n = cntB S N i b n
  | 0, _ => rfl
  | n + 1, h => by
    simp only [cntB]
    rw [cntB_congr3 i b n (fun j hj => h j (by omega)), h n (Nat.lt_succ_self _)]
theorem penB_congr3 {S S' : SS} {N : NN} (i b : Nat) (h3 : S' 3 = S 3) : ∀ n, (∀ j, j < n → S' 9 j 0 = S 9 j 0) → penB S' N i b n = penB S N i b n
  | 0, _ => rfl
  | n + 1, h => by
    simp only [penB]
    rw [penB_congr3 i b h3 n (fun j hj => h j (by omega)), h n (Nat.lt_succ_self _), h3]
theorem put_row (S : SS) (N : NN) (a : Nat) (ha : ¬ a = 9) : ∀ n, K_put S N n a = S a
  | 0 => rfl
  | n + 1 => by
    have ih := put_row S N a ha n
    simp only [K_put]
    split
    · funext k
      rw [su_ne (fun z => ha z.1)]
      exact congrFun ih k
    · exact ih
theorem put_0 (S : SS) (N : NN) (k : Nat) : ∀ n, K_put S N n 9 k 0 = S 9 k 0
  | 0 => rfl
  | n + 1 => by
    have ih := put_0 S N k n
    simp only [K_put]
    split
    · by_cases e : k = n
      · subst e; rw [su_self, upd_ne (by decide)]; exact ih
      · rw [su_ne (fun z => e z.2)]; exact ih
    · exact ih
theorem put_held (S : SS) (N : NN) (n k : Nat) : isHeld (K_put S N n) N k ↔ isHeld S N k := by
  unfold isHeld isLive
  rw [put_0, put_row S N 7 (by decide)]
theorem put_1 (S : SS) (N : NN) (k : Nat) : ∀ n, K_put S N n 9 k 1 = S 9 k 1 + (if k < n ∧ isHeld S N k then nI 1 else nI 0)
  | 0 => by rw [if_neg (fun q => absurd q.1 (Nat.not_lt_zero _)), nI_00, Int32.add_zero]; rfl
  | n + 1 => by
    have ih := put_1 S N k n
    have hh := put_held S N n n
    simp only [K_put]
    by_cases e : k = n
    · subst e
      rw [if_neg (fun q => absurd q.1 (Nat.lt_irrefl _)), nI_00, Int32.add_zero] at ih
      by_cases h : isHeld S N k
      · rw [if_pos (hh.mpr h), su_self, upd_self, ih, if_pos ⟨Nat.lt_succ_self _, h⟩]
      · rw [if_neg (fun q => h (hh.mp q)), ih, if_neg (fun q => h q.2), nI_00, Int32.add_zero]
    · have e2 : (if isHeld (K_put S N n) N n then su (K_put S N n) 9 n (upd (K_put S N n 9 n) 1 (K_put S N n 9 n 1 + nI 1)) else K_put S N n) 9 k 1 = K_put S N n 9 k 1 := by
        split
        · rw [su_ne (fun z => e z.2)]
        · rfl
      rw [e2, ih]
      by_cases h : k < n ∧ isHeld S N k
      · rw [if_pos h, if_pos ⟨by omega, h.2⟩]
      · rw [if_neg h, if_neg (fun q => h ⟨by omega, q.2⟩)]
theorem bS_row (S : SS) (N : NN) (a : Nat) (h7 : ¬ a = 7) (h8 : ¬ a = 8) (h9 : ¬ a = 9) : ∀ n, K_bS S N n a = S a
  | 0 => rfl
  | n + 1 => by
    have ih := bS_row S N a h7 h8 h9 n
    simp only [K_bS]
    split
    · funext k
      unfold K_count
      rw [su_ne (fun z => h8 z.1), su_ne (fun z => h7 z.1)]
      show su (K_bS S N n) 9 n _ a k = S a k
      rw [su_ne (fun z => h9 z.1)]
      exact congrFun ih k
    · exact ih
theorem bS_9 (S : SS) (N : NN) (k : Nat) : ∀ n, n ≤ k → K_bS S N n 9 k = S 9 k
  | 0, _ => rfl
  | n + 1, h => by
    have ih := bS_9 S N k n (by omega)
    simp only [K_bS]
    split
    · unfold K_count
      rw [su_ne (fun z => absurd z.1 (by decide)), su_ne (fun z => absurd z.1 (by decide))]
      show su (K_bS S N n) 9 n _ 9 k = S 9 k
      rw [su_ne (fun z => by have := z.2; omega)]
      exact ih
    · exact ih
theorem sgN_sgn {S S' : SS} {i : Nat} (hd : isDr S i) (hd' : ¬ isDr S' i) (h : ∀ j, ¬ j = i → S' 6 j = S 6 j) : ∀ n, sgN S' n = sgN S n + (if i < n then 1 else 0)
  | 0 => rfl
  | n + 1 => by
    have ih := sgN_sgn hd hd' h n
    simp only [sgN]
    by_cases e : n = i
    · subst e
      rw [if_neg (Nat.lt_irrefl _)] at ih
      rw [ih, if_neg hd', if_pos hd, if_pos (Nat.lt_succ_self _)]
    · have e2 : isDr S' n ↔ isDr S n := by unfold isDr; rw [h n e]
      by_cases h1 : i < n
      · rw [if_pos h1] at ih
        rw [ih, if_pos (show i < n + 1 by omega)]
        by_cases h2 : isDr S n
        · rw [if_pos h2, if_pos (e2.mpr h2)]
        · rw [if_neg h2, if_neg (fun q => h2 (e2.mp q))]
      · rw [if_neg h1] at ih
        rw [ih, if_neg (show ¬ i < n + 1 by omega)]
        by_cases h2 : isDr S n
        · rw [if_pos h2, if_pos (e2.mpr h2)]
        · rw [if_neg h2, if_neg (fun q => h2 (e2.mp q))]
theorem sgN_le (S : SS) : ∀ n, sgN S n ≤ n
  | 0 => Nat.le_refl _
  | n + 1 => by
    have := sgN_le S n
    simp only [sgN]
    split <;> omega
theorem sgN_dr {S : SS} {i : Nat} (hd : isDr S i) : ∀ n, i < n → sgN S n + 1 ≤ n
  | 0, h => absurd h (Nat.not_lt_zero _)
  | n + 1, h => by
    simp only [sgN]
    by_cases e : n = i
    · subst e
      rw [if_pos hd]
      have := sgN_le S n
      omega
    · have := sgN_dr hd n (by omega)
      split <;> omega
/-- the numbers that no new duty touches -/
def sameN (N N' : NN) : Prop := N' 0 0 0 = N 0 0 0 ∧ N' 1 = N 1 ∧ N' 2 = N 2

/-- a number, at most b -/
def isN (x : Int32) (b : Nat) : Prop := x = nI (ix x) ∧ ix x ≤ b
theorem ix_nI {k : Nat} (h : k < 2 ^ 31) : ix (nI k) = k := nI_clamp h
theorem isN_nI {k b : Nat} (h : k ≤ b) (hb : b < 2 ^ 31) : isN (nI k) b := ⟨by rw [ix_nI (by omega)], by rw [ix_nI (by omega)]; exact h⟩
theorem isN_eq {x : Int32} {b k : Nat} (h : isN x b) (hb : b < 2 ^ 31) (hk : k < 2 ^ 31) : x = nI k ↔ ix x = k := by
  constructor
  · rintro rfl; exact ix_nI hk
  · rintro rfl; exact h.1
def isV (S : SS) (v : Nat) : Prop := isN (S 3 v 1) 100 ∧ isN (S 3 v 2) 50 ∧ isN (S 3 v 3) 1000
def pV (S : SS) (N : NN) (v : Nat) : Nat := N 4 v 0 + 2 * ix (S 3 v 1) + 256 * ix (S 3 v 2) + 16384 * ix (S 3 v 3)
def pD (S : SS) (N : NN) (j : Nat) : Nat := N 3 j 0 + 16 * N 4 (N 3 j 1) 0 + 32 * ix (S 9 j 0) + 256 * ix (S 3 (N 3 j 1) 2) + 16384 * ix (S 3 (N 3 j 1) 3)
def zV (S : SS) (N : NN) (Y : Nat → Nat → Nat) : Prop := ∀ c, c < 6 → Y 0 c = N 1 0 c ∧ isN (S 1 0 c) 63 ∧ isN (S 2 0 c) 63 ∧ Y 1 c = ix (S 1 0 c) + 1024 * ix (S 2 0 c) ∧ ∀ n, n < N 1 0 c → isV S (9 * c + n) ∧ Y 2 (9 * c + n) = pV S N (9 * c + n)
def z6 (N : NN) : Prop := ∀ c, 6 ≤ c → c < 10 → N 1 0 c = 0
def zI (S : SS) (N : NN) (Y : Nat → Nat → Nat) : Prop := ∀ i, i < 10 → (∀ c, c < 6 → (N 2 i c = 0 → Y 3 (6 * i + c) = 0) ∧ (¬ N 2 i c = 0 → isN (S 4 i c) 2 ∧ isN (S 5 i c) 2 ∧ (S 4 i c = nI 1 ∨ S 5 i c = nI 1) ∧ Y 3 (6 * i + c) = N 2 i c + 16 * ix (S 4 i c) + 64 * ix (S 5 i c))) ∧ (N 0 0 0 ≤ i → ∀ c, N 2 i c = 0)
def zS (S : SS) (N : NN) (Y : Nat → Nat → Nat) : Prop := ∀ i, i < 10 → isN (S 6 i 0) 1 ∧ isN (S 6 i 1) 1 ∧ Y 4 i = ix (S 6 i 0) + 2 * ix (S 6 i 1) + ix (S 6 i 0) * ix (S 6 i 1) ∧ (N 0 0 0 ≤ i → S 6 i 0 = nI 0 ∧ S 6 i 1 = nI 0)
def zD (S : SS) (N : NN) (Y : Nat → Nat → Nat) (t : Nat → Int32) : Prop := ∀ j, j < N 5 0 0 → isN (S 9 j 0) 4 ∧ isV S (N 3 j 1) ∧ Y 5 j = pD S N j ∧ t j = S 9 j 1 ∧ N 3 j 0 < N 0 0 0 ∧ ∃ c n, c < 6 ∧ n < N 1 0 c ∧ N 3 j 1 = 9 * c + n
def zF (S : SS) (N : NN) (D : Int32) (a b q : Nat) : Prop := D = S 0 0 0 ∧ a = N 0 0 0 ∧ b = N 5 0 0 ∧ N 5 0 0 + q ≤ 6 * sgN S (N 0 0 0)
def zY (Y : Nat → Nat → Nat) : Prop := ∀ r j, Y r j < 67108864
/-- .. q duties still to be made -/
def RZm (q : Nat) (S : SS) (N : NN) (Y : Nat → Nat → Nat) (t : Nat → Int32) (D : Int32) (a b : Nat) : Prop := zV S N Y ∧ z6 N ∧ zI S N Y ∧ zS S N Y ∧ zD S N Y t ∧ jB S N ∧ zF S N D a b q ∧ zY Y
abbrev RZ (S : SS) (N : NN) (Y : Nat → Nat → Nat) (t : Nat → Int32) (D : Int32) (a b : Nat) : Prop := RZm 0 S N Y t D a b
def INV (oc : Nat) (u : LU2) : Prop := okU u.1 ∧ u.1.1 (10, 0) = oc ∧ RZ u.1.2.2.1 u.1.2.2.2 u.2.1 u.2.2.1 u.2.2.2.1 u.2.2.2.2.1 u.2.2.2.2.2
theorem zY_up {Y : Nat → Nat → Nat} (h : zY Y) (k i : Nat) {v : Nat} (hv : v < 67108864) : zY (va_up Y k (va_up (Y k) i v)) := fun r j => by
  by_cases e : r = k
  · subst e
    rw [va_up_self]
    by_cases e2 : j = i
    · subst e2; rw [va_up_self]; exact hv
    · rw [va_up_ne _ _ e2]; exact h r j
  · rw [va_up_ne _ _ e]; exact h r j
theorem Y_at (Y : Nat → Nat → Nat) (k i v : Nat) : va_up Y k (va_up (Y k) i v) k i = v := by rw [va_up_self, va_up_self]
theorem Y_ne {Y : Nat → Nat → Nat} {k i v j : Nat} (h : ¬ j = i) : va_up Y k (va_up (Y k) i v) k j = Y k j := by rw [va_up_self, va_up_ne _ _ h]
theorem Y_row {Y : Nat → Nat → Nat} {k r : Nat} {f : Nat → Nat} (h : ¬ r = k) : va_up Y k f r = Y r := va_up_ne _ _ h
/-- who has a draft has room for its duties -/
theorem rz_room {q : Nat} {S : SS} {N : NN} {Y : Nat → Nat → Nat} {t : Nat → Int32} {D : Int32} {a b : Nat} (h : RZm q S N Y t D a b) (hN : okS N) {i : Nat} (hi : i < N 0 0 0) (hd : isDr S i) : N 5 0 0 + 6 ≤ 60 := by
  have h1 := h.2.2.2.2.2.2.1.2.2.2
  have h2 := sgN_dr hd _ hi
  have h3 := hN.2.2.2.1
  omega
theorem rz_60 {q : Nat} {S : SS} {N : NN} {Y : Nat → Nat → Nat} {t : Nat → Int32} {D : Int32} {a b : Nat} (h : RZm q S N Y t D a b) (hN : okS N) : N 5 0 0 + q ≤ 60 := by
  have h1 := h.2.2.2.2.2.2.1.2.2.2
  have h2 := sgN_le S (N 0 0 0)
  have h3 := hN.2.2.2.1
  omega
section RZ1
variable {S : SS} {N : NN} {Y : Nat → Nat → Nat} {t : Nat → Int32} {D : Int32} {a b : Nat}
theorem rz_relate (h : RZ S N Y t D a b) {c p q : Nat} (hc : c < 6) (hp : p < 64) (hq : q < 64) : RZ (su (su S 1 0 (upd (S 1 0) c (nI p))) 2 0 (upd (S 2 0) c (nI q))) N (va_up Y 1 (va_up (Y 1) c (p + 1024 * q))) t D a b := by
  obtain ⟨hv, h6, hI, hs, hd, hB, ⟨f1, f2, f3, f4⟩, hY⟩ := h
  refine ⟨fun k hk => ?_, h6, hI, hs, hd, fun i hi b hb => ?_, ⟨f1, f2, f3, ?_⟩, zY_up hY _ _ (by omega)⟩
  · obtain ⟨v1, v2, v3, v4, v5⟩ := hv k hk
    refine ⟨v1, ?_, ?_, ?_, v5⟩
    · show isN (upd (S 1 0) c (nI p) k) 63
      by_cases e : k = c
      · rw [e, upd_self]; exact isN_nI (by omega) (by decide)
      · rw [upd_ne e]; exact v2
    · show isN (upd (S 2 0) c (nI q) k) 63
      by_cases e : k = c
      · rw [e, upd_self]; exact isN_nI (by omega) (by decide)
      · rw [upd_ne e]; exact v3
    · show va_up (Y 1) c (p + 1024 * q) k = ix (upd (S 1 0) c (nI p) k) + 1024 * ix (upd (S 2 0) c (nI q) k)
      by_cases e : k = c
      · rw [e, upd_self, upd_self, va_up_self, ix_nI (by omega), ix_nI (by omega)]
      · rw [upd_ne e, upd_ne e, va_up_ne _ _ e]; exact v4
  · obtain ⟨b1, b2⟩ := hB i hi b hb
    exact ⟨b1.trans (congrArg nI (cntB_congr (S := S) (S' := (su (su S 1 0 (upd (S 1 0) c (nI p))) 2 0 (upd (S 2 0) c (nI q)))) i b (fun j => rfl) _).symm), b2.trans (penB_congr (S := S) (S' := (su (su S 1 0 (upd (S 1 0) c (nI p))) 2 0 (upd (S 2 0) c (nI q)))) i b (fun j => rfl) (fun v => rfl) _).symm⟩
  · have e := sgN_congr (S := S) (S' := (su (su S 1 0 (upd (S 1 0) c (nI p))) 2 0 (upd (S 2 0) c (nI q)))) (fun i => rfl) (N 0 0 0)
    rw [e]
    exact f4
theorem rz_issue (h : RZ S N Y t D a b) (hN : okS N) {c o d k z : Nat} (hc : c < 6) (ho : o < 2) (hd1 : d ≤ 100) (hk1 : k ≤ 50) (hz1 : z ≤ 1000) (h9 : N 1 0 c < 9) :
    RZ (S_iss S (9 * c + N 1 0 c) (nI d) (nI k) (nI z)) (N_iss N c o) (va_up (va_up Y 2 (va_up (Y 2) (9 * c + Y 0 c) (o + 2 * d + 256 * k + 16384 * z))) 0 (va_up (va_up Y 2 (va_up (Y 2) (9 * c + Y 0 c) (o + 2 * d + 256 * k + 16384 * z)) 0) c (Y 0 c + 1))) t D a b := by
  obtain ⟨hv, h6, hI, hs, hd, hB, ⟨f1, f2, f3, f4⟩, hY⟩ := h
  have e0 : Y 0 c = N 1 0 c := (hv c hc).1
  have hV9 := hN.2.1
  have n1 : N_iss N c o 1 0 = va_up (N 1 0) c (N 1 0 c + 1) := by
    unfold N_iss
    rw [nu_ne (fun z => absurd z.1 (by decide)), nu_self]
  have n4 : ∀ v, ¬ v = 9 * c + N 1 0 c → N_iss N c o 4 v = N 4 v := fun v hv => by
    unfold N_iss
    rw [nu_ne (fun z => hv z.2), nu_ne (fun z => absurd z.1 (by decide))]
  have n4s : N_iss N c o 4 (9 * c + N 1 0 c) = fun _ => o := by
    unfold N_iss
    rw [nu_self]
  have s3 : ∀ v, ¬ v = 9 * c + N 1 0 c → S_iss S (9 * c + N 1 0 c) (nI d) (nI k) (nI z) 3 v = S 3 v := fun v hv => su_ne (fun z => hv z.2)
  have s3s : S_iss S (9 * c + N 1 0 c) (nI d) (nI k) (nI z) 3 (9 * c + N 1 0 c) = upd (upd (upd (S 3 (9 * c + N 1 0 c)) 1 (nI d)) 2 (nI k)) 3 (nI z) := su_self _ _ _ _
  have hlt : ∀ c', N 1 0 c' ≤ N_iss N c o 1 0 c' := fun c' => by
    rw [n1]
    by_cases e : c' = c
    · subst e; rw [va_up_self]; omega
    · rw [va_up_ne _ _ e]; exact Nat.le_refl _
  have hne : ∀ j, j < N 5 0 0 → ¬ N 3 j 1 = 9 * c + N 1 0 c := fun j hj e => by
    obtain ⟨c2, n2, q1, q2, q3⟩ := (hd j hj).2.2.2.2.2
    have := hV9 c2 (by omega)
    by_cases e2 : c2 = c
    · subst e2; omega
    · omega
  rw [e0]
  refine ⟨fun c' hc' => ?_, fun c' h1 h2 => ?_, hI, hs, fun j hj => ?_, fun i hi' b hb => ?_, ⟨f1, f2, f3, ?_⟩, zY_up (zY_up hY _ _ (by omega)) _ _ (by omega)⟩
  · obtain ⟨v1, v2, v3, v4, v5⟩ := hv c' hc'
    refine ⟨?_, v2, v3, ?_, fun n hn => ?_⟩
    · show va_up (va_up Y 2 (va_up (Y 2) (9 * c + N 1 0 c) (o + 2 * d + 256 * k + 16384 * z)) 0) c (N 1 0 c + 1) c' = N_iss N c o 1 0 c'
      rw [n1]
      by_cases e : c' = c
      · subst e; rw [va_up_self, va_up_self]
      · rw [va_up_ne _ _ e, va_up_ne _ _ e]; exact v1
    · exact v4
    · have hn' : n < N_iss N c o 1 0 c' := hn
      rw [n1] at hn'
      show isV (S_iss S (9 * c + N 1 0 c) (nI d) (nI k) (nI z)) (9 * c' + n) ∧ va_up (Y 2) (9 * c + N 1 0 c) (o + 2 * d + 256 * k + 16384 * z) (9 * c' + n) = pV (S_iss S (9 * c + N 1 0 c) (nI d) (nI k) (nI z)) (N_iss N c o) (9 * c' + n)
      unfold isV pV
      by_cases e : 9 * c' + n = 9 * c + N 1 0 c
      · rw [e, n4s, s3s, va_up_self]
        have u1 : upd (upd (upd (S 3 (9 * c + N 1 0 c)) 1 (nI d)) 2 (nI k)) 3 (nI z) 1 = nI d := by simp [upd]
        have u2 : upd (upd (upd (S 3 (9 * c + N 1 0 c)) 1 (nI d)) 2 (nI k)) 3 (nI z) 2 = nI k := by simp [upd]
        have u3 : upd (upd (upd (S 3 (9 * c + N 1 0 c)) 1 (nI d)) 2 (nI k)) 3 (nI z) 3 = nI z := by simp [upd]
        rw [u1, u2, u3, ix_nI (by omega), ix_nI (by omega), ix_nI (by omega)]
        exact ⟨⟨isN_nI hd1 (by decide), isN_nI hk1 (by decide), isN_nI hz1 (by decide)⟩, rfl⟩
      · rw [n4 _ e, s3 _ e, va_up_ne _ _ e]
        refine v5 n ?_
        by_cases e2 : c' = c
        · subst e2; rw [va_up_self] at hn'; omega
        · rw [va_up_ne _ _ e2] at hn'; exact hn'
  · rw [n1, va_up_ne _ _ (show ¬ c' = c by omega)]
    exact h6 c' h1 h2
  · obtain ⟨d1, d2, d3, d4, d5, c2, n2, q1, q2, q3⟩ := hd j hj
    have e := hne j hj
    refine ⟨d1, ?_, ?_, d4, d5, c2, n2, q1, Nat.lt_of_lt_of_le q2 (hlt c2), q3⟩
    · show isV (S_iss S (9 * c + N 1 0 c) (nI d) (nI k) (nI z)) (N 3 j 1)
      unfold isV
      rw [s3 _ e]
      exact d2
    · show Y 5 j = N 3 j 0 + 16 * N_iss N c o 4 (N 3 j 1) 0 + 32 * ix (S 9 j 0) + 256 * ix (S_iss S (9 * c + N 1 0 c) (nI d) (nI k) (nI z) 3 (N 3 j 1) 2) + 16384 * ix (S_iss S (9 * c + N 1 0 c) (nI d) (nI k) (nI z) 3 (N 3 j 1) 3)
      rw [n4 _ e, s3 _ e]
      exact d3
  · obtain ⟨b1, b2⟩ := hB i hi' b hb
    have c1 : cntB (S_iss S (9 * c + N 1 0 c) (nI d) (nI k) (nI z)) (N_iss N c o) i b (N 5 0 0) = cntB S N i b (N 5 0 0) := cntB_congr2 i b _ (fun j hj => ⟨rfl, by rw [n4 _ (hne j hj)], rfl⟩)
    have c2 : penB (S_iss S (9 * c + N 1 0 c) (nI d) (nI k) (nI z)) (N_iss N c o) i b (N 5 0 0) = penB S N i b (N 5 0 0) := penB_congr2 i b _ (fun j hj => ⟨rfl, by rw [n4 _ (hne j hj)], rfl, s3 _ (hne j hj)⟩)
    exact ⟨b1.trans (congrArg nI c1.symm), b2.trans c2.symm⟩
  · have e := sgN_congr (S := S) (S' := S_iss S (9 * c + N 1 0 c) (nI d) (nI k) (nI z)) (fun i => rfl) (N 0 0 0)
    show N 5 0 0 + 0 ≤ 6 * sgN (S_iss S (9 * c + N 1 0 c) (nI d) (nI k) (nI z)) (N 0 0 0)
    rw [e]
    exact f4
theorem beg_6 (hs : zS S N Y) {i : Nat} (hi : i < 10) : S_beg S (N 0 0 0) 6 i 0 = S 6 i 0 ∧ S_beg S (N 0 0 0) 6 i 1 = S 6 i 1 := by
  by_cases e : i = N 0 0 0
  · have h1 := (hs i hi).2.2.2 (Nat.le_of_eq e.symm)
    have h2 : S_beg S (N 0 0 0) 6 i = fun _ => nI 0 := by
      rw [e]
      unfold S_beg
      rw [su_ne (fun z => absurd z.1 (by decide)), su_ne (fun z => absurd z.1 (by decide)), su_ne (fun z => absurd z.1 (by decide)), su_self]
    rw [h2, h1.1, h1.2]
    exact ⟨rfl, rfl⟩
  · rw [S_beg_ne e (by decide)]
    exact ⟨rfl, rfl⟩
theorem rz_begin (h : RZ S N Y t D a b) (h10 : N 0 0 0 < 10) : RZ (S_beg S (N 0 0 0)) (N_beg N (N 0 0 0)) Y t D (a + 1) b := by
  obtain ⟨hv, h6, hI, hs, hd, hB, ⟨f1, f2, f3, f4⟩, hY⟩ := h
  refine ⟨hv, h6, fun i hi => ?_, fun i hi => ?_, fun j hj => ?_, fun i hi b hb => ?_, ⟨f1, ?_, f3, ?_⟩, hY⟩
  · obtain ⟨i1, i2⟩ := hI i hi
    by_cases e : i = N 0 0 0
    · have z2 : N_beg N (N 0 0 0) 2 i = fun _ => 0 := by rw [e, N_beg_2i]
      rw [z2]
      exact ⟨fun c hc => ⟨fun _ => (i1 c hc).1 (i2 (Nat.le_of_eq e.symm) c), fun q => absurd rfl q⟩, fun _ _ => rfl⟩
    · have e2 : N_beg N (N 0 0 0) 2 i = N 2 i := N_beg_2 e
      have e4 : S_beg S (N 0 0 0) 4 i = S 4 i := S_beg_ne e (by decide)
      have e5 : S_beg S (N 0 0 0) 5 i = S 5 i := S_beg_ne e (by decide)
      rw [e2, e4, e5]
      exact ⟨i1, fun q => i2 (by
        have q' : N 0 0 0 + 1 ≤ i := q
        omega)⟩
  · obtain ⟨s1, s2, s3, s4⟩ := hs i hi
    obtain ⟨g0, g1⟩ := beg_6 hs hi
    rw [g0, g1]
    exact ⟨s1, s2, s3, fun q => s4 (by
      have q' : N 0 0 0 + 1 ≤ i := q
      omega)⟩
  · obtain ⟨d1, d2, d3, d4, d5, d6⟩ := hd j hj
    exact ⟨d1, d2, d3, d4, Nat.lt_succ_of_lt d5, d6⟩
  · obtain ⟨b1, b2⟩ := hB i hi b hb
    have c1 : cntB (S_beg S (N 0 0 0)) (N_beg N (N 0 0 0)) i b (N 5 0 0) = cntB S N i b (N 5 0 0) := cntB_congr2 i b _ (fun j hj => ⟨rfl, rfl, rfl⟩)
    have c2 : penB (S_beg S (N 0 0 0)) (N_beg N (N 0 0 0)) i b (N 5 0 0) = penB S N i b (N 5 0 0) := penB_congr2 i b _ (fun j hj => ⟨rfl, rfl, rfl, rfl⟩)
    show S_beg S (N 0 0 0) 7 i b = nI (cntB (S_beg S (N 0 0 0)) (N_beg N (N 0 0 0)) i b (N 5 0 0)) ∧ S_beg S (N 0 0 0) 8 i b = penB (S_beg S (N 0 0 0)) (N_beg N (N 0 0 0)) i b (N 5 0 0)
    rw [c1, c2]
    by_cases e : i = N 0 0 0
    · have hz : ∀ j, j < N 5 0 0 → ¬ N 3 j 0 = i := fun j hj q => by
        have h9 : N 3 j 0 < N 0 0 0 := (hd j hj).2.2.2.2.1
        omega
      rw [cntB_zero i b _ hz, penB_zero i b _ hz, e]
      unfold S_beg
      refine ⟨?_, ?_⟩
      · rw [su_ne (fun z => absurd z.1 (by decide)), su_ne (fun z => absurd z.1 (by decide)), su_self]
      · rw [su_ne (fun z => absurd z.1 (by decide)), su_self]; exact nI_00
    · rw [S_beg_ne e (by decide), S_beg_ne e (by decide)]
      exact ⟨b1, b2⟩
  · show a + 1 = N 0 0 0 + 1
    rw [f2]
  · show N 5 0 0 + 0 ≤ 6 * sgN (S_beg S (N 0 0 0)) (N 0 0 0 + 1)
    simp only [sgN]
    rw [sgN_congr2 (S := S) (N 0 0 0) (fun i hi => beg_6 hs (by omega))]
    omega
end RZ1

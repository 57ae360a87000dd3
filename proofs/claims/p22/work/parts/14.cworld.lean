/-! the class's world -/
def vpt (ad : Lc → Nat) (n c : Nat) : Option Nat := if n = 0 then none else some (ad (9, 9 * c + n - 1))
abbrev SS : Type := Nat → Nat → Nat → Int32
abbrev NN : Type := Nat → Nat → Nat → Nat
def su (S : SS) (k i : Nat) (r : Nat → Int32) : SS := fun a b => if a = k ∧ b = i then r else S a b
def nu (N : NN) (k i : Nat) (r : Nat → Nat) : NN := fun a b => if a = k ∧ b = i then r else N a b
theorem su_self (S : SS) (k i : Nat) (r : Nat → Int32) : su S k i r k i = r := if_pos ⟨rfl, rfl⟩
theorem nu_self (N : NN) (k i : Nat) (r : Nat → Nat) : nu N k i r k i = r := if_pos ⟨rfl, rfl⟩
theorem su_ne {S : SS} {k i a b : Nat} {r : Nat → Int32} (h : ¬ (a = k ∧ b = i)) : su S k i r a b = S a b := if_neg h
theorem nu_ne {N : NN} {k i a b : Nat} {r : Nat → Nat} (h : ¬ (a = k ∧ b = i)) : nu N k i r a b = N a b := if_neg h
def cc (cy : Nat → ClassId) (e0 : Nat) (ad : Lc → Nat) (S : SS) (N : NN) : Lc → va_E := fun q => match q with
  | (0, i) => .inr (1, [.ref (ad (1, i)), .ref (ad (2, i)), .ref (ad (5, i)), .ref (ad (6, i)), .ref (ad (7, i))])
  | (1, i) => .inl (cy 2, 10, .inr (.inr (.inr (.inr (fun c => vpt ad (N 2 i c) c)))))
  | (2, i) => .inl (cy 4, 2, .inr (.inr (.inr (.inr (fun s => if s = 0 then some (ad (3, i)) else some (ad (4, i)))))))
  | (3, i) => .inl (cy 0, 10, .inl (S 4 i))
  | (4, i) => .inl (cy 0, 10, .inl (S 5 i))
  | (5, i) => .inl (cy 1, 2, .inl (S 6 i))
  | (6, i) => .inl (cy 0, 2, .inl (S 7 i))
  | (7, i) => .inl (cy 0, 2, .inl (S 8 i))
  | (8, i) => .inr (2, [.ref (ad (0, N 3 i 0)), .ref (ad (9, N 3 i 1)), .int (S 9 i 0), .int (S 9 i 1)])
  | (9, i) => .inr (3, [.int (nI (i % 9 + 1)), .int (nI (N 4 i 0)), .int (S 3 i 1), .int (S 3 i 2), .int (S 3 i 3)])
  | (10, i) => .inr (4, [.ref (ad (11, i)), .ref (ad (12, i)), .ref (ad (13, i)), .ref (ad (14, i)), .ref (ad (16, i)), .int (S 0 i 0)])
  | (11, i) => .inl (cy 2, 10, .inr (.inr (.inr (.inr (fun c => vpt ad (N 1 i c) c)))))
  | (12, i) => .inl (cy 0, 10, .inl (S 1 i))
  | (13, i) => .inl (cy 0, 10, .inl (S 2 i))
  | (14, i) => .inr (0, [.int (S 10 i 0), .ref (if N 6 i 0 = 0 then e0 else ad (15, i)), .int (nI (N 0 i 0))])
  | (15, i) => .inl (cy 3, N 6 i 0, .inr (.inr (.inr (.inr (fun j => if j < N 0 i 0 then some (ad (0, j)) else none)))))
  | (16, i) => .inr (0, [.int (S 11 i 0), .ref (if N 7 i 0 = 0 then e0 else ad (17, i)), .int (nI (N 5 i 0))])
  | (17, i) => .inl (cy 3, N 7 i 0, .inr (.inr (.inr (.inr (fun j => if j < N 5 i 0 then some (ad (8, j)) else none)))))
  | (_, _) => .inr (0, [])
abbrev cw (cy : Nat → ClassId) (e0 : Nat) (ad : Lc → Nat) (L : List Lc) (S : SS) (N : NN) : va_W := pl L ad (cc cy e0 ad S N)
abbrev CS : Type := SS × NN
abbrev cwU (cy : Nat → ClassId) (e0 : Nat) (ad : Lc → Nat) (L : List Lc) (u : CS) : va_W := cw cy e0 ad L u.1 u.2
/-- what stands in the pool -/
def okM (L : List Lc) (N : NN) : Prop :=
  (∀ k i, k ≤ 7 → i < N 0 0 0 → (k, i) ∈ L) ∧ (∀ j, j < N 5 0 0 → (8, j) ∈ L) ∧ (∀ c n, c < 10 → n < N 1 0 c → (9, 9 * c + n) ∈ L) ∧ (∀ k, (10 ≤ k ∧ k ≤ 14) ∨ k = 16 → (k, 0) ∈ L) ∧ (N 6 0 0 ≠ 0 → (15, 0) ∈ L) ∧ (N 7 0 0 ≠ 0 → (17, 0) ∈ L)
def okN (L : List Lc) (N : NN) : Prop :=
  (∀ i c, i < N 0 0 0 → c < 10 → N 2 i c ≤ N 1 0 c) ∧ (∀ c, c < 10 → N 1 0 c ≤ 9) ∧ (∀ v, N 4 v 0 < 2) ∧ (∀ j, j < N 5 0 0 → N 3 j 0 < N 0 0 0 ∧ (9, N 3 j 1) ∈ L) ∧ N 0 0 0 ≤ 10 ∧ N 5 0 0 ≤ 100 ∧ N 0 0 0 ≤ N 6 0 0 ∧ N 5 0 0 ≤ N 7 0 0 ∧ N 6 0 0 ≤ 10 ∧ N 7 0 0 ≤ 200
def okC (L : List Lc) (N : NN) : Prop := okM L N ∧ okN L N
theorem vpt_up (ad : Lc → Nat) (f : Nat → Nat) (c n : Nat) : (fun d => vpt ad (va_up f c n d) d) = va_up (fun d => vpt ad (f d) d) c (vpt ad n c) := by
  funext d
  by_cases h : d = c
  · subst h; rw [va_up_self, va_up_self]
  · rw [va_up_ne _ _ h, va_up_ne _ _ h]
theorem st_3 {cy : Nat → ClassId} {e0 : Nat} {ad : Lc → Nat} {S : SS} {N : NN} {A : Nat → Prop} {L : List Lc} {kk i : Nat} {x0 : va_E} (r : Nat → Int32) (hD : va_D A (cw cy e0 ad L S N)) (hk : (cw cy e0 ad L S N)[kk]? = some (ad (3, i), x0)) (hq : (3, i) ∈ L) : (cw cy e0 ad L S N).set kk (ad (3, i), .inl (cy 0, 10, .inl r)) = cw cy e0 ad L (su S 4 i r) N := by
  obtain ⟨q0, h0, e0'⟩ := pl_at hk
  have h1 : q0 = (3, i) := pl_inj hD (List.mem_of_getElem? h0) hq (congrArg Prod.fst e0').symm
  subst h1
  refine pl_set hD (pl_idx h0) hq (fun q' hne => ?_) (by simp only [cc, su_self])
  obtain ⟨a, b⟩ := q'
  match a, hne with
  | 0, hne => rfl
  | 1, hne => rfl
  | 2, hne => rfl
  | 3, hne => simp only [cc]; rw [su_ne (fun z => hne (by rw [z.2]))]
  | 4, hne => rfl
  | 5, hne => rfl
  | 6, hne => rfl
  | 7, hne => rfl
  | 8, hne => rfl
  | 9, hne => rfl
  | 10, hne => rfl
  | 11, hne => rfl
  | 12, hne => rfl
  | 13, hne => rfl
  | 14, hne => rfl
  | 15, hne => rfl
  | 16, hne => rfl
  | 17, hne => rfl
  | a + 18, hne => rfl
theorem st_4 {cy : Nat → ClassId} {e0 : Nat} {ad : Lc → Nat} {S : SS} {N : NN} {A : Nat → Prop} {L : List Lc} {kk i : Nat} {x0 : va_E} (r : Nat → Int32) (hD : va_D A (cw cy e0 ad L S N)) (hk : (cw cy e0 ad L S N)[kk]? = some (ad (4, i), x0)) (hq : (4, i) ∈ L) : (cw cy e0 ad L S N).set kk (ad (4, i), .inl (cy 0, 10, .inl r)) = cw cy e0 ad L (su S 5 i r) N := by
  obtain ⟨q0, h0, e0'⟩ := pl_at hk
  have h1 : q0 = (4, i) := pl_inj hD (List.mem_of_getElem? h0) hq (congrArg Prod.fst e0').symm
  subst h1
  refine pl_set hD (pl_idx h0) hq (fun q' hne => ?_) (by simp only [cc, su_self])
  obtain ⟨a, b⟩ := q'
  match a, hne with
  | 0, hne => rfl
  | 1, hne => rfl
  | 2, hne => rfl
  | 3, hne => rfl
  | 4, hne => simp only [cc]; rw [su_ne (fun z => hne (by rw [z.2]))]
  | 5, hne => rfl
  | 6, hne => rfl
  | 7, hne => rfl
  | 8, hne => rfl
  | 9, hne => rfl
  | 10, hne => rfl
  | 11, hne => rfl
  | 12, hne => rfl
  | 13, hne => rfl
  | 14, hne => rfl
  | 15, hne => rfl
  | 16, hne => rfl
  | 17, hne => rfl
  | a + 18, hne => rfl
theorem st_5 {cy : Nat → ClassId} {e0 : Nat} {ad : Lc → Nat} {S : SS} {N : NN} {A : Nat → Prop} {L : List Lc} {kk i : Nat} {x0 : va_E} (r : Nat → Int32) (hD : va_D A (cw cy e0 ad L S N)) (hk : (cw cy e0 ad L S N)[kk]? = some (ad (5, i), x0)) (hq : (5, i) ∈ L) : (cw cy e0 ad L S N).set kk (ad (5, i), .inl (cy 1, 2, .inl r)) = cw cy e0 ad L (su S 6 i r) N := by
  obtain ⟨q0, h0, e0'⟩ := pl_at hk
  have h1 : q0 = (5, i) := pl_inj hD (List.mem_of_getElem? h0) hq (congrArg Prod.fst e0').symm
  subst h1
  refine pl_set hD (pl_idx h0) hq (fun q' hne => ?_) (by simp only [cc, su_self])
  obtain ⟨a, b⟩ := q'
  match a, hne with
  | 0, hne => rfl
  | 1, hne => rfl
  | 2, hne => rfl
  | 3, hne => rfl
  | 4, hne => rfl
  | 5, hne => simp only [cc]; rw [su_ne (fun z => hne (by rw [z.2]))]
  | 6, hne => rfl
  | 7, hne => rfl
  | 8, hne => rfl
  | 9, hne => rfl
  | 10, hne => rfl
  | 11, hne => rfl
  | 12, hne => rfl
  | 13, hne => rfl
  | 14, hne => rfl
  | 15, hne => rfl
  | 16, hne => rfl
  | 17, hne => rfl
  | a + 18, hne => rfl
theorem st_6 {cy : Nat → ClassId} {e0 : Nat} {ad : Lc → Nat} {S : SS} {N : NN} {A : Nat → Prop} {L : List Lc} {kk i : Nat} {x0 : va_E} (r : Nat → Int32) (hD : va_D A (cw cy e0 ad L S N)) (hk : (cw cy e0 ad L S N)[kk]? = some (ad (6, i), x0)) (hq : (6, i) ∈ L) : (cw cy e0 ad L S N).set kk (ad (6, i), .inl (cy 0, 2, .inl r)) = cw cy e0 ad L (su S 7 i r) N := by
  obtain ⟨q0, h0, e0'⟩ := pl_at hk
  have h1 : q0 = (6, i) := pl_inj hD (List.mem_of_getElem? h0) hq (congrArg Prod.fst e0').symm
  subst h1
  refine pl_set hD (pl_idx h0) hq (fun q' hne => ?_) (by simp only [cc, su_self])
  obtain ⟨a, b⟩ := q'
  match a, hne with
  | 0, hne => rfl
  | 1, hne => rfl
  | 2, hne => rfl
  | 3, hne => rfl
  | 4, hne => rfl
  | 5, hne => rfl
  | 6, hne => simp only [cc]; rw [su_ne (fun z => hne (by rw [z.2]))]
  | 7, hne => rfl
  | 8, hne => rfl
  | 9, hne => rfl
  | 10, hne => rfl
  | 11, hne => rfl
  | 12, hne => rfl
  | 13, hne => rfl
  | 14, hne => rfl
  | 15, hne => rfl
  | 16, hne => rfl
  | 17, hne => rfl
  | a + 18, hne => rfl
theorem st_7 {cy : Nat → ClassId} {e0 : Nat} {ad : Lc → Nat} {S : SS} {N : NN} {A : Nat → Prop} {L : List Lc} {kk i : Nat} {x0 : va_E} (r : Nat → Int32) (hD : va_D A (cw cy e0 ad L S N)) (hk : (cw cy e0 ad L S N)[kk]? = some (ad (7, i), x0)) (hq : (7, i) ∈ L) : (cw cy e0 ad L S N).set kk (ad (7, i), .inl (cy 0, 2, .inl r)) = cw cy e0 ad L (su S 8 i r) N := by
  obtain ⟨q0, h0, e0'⟩ := pl_at hk
  have h1 : q0 = (7, i) := pl_inj hD (List.mem_of_getElem? h0) hq (congrArg Prod.fst e0').symm
  subst h1
  refine pl_set hD (pl_idx h0) hq (fun q' hne => ?_) (by simp only [cc, su_self])
  obtain ⟨a, b⟩ := q'
  match a, hne with
  | 0, hne => rfl
  | 1, hne => rfl
  | 2, hne => rfl
  | 3, hne => rfl
  | 4, hne => rfl
  | 5, hne => rfl
  | 6, hne => rfl
  | 7, hne => simp only [cc]; rw [su_ne (fun z => hne (by rw [z.2]))]
  | 8, hne => rfl
  | 9, hne => rfl
  | 10, hne => rfl
  | 11, hne => rfl
  | 12, hne => rfl
  | 13, hne => rfl
  | 14, hne => rfl
  | 15, hne => rfl
  | 16, hne => rfl
  | 17, hne => rfl
  | a + 18, hne => rfl
theorem st_12 {cy : Nat → ClassId} {e0 : Nat} {ad : Lc → Nat} {S : SS} {N : NN} {A : Nat → Prop} {L : List Lc} {kk i : Nat} {x0 : va_E} (r : Nat → Int32) (hD : va_D A (cw cy e0 ad L S N)) (hk : (cw cy e0 ad L S N)[kk]? = some (ad (12, i), x0)) (hq : (12, i) ∈ L) : (cw cy e0 ad L S N).set kk (ad (12, i), .inl (cy 0, 10, .inl r)) = cw cy e0 ad L (su S 1 i r) N := by
  obtain ⟨q0, h0, e0'⟩ := pl_at hk
  have h1 : q0 = (12, i) := pl_inj hD (List.mem_of_getElem? h0) hq (congrArg Prod.fst e0').symm
  subst h1
  refine pl_set hD (pl_idx h0) hq (fun q' hne => ?_) (by simp only [cc, su_self])
  obtain ⟨a, b⟩ := q'
  match a, hne with
  | 0, hne => rfl
  | 1, hne => rfl
  | 2, hne => rfl
  | 3, hne => rfl
  | 4, hne => rfl
  | 5, hne => rfl
  | 6, hne => rfl
  | 7, hne => rfl
  | 8, hne => rfl
  | 9, hne => rfl
  | 10, hne => rfl
  | 11, hne => rfl
  | 12, hne => simp only [cc]; rw [su_ne (fun z => hne (by rw [z.2]))]
  | 13, hne => rfl
  | 14, hne => rfl
  | 15, hne => rfl
  | 16, hne => rfl
  | 17, hne => rfl
  | a + 18, hne => rfl
theorem st_13 {cy : Nat → ClassId} {e0 : Nat} {ad : Lc → Nat} {S : SS} {N : NN} {A : Nat → Prop} {L : List Lc} {kk i : Nat} {x0 : va_E} (r : Nat → Int32) (hD : va_D A (cw cy e0 ad L S N)) (hk : (cw cy e0 ad L S N)[kk]? = some (ad (13, i), x0)) (hq : (13, i) ∈ L) : (cw cy e0 ad L S N).set kk (ad (13, i), .inl (cy 0, 10, .inl r)) = cw cy e0 ad L (su S 2 i r) N := by
  obtain ⟨q0, h0, e0'⟩ := pl_at hk
  have h1 : q0 = (13, i) := pl_inj hD (List.mem_of_getElem? h0) hq (congrArg Prod.fst e0').symm
  subst h1
  refine pl_set hD (pl_idx h0) hq (fun q' hne => ?_) (by simp only [cc, su_self])
  obtain ⟨a, b⟩ := q'
  match a, hne with
  | 0, hne => rfl
  | 1, hne => rfl
  | 2, hne => rfl
  | 3, hne => rfl
  | 4, hne => rfl
  | 5, hne => rfl
  | 6, hne => rfl
  | 7, hne => rfl
  | 8, hne => rfl
  | 9, hne => rfl
  | 10, hne => rfl
  | 11, hne => rfl
  | 12, hne => rfl
  | 13, hne => simp only [cc]; rw [su_ne (fun z => hne (by rw [z.2]))]
  | 14, hne => rfl
  | 15, hne => rfl
  | 16, hne => rfl
  | 17, hne => rfl
  | a + 18, hne => rfl
theorem st_8a {cy : Nat → ClassId} {e0 : Nat} {ad : Lc → Nat} {S : SS} {N : NN} {A : Nat → Prop} {L : List Lc} {kk i : Nat} {x0 : va_E} (x : Int32) (hD : va_D A (cw cy e0 ad L S N)) (hk : (cw cy e0 ad L S N)[kk]? = some (ad (8, i), x0)) (hq : (8, i) ∈ L) : (cw cy e0 ad L S N).set kk (ad (8, i), .inr (2, [.ref (ad (0, N 3 i 0)), .ref (ad (9, N 3 i 1)), .int x, .int (S 9 i 1)])) = cw cy e0 ad L (su S 9 i (upd (S 9 i) 0 x)) N := by
  obtain ⟨q0, h0, e0'⟩ := pl_at hk
  have h1 : q0 = (8, i) := pl_inj hD (List.mem_of_getElem? h0) hq (congrArg Prod.fst e0').symm
  subst h1
  refine pl_set hD (pl_idx h0) hq (fun q' hne => ?_) (by simp [cc, su_self, upd])
  obtain ⟨a, b⟩ := q'
  match a, hne with
  | 0, hne => rfl
  | 1, hne => rfl
  | 2, hne => rfl
  | 3, hne => rfl
  | 4, hne => rfl
  | 5, hne => rfl
  | 6, hne => rfl
  | 7, hne => rfl
  | 8, hne => simp only [cc]; rw [su_ne (fun z => hne (by rw [z.2]))]
  | 9, hne => rfl
  | 10, hne => rfl
  | 11, hne => rfl
  | 12, hne => rfl
  | 13, hne => rfl
  | 14, hne => rfl
  | 15, hne => rfl
  | 16, hne => rfl
  | 17, hne => rfl
  | a + 18, hne => rfl
theorem st_8b {cy : Nat → ClassId} {e0 : Nat} {ad : Lc → Nat} {S : SS} {N : NN} {A : Nat → Prop} {L : List Lc} {kk i : Nat} {x0 : va_E} (x : Int32) (hD : va_D A (cw cy e0 ad L S N)) (hk : (cw cy e0 ad L S N)[kk]? = some (ad (8, i), x0)) (hq : (8, i) ∈ L) : (cw cy e0 ad L S N).set kk (ad (8, i), .inr (2, [.ref (ad (0, N 3 i 0)), .ref (ad (9, N 3 i 1)), .int (S 9 i 0), .int x])) = cw cy e0 ad L (su S 9 i (upd (S 9 i) 1 x)) N := by
  obtain ⟨q0, h0, e0'⟩ := pl_at hk
  have h1 : q0 = (8, i) := pl_inj hD (List.mem_of_getElem? h0) hq (congrArg Prod.fst e0').symm
  subst h1
  refine pl_set hD (pl_idx h0) hq (fun q' hne => ?_) (by simp [cc, su_self, upd])
  obtain ⟨a, b⟩ := q'
  match a, hne with
  | 0, hne => rfl
  | 1, hne => rfl
  | 2, hne => rfl
  | 3, hne => rfl
  | 4, hne => rfl
  | 5, hne => rfl
  | 6, hne => rfl
  | 7, hne => rfl
  | 8, hne => simp only [cc]; rw [su_ne (fun z => hne (by rw [z.2]))]
  | 9, hne => rfl
  | 10, hne => rfl
  | 11, hne => rfl
  | 12, hne => rfl
  | 13, hne => rfl
  | 14, hne => rfl
  | 15, hne => rfl
  | 16, hne => rfl
  | 17, hne => rfl
  | a + 18, hne => rfl
theorem st_10 {cy : Nat → ClassId} {e0 : Nat} {ad : Lc → Nat} {S : SS} {N : NN} {A : Nat → Prop} {L : List Lc} {kk i : Nat} {x0 : va_E} (x : Int32) (hD : va_D A (cw cy e0 ad L S N)) (hk : (cw cy e0 ad L S N)[kk]? = some (ad (10, i), x0)) (hq : (10, i) ∈ L) : (cw cy e0 ad L S N).set kk (ad (10, i), .inr (4, [.ref (ad (11, i)), .ref (ad (12, i)), .ref (ad (13, i)), .ref (ad (14, i)), .ref (ad (16, i)), .int x])) = cw cy e0 ad L (su S 0 i (upd (S 0 i) 0 x)) N := by
  obtain ⟨q0, h0, e0'⟩ := pl_at hk
  have h1 : q0 = (10, i) := pl_inj hD (List.mem_of_getElem? h0) hq (congrArg Prod.fst e0').symm
  subst h1
  refine pl_set hD (pl_idx h0) hq (fun q' hne => ?_) (by simp [cc, su_self, upd])
  obtain ⟨a, b⟩ := q'
  match a, hne with
  | 0, hne => rfl
  | 1, hne => rfl
  | 2, hne => rfl
  | 3, hne => rfl
  | 4, hne => rfl
  | 5, hne => rfl
  | 6, hne => rfl
  | 7, hne => rfl
  | 8, hne => rfl
  | 9, hne => rfl
  | 10, hne => simp only [cc]; rw [su_ne (fun z => hne (by rw [z.2]))]
  | 11, hne => rfl
  | 12, hne => rfl
  | 13, hne => rfl
  | 14, hne => rfl
  | 15, hne => rfl
  | 16, hne => rfl
  | 17, hne => rfl
  | a + 18, hne => rfl
theorem st_1 {cy : Nat → ClassId} {e0 : Nat} {ad : Lc → Nat} {S : SS} {N : NN} {A : Nat → Prop} {L : List Lc} {kk i : Nat} {x0 : va_E} (c n : Nat) (hD : va_D A (cw cy e0 ad L S N)) (hk : (cw cy e0 ad L S N)[kk]? = some (ad (1, i), x0)) (hq : (1, i) ∈ L) : (cw cy e0 ad L S N).set kk (ad (1, i), .inl (cy 2, 10, .inr (.inr (.inr (.inr (va_up (fun d => vpt ad (N 2 i d) d) c (vpt ad n c))))))) = cw cy e0 ad L S (nu N 2 i (va_up (N 2 i) c n)) := by
  obtain ⟨q0, h0, e0'⟩ := pl_at hk
  have h1 : q0 = (1, i) := pl_inj hD (List.mem_of_getElem? h0) hq (congrArg Prod.fst e0').symm
  subst h1
  refine pl_set hD (pl_idx h0) hq (fun q' hne => ?_) (by simp only [cc, nu_self, vpt_up])
  obtain ⟨a, b⟩ := q'
  match a, hne with
  | 0, hne => rfl
  | 1, hne => simp only [cc]; rw [nu_ne (fun z => hne (by rw [z.2]))]
  | 2, hne => rfl
  | 3, hne => rfl
  | 4, hne => rfl
  | 5, hne => rfl
  | 6, hne => rfl
  | 7, hne => rfl
  | 8, hne => rfl
  | 9, hne => rfl
  | 10, hne => rfl
  | 11, hne => rfl
  | 12, hne => rfl
  | 13, hne => rfl
  | 14, hne => rfl
  | 15, hne => rfl
  | 16, hne => rfl
  | 17, hne => rfl
  | a + 18, hne => rfl

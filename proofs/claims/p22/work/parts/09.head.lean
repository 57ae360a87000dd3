/-! array classes; numbers -/
abbrev tyL (cy : Nat → ClassId) : List (ClassId × FieldType) := [(cy 0, .int), (cy 1, .boolean), (cy 2, .object "ClauseShop$Version"), (cy 3, .object "java/lang/Object"), (cy 4, .array .int)]
theorem upd_nI (f : Nat → Nat) (t v : Nat) : upd (fun j => nI (f j)) t (nI v) = fun j => nI (va_up f t v j) := by
  funext j
  by_cases h : j = t <;> simp [upd, va_up, h]
theorem pk_m1s (n : Nat) : nI (n + 1) - nI 1 = nI n := by
  have h := nI_pred n
  exact h
theorem cl_of {x : Int32} (h : (0 : Int32) ≤ x ∧ x ≤ 9) : ∃ j : Nat, j < 10 ∧ x = nI j ∧ (nI j).toNatClampNeg = j := by
  obtain ⟨j, h1, h2⟩ := nI_of2 (x := x) (M := 9) (n := 9) (by decide) (fun q => Int32.not_lt.mpr h.1 q) h.2
  exact ⟨j, by omega, h2, nI_clamp (by omega)⟩
theorem sd_of {x : Int32} (h : (0 : Int32) ≤ x ∧ x ≤ 1) : ∃ j : Nat, j < 2 ∧ x = nI j ∧ (nI j).toNatClampNeg = j := by
  obtain ⟨j, h1, h2⟩ := nI_of2 (x := x) (M := 1) (n := 1) (by decide) (fun q => Int32.not_lt.mpr h.1 q) h.2
  exact ⟨j, by omega, h2, nI_clamp (by omega)⟩
def ix (x : Int32) : Nat := x.toNatClampNeg
theorem cl_ix {x : Int32} (h : (0 : Int32) ≤ x ∧ x ≤ 9) : ∃ j : Nat, j < 10 ∧ x = nI j ∧ ix (nI j) = j := cl_of h
theorem sd_ix {x : Int32} (h : (0 : Int32) ≤ x ∧ x ≤ 1) : ∃ j : Nat, j < 2 ∧ x = nI j ∧ ix (nI j) = j := sd_of h
theorem ct_ix {x : Int32} {n : Nat} (hn : n ≤ 1000) (h : (0 : Int32) ≤ x ∧ x ≤ nI n - 1) : ∃ j : Nat, j < n ∧ x = nI j ∧ ix (nI j) = j := by
  cases n with
  | zero =>
    have h1 : (0 : Int32) ≤ nI 0 - 1 := Int32.le_trans h.1 h.2
    exact absurd h1 (by decide)
  | succ k =>
    have e : nI (k + 1) - 1 = nI k := nI_pred k
    rw [e] at h
    obtain ⟨j, h1, h2⟩ := nI_of2 (x := x) (M := nI k) (n := k) (nI_toInt (by omega)) (fun q => Int32.not_lt.mpr h.1 q) h.2
    exact ⟨j, by omega, h2, nI_clamp (by omega)⟩
abbrev isC (C : Nat → Nat) (k : Nat) (x : Int32) : Prop := (0 : Int32) ≤ x ∧ x ≤ nI (C k) - 1
abbrev isCl (x : Int32) : Prop := (0 : Int32) ≤ x ∧ x ≤ 9
abbrev isSd (x : Int32) : Prop := (0 : Int32) ≤ x ∧ x ≤ 1

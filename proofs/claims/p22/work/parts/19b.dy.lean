theorem dy_ix {x : Int32} (h : nI 1 ≤ x ∧ x ≤ nI 100) : ∃ j : Nat, (1 ≤ j ∧ j ≤ 100) ∧ x = nI j ∧ ix (nI j) = j := by
  have h0 : ¬ x < 0 := fun q => Int32.not_lt.mpr (Int32.le_trans (by decide) h.1) q
  obtain ⟨j, h1, h2⟩ := nI_of2 (x := x) (M := nI 100) (n := 100) (by decide) h0 h.2
  refine ⟨j, ⟨?_, by omega⟩, h2, nI_clamp (by omega)⟩
  have h3 := h.1
  rw [h2] at h3
  exact (nI_leI (by decide) (by omega)).mp h3


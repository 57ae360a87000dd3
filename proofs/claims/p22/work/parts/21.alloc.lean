/-! allocation: arrays whose class is known -/
theorem K_cA {D : va_G} {tys : List (ClassId × FieldType)} {s : State} {cA cB : ClassId} {ty : FieldType} {t0 : Nat} (hK : va_K D vwCl (tys ++ [(cA, ty)]) s) (h : tys[t0]? = some (cB, ty)) : cA = cB := by
  have a := (hK.2 tys.length (cA, ty) (by rw [List.getElem?_append_right (Nat.le_refl _), Nat.sub_self]; rfl)).2
  have b := (hK.2 t0 (cB, ty) (by rw [List.getElem?_append_left (List.getElem?_eq_some_iff.mp h).1]; exact h)).2
  cases ty
  case object C =>
    obtain ⟨k1, c1, -, -, -, a⟩ := a
    obtain ⟨k2, c2, -, -, -, b⟩ := b
    exact Option.some.inj (a.symm.trans b)
  all_goals exact Option.some.inj (a.symm.trans b)
theorem app_at {w y : va_W} {k : Nat} {x : Nat × va_E} (h : w[k]? = some x) : (w ++ y)[k]? = some x := by rw [List.getElem?_append_left (List.getElem?_eq_some_iff.mp h).1]; exact h
theorem app_set {w y : va_W} {k : Nat} {x z : Nat × va_E} (h : w[k]? = some x) : (w ++ y).set k z = w.set k z ++ y := by
  have := (List.getElem?_eq_some_iff.mp h).1
  rw [List.set_append_left _ _ this]
theorem app_r {w y : va_W} {k : Nat} {x : Nat × va_E} (h : y[k]? = some x) : (w ++ y)[w.length + k]? = some x := by rw [List.getElem?_append_right (Nat.le_add_right _ _), Nat.add_sub_cancel_left]; exact h
theorem app_setr {w y : va_W} {k : Nat} {z : Nat × va_E} : (w ++ y).set (w.length + k) z = w ++ y.set k z := by
  rw [List.set_append_right _ _ (Nat.le_add_right _ _), Nat.add_sub_cancel_left]
/-- two entries that lay the same cell -/
def sameE (x y : va_E) : Prop := x = y ∨ ∃ (cA : ClassId) (n : Nat) (f g : Nat → Option Nat), x = .inl (cA, n, .inr (.inr (.inr (.inr f)))) ∧ y = .inl (cA, n, .inr (.inr (.inr (.inr g)))) ∧ ∀ i, i < n → f i = g i
theorem sameE_at {D : va_G} {q : Nat} {x y : va_E} {H : Heap} (h : sameE x y) (hx : va_at D vwCl (q, x) H) : va_at D vwCl (q, y) H := by
  rcases h with rfl | ⟨cA, n, f, g, rfl, rfl, h⟩
  · exact hx
  · have e : vp_cell cA (n, .inr (.inr (.inr (.inr f)))) = vp_cell cA (n, .inr (.inr (.inr (.inr g)))) := by
      rw [vp_cell_q, vp_cell_q]
      unfold arrV
      congr 2
      funext i
      show va_rf (f i.val) = va_rf (g i.val)
      rw [h i.val i.isLt]
    show H[q]? = some _
    rw [← e]
    exact hx
/-- the same places, the same cells -/
theorem w_same {D : va_G} {A : Nat → Prop} {ws ws' : va_W} {H : Heap} (h : ∀ (k : Nat) (q : Nat × va_E), ws'[k]? = some q → ∃ x, ws[k]? = some (q.1, x) ∧ sameE x q.2) (hP : va_P D vwCl ws H) (hD : va_D A ws) : va_P D vwCl ws' H ∧ va_D A ws' := by
  refine ⟨fun k q hq => ?_, fun i j p q hp hq e => ?_, fun k q hq => ?_⟩
  · obtain ⟨x, h1, h2⟩ := h k q hq
    exact sameE_at h2 (hP k _ h1)
  · obtain ⟨x, h1, -⟩ := h i p hp
    obtain ⟨y, h2, -⟩ := h j q hq
    exact hD.1 i j _ _ h1 h2 e
  · obtain ⟨x, h1, -⟩ := h k q hq
    exact hD.2 k (q.1, x) h1
theorem sameE_rf (x : va_E) : sameE x x := Or.inl rfl
theorem nI_00 : nI 0 = (0 : Int32) := by decide
section MyNew
variable {p : Program} {l : Launch} {e : Env} {R : Room} {s : State} {m : MethodId} {args : Array Value} {below : List Frame} {meth : Method} {c : Code} {H H0 : Heap} {locs : List Loc} {cells slots : Nat} {Q : State → Prop}
variable {cc : ByteArray} {pc : Nat} {ls : Array Slot} {rest : List Value} {D : va_G} {A : Nat → Prop} {tys : List (ClassId × FieldType)} {ws : va_W}
theorem x_newi (hexec : p.tables.exec = Jvm.exec) (hb : c.code = cc) (harr : (Cond.arrayClass .int).before args s = true) (hK : va_K D vwCl tys s) (hP : va_P D vwCl ws H) (hD : va_D A ws) (hS : va_S A H0 H locs) (hA : ∀ q, H0.size ≤ q → A q)
    {N : Nat} {cA : ClassId} (t0 : Nat) (ht : tys[t0]? = some (cA, .int)) (hN : N ≤ 1000) (hcells : cells + 1 ≤ R.cells) (hslots : slots + N ≤ R.slots) (hdg : decode cc pc = .ok (.newarray .int, 2))
    (kk : ∀ (q : Nat) (H1 : Heap), va_P D vwCl (ws ++ [(q, .inl (cA, N, .inl (fun _ => nI 0)))]) H1 → va_D A (ws ++ [(q, .inl (cA, N, .inl (fun _ => nI 0)))]) → va_S A H0 H1 locs →
      W p l e R s m args below meth c H1 locs (cells + 1) (slots + N) Q (F0 m (pc + 2) ls (.ref q :: rest))) : W p l e R s m args below meth c H locs cells slots Q (F0 m pc ls (.int (nI N) :: rest)) := by
  have hby : N * componentBytes .int ≤ 536870912 := by rw [show componentBytes .int = 4 from rfl]; omega
  refine va_newa (atype := .int) (ty := .int) hexec hb harr rfl hK hP hD hS hA (a0 := (N, .inl (fun _ => nI 0))) (fun cA => congrArg (arrV cA N) (funext fun _ => congrArg Value.int nI_00)) ?_ (nI_clamp (by omega)) hby hcells hslots hdg (fun q cB H1 hK1 hP1 hD1 hS1 => ?_)
  · exact Int32.not_lt.mpr (nI_le (a := 0) (Nat.zero_le _) (by omega))
  · have e : cB = cA := K_cA hK1 ht
    subst e
    exact kk q H1 hP1 hD1 hS1
theorem x_newz (hexec : p.tables.exec = Jvm.exec) (hb : c.code = cc) (harr : (Cond.arrayClass .boolean).before args s = true) (hK : va_K D vwCl tys s) (hP : va_P D vwCl ws H) (hD : va_D A ws) (hS : va_S A H0 H locs) (hA : ∀ q, H0.size ≤ q → A q)
    {N : Nat} {cA : ClassId} (t0 : Nat) (ht : tys[t0]? = some (cA, .boolean)) (hN : N ≤ 1000) (hcells : cells + 1 ≤ R.cells) (hslots : slots + N ≤ R.slots) (hdg : decode cc pc = .ok (.newarray .boolean, 2))
    (kk : ∀ (q : Nat) (H1 : Heap), va_P D vwCl (ws ++ [(q, .inl (cA, N, .inl (fun _ => nI 0)))]) H1 → va_D A (ws ++ [(q, .inl (cA, N, .inl (fun _ => nI 0)))]) → va_S A H0 H1 locs →
      W p l e R s m args below meth c H1 locs (cells + 1) (slots + N) Q (F0 m (pc + 2) ls (.ref q :: rest))) : W p l e R s m args below meth c H locs cells slots Q (F0 m pc ls (.int (nI N) :: rest)) := by
  have hby : N * componentBytes .boolean ≤ 536870912 := by rw [show componentBytes .boolean = 1 from rfl]; omega
  refine va_newa (atype := .boolean) (ty := .boolean) hexec hb harr rfl hK hP hD hS hA (a0 := (N, .inl (fun _ => nI 0))) (fun cA => congrArg (arrV cA N) (funext fun _ => congrArg Value.int nI_00)) ?_ (nI_clamp (by omega)) hby hcells hslots hdg (fun q cB H1 hK1 hP1 hD1 hS1 => ?_)
  · exact Int32.not_lt.mpr (nI_le (a := 0) (Nat.zero_le _) (by omega))
  · have e : cB = cA := K_cA hK1 ht
    subst e
    exact kk q H1 hP1 hD1 hS1
theorem x_newq (hexec : p.tables.exec = Jvm.exec) (hb : c.code = cc) {own C : String} {index : Nat} (hown : s.vm.findClass own = some m.cls) (hclink : (Cond.classLink own index C).before args s = true) (hover : va_AO C s) (hK : va_K D vwCl tys s) (hP : va_P D vwCl ws H) (hD : va_D A ws) (hS : va_S A H0 H locs) (hA : ∀ q, H0.size ≤ q → A q)
    {N : Nat} {cA : ClassId} (t0 : Nat) (ht : tys[t0]? = some (cA, .object C)) (hN : N ≤ 1000) (hcells : cells + 1 ≤ R.cells) (hslots : slots + N ≤ R.slots) (hdg : decode cc pc = .ok (.anewarray index, 3))
    (kk : ∀ (q : Nat) (H1 : Heap), va_P D vwCl (ws ++ [(q, .inl (cA, N, .inr (.inr (.inr (.inr (fun _ => none))))))]) H1 → va_D A (ws ++ [(q, .inl (cA, N, .inr (.inr (.inr (.inr (fun _ => none))))))]) → va_S A H0 H1 locs →
      W p l e R s m args below meth c H1 locs (cells + 1) (slots + N) Q (F0 m (pc + 3) ls (.ref q :: rest))) : W p l e R s m args below meth c H locs cells slots Q (F0 m pc ls (.int (nI N) :: rest)) := by
  refine va_newq hexec hb hown hclink hover hK hP hD hS hA ?_ (nI_clamp (by omega)) (by omega) hcells hslots hdg (fun q cB H1 hK1 hP1 hD1 hS1 => ?_)
  · exact Int32.not_lt.mpr (nI_le (a := 0) (Nat.zero_le _) (by omega))
  · have e : cB = cA := K_cA hK1 ht
    subst e
    exact kk q H1 hP1 hD1 hS1
/-- the mark rows: an array of two rows of ten -/
theorem x_newm (hexec : p.tables.exec = Jvm.exec) (hb : c.code = cc) {own : String} {index : Nat} (hown : s.vm.findClass own = some m.cls) (hclink : (Cond.classLink own index "[[I").before args s = true) (hover : va_AOA .int s) (harr : (Cond.arrayClass .int).before args s = true) (hK : va_K D vwCl tys s) (hP : va_P D vwCl ws H) (hD : va_D A ws) (hS : va_S A H0 H locs) (hA : ∀ q, H0.size ≤ q → A q)
    {c0 c4 : ClassId} (t0 t4 : Nat) (ht0 : tys[t0]? = some (c0, .int)) (ht4 : tys[t4]? = some (c4, .array .int)) (hcells : cells + 3 ≤ R.cells) (hslots : slots + 22 ≤ R.slots) (hdg : decode cc pc = .ok (.multianewarray index 2, 4))
    (kk : ∀ (q r0 r1 : Nat) (H1 : Heap), va_P D vwCl (ws ++ [(q, .inl (c4, 2, .inr (.inr (.inr (.inr (fun s => if s = 0 then some r0 else some r1)))))), (r0, .inl (c0, 10, .inl (fun _ => nI 0))), (r1, .inl (c0, 10, .inl (fun _ => nI 0)))]) H1 → va_D A (ws ++ [(q, .inl (c4, 2, .inr (.inr (.inr (.inr (fun s => if s = 0 then some r0 else some r1)))))), (r0, .inl (c0, 10, .inl (fun _ => nI 0))), (r1, .inl (c0, 10, .inl (fun _ => nI 0)))]) → va_S A H0 H1 locs →
      W p l e R s m args below meth c H1 locs (cells + 3) (slots + 22) Q (F0 m (pc + 4) ls (.ref q :: rest))) : W p l e R s m args below meth c H locs cells slots Q (F0 m pc ls (.int (nI 10) :: .int (nI 2) :: rest)) := by
  have h0 := (hK.2 t0 _ ht0).2
  have e0 : (FieldType.array .int).toString = "[" ++ FieldType.int.toString := by decide +kernel
  have hP' : va_P D vwCl (ws ++ va_pl [] (fun _ => .inr (0, []))) H := by rw [show va_pl [] (fun _ => .inr (0, [])) = [] from rfl, List.append_nil]; exact hP
  have hD' : va_D A (ws ++ va_pl [] (fun _ => .inr (0, []))) := by rw [show va_pl [] (fun _ => .inr (0, [])) = [] from rfl, List.append_nil]; exact hD
  refine va_mna (ty := .int) (cy := c0) (N' := 2) (K' := 10) (z := (10, .inl (fun _ => nI 0))) hexec hb hown (by rw [show ("[" ++ (FieldType.array .int).toString) = "[[I" by decide +kernel]; exact hclink) hover harr (by rw [e0]; exact h0) hK hP' hD' hS hA (by decide) (by decide) (by decide) (by decide) (by decide) (by decide) (by decide) (by decide) (by decide) (by omega) (by omega) (fun c => rfl) hdg (fun q r cA H1 hr _ hK1 hP1 hD1 hS1 => ?_)
  have e : cA = c4 := K_cA hK1 ht4
  subst e
  have hne : r 0 ≠ r 1 := fun z => absurd (hr 0 1 (by decide) (by decide) z) (by decide)
  have el : va_pl ([] ++ (List.range 2).map r) (vr_up (fun _ => .inr (0, [])) ((List.range 2).map r) (.inl (c0, 10, .inl (fun _ => nI 0)))) = [(r 0, .inl (c0, 10, .inl (fun _ => nI 0))), (r 1, .inl (c0, 10, .inl (fun _ => nI 0)))] := by
    simp [va_pl, vr_up, List.range, List.range.loop]
  rw [el] at hP1 hD1
  obtain ⟨hP2, hD2⟩ := w_same (ws' := ws ++ [(q, .inl (cA, 2, .inr (.inr (.inr (.inr (fun s => if s = 0 then some (r 0) else some (r 1))))))), (r 0, .inl (c0, 10, .inl (fun _ => nI 0))), (r 1, .inl (c0, 10, .inl (fun _ => nI 0)))]) (fun k x hx => by
    rw [List.append_assoc]
    by_cases hk : k < ws.length
    · rw [List.getElem?_append_left hk] at hx ⊢
      exact ⟨x.2, hx, sameE_rf _⟩
    · rw [List.getElem?_append_right (by omega)] at hx ⊢
      generalize k - ws.length = j at hx ⊢
      match j, hx with
      | 0, hx =>
        cases hx
        exact ⟨_, rfl, Or.inr ⟨cA, 2, _, _, rfl, rfl, fun i hi => by
          rcases (show i = 0 ∨ i = 1 by omega) with rfl | rfl <;> rfl⟩⟩
      | 1, hx => cases hx; exact ⟨_, rfl, sameE_rf _⟩
      | 2, hx => cases hx; exact ⟨_, rfl, sameE_rf _⟩
      | j + 3, hx => cases hx) hP1 hD1
  exact kk q (r 0) (r 1) H1 hP2 hD2 hS1
end MyNew

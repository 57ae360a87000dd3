section
-- ===== PART A: goes FIRST, ahead of the names: the tables' words, and 'selects' of the private methods out of them =====
/-- a private method of a class that the tables say can be made, by its rows of tables_1 -/
def lw_okq (q : MethodName × Nat) : Prop := (q.1.cls ≠ "java/lang/invoke/MethodHandle" ∧ q.1.cls ≠ "java/lang/invoke/VarHandle") ∧ Cond.instantiable q.1.cls q.2 ∈ tables_1 ∧ Cond.privateMethod q.1 ∈ tables_1 ∧ Cond.instanceMethod q.1 ∈ tables_1
theorem lw_p0 : lw_okq (⟨"java/lang/Throwable", "fillInStackTrace", "(I)Ljava/lang/Throwable;"⟩, 6) := ⟨⟨by decide +kernel, by decide +kernel⟩, List.mem_of_getElem? (i := 141) (by decide +kernel), List.mem_of_getElem? (i := 139) (by decide +kernel), List.mem_of_getElem? (i := 140) (by decide +kernel)⟩
theorem lw_p1 : lw_okq (⟨"ClauseShop", "newestNumber", "(I)I"⟩, 6) := ⟨⟨by decide +kernel, by decide +kernel⟩, List.mem_of_getElem? (i := 21) (by decide +kernel), List.mem_of_getElem? (i := 176) (by decide +kernel), List.mem_of_getElem? (i := 177) (by decide +kernel)⟩
theorem lw_p2 : lw_okq (⟨"java/util/ArrayList", "add", "(Ljava/lang/Object;[Ljava/lang/Object;I)V"⟩, 3) := ⟨⟨by decide +kernel, by decide +kernel⟩, List.mem_of_getElem? (i := 31) (by decide +kernel), List.mem_of_getElem? (i := 289) (by decide +kernel), List.mem_of_getElem? (i := 290) (by decide +kernel)⟩
theorem lw_p3 : lw_okq (⟨"java/util/ArrayList", "grow", "()[Ljava/lang/Object;"⟩, 3) := ⟨⟨by decide +kernel, by decide +kernel⟩, List.mem_of_getElem? (i := 31) (by decide +kernel), List.mem_of_getElem? (i := 293) (by decide +kernel), List.mem_of_getElem? (i := 294) (by decide +kernel)⟩
theorem lw_p4 : lw_okq (⟨"java/util/ArrayList", "grow", "(I)[Ljava/lang/Object;"⟩, 3) := ⟨⟨by decide +kernel, by decide +kernel⟩, List.mem_of_getElem? (i := 31) (by decide +kernel), List.mem_of_getElem? (i := 297) (by decide +kernel), List.mem_of_getElem? (i := 298) (by decide +kernel)⟩
theorem lw_p5 : lw_okq (⟨"ClauseShop", "contractAt", "(I)LClauseShop$Contract;"⟩, 6) := ⟨⟨by decide +kernel, by decide +kernel⟩, List.mem_of_getElem? (i := 21) (by decide +kernel), List.mem_of_getElem? (i := 348) (by decide +kernel), List.mem_of_getElem? (i := 349) (by decide +kernel)⟩
theorem lw_p6 : lw_okq (⟨"ClauseShop", "hasLaterVersion", "(LClauseShop$Contract;I)Z"⟩, 6) := ⟨⟨by decide +kernel, by decide +kernel⟩, List.mem_of_getElem? (i := 21) (by decide +kernel), List.mem_of_getElem? (i := 411) (by decide +kernel), List.mem_of_getElem? (i := 412) (by decide +kernel)⟩
theorem lw_p7 : lw_okq (⟨"ClauseShop", "obstacle", "(LClauseShop$Contract;)I"⟩, 6) := ⟨⟨by decide +kernel, by decide +kernel⟩, List.mem_of_getElem? (i := 21) (by decide +kernel), List.mem_of_getElem? (i := 426) (by decide +kernel), List.mem_of_getElem? (i := 427) (by decide +kernel)⟩
theorem lw_p8 : lw_okq (⟨"ClauseShop", "makeDuties", "(LClauseShop$Contract;)I"⟩, 6) := ⟨⟨by decide +kernel, by decide +kernel⟩, List.mem_of_getElem? (i := 21) (by decide +kernel), List.mem_of_getElem? (i := 442) (by decide +kernel), List.mem_of_getElem? (i := 443) (by decide +kernel)⟩
theorem lw_p9 : lw_okq (⟨"ClauseShop", "putOffHeldUpDuties", "()V"⟩, 6) := ⟨⟨by decide +kernel, by decide +kernel⟩, List.mem_of_getElem? (i := 21) (by decide +kernel), List.mem_of_getElem? (i := 512) (by decide +kernel), List.mem_of_getElem? (i := 513) (by decide +kernel)⟩
theorem lw_p10 : lw_okq (⟨"ClauseShop", "breachUncuredDuties", "()I"⟩, 6) := ⟨⟨by decide +kernel, by decide +kernel⟩, List.mem_of_getElem? (i := 21) (by decide +kernel), List.mem_of_getElem? (i := 524) (by decide +kernel), List.mem_of_getElem? (i := 525) (by decide +kernel)⟩
theorem lw_p11 : lw_okq (⟨"ClauseShop", "dutyAt", "(I)LClauseShop$Duty;"⟩, 6) := ⟨⟨by decide +kernel, by decide +kernel⟩, List.mem_of_getElem? (i := 21) (by decide +kernel), List.mem_of_getElem? (i := 550) (by decide +kernel), List.mem_of_getElem? (i := 551) (by decide +kernel)⟩
def lw_privs_1 : List (MethodName × Nat) := [(⟨"java/lang/Throwable", "fillInStackTrace", "(I)Ljava/lang/Throwable;"⟩, 6), (⟨"ClauseShop", "newestNumber", "(I)I"⟩, 6), (⟨"java/util/ArrayList", "add", "(Ljava/lang/Object;[Ljava/lang/Object;I)V"⟩, 3), (⟨"java/util/ArrayList", "grow", "()[Ljava/lang/Object;"⟩, 3), (⟨"java/util/ArrayList", "grow", "(I)[Ljava/lang/Object;"⟩, 3), (⟨"ClauseShop", "contractAt", "(I)LClauseShop$Contract;"⟩, 6), (⟨"ClauseShop", "hasLaterVersion", "(LClauseShop$Contract;I)Z"⟩, 6), (⟨"ClauseShop", "obstacle", "(LClauseShop$Contract;)I"⟩, 6), (⟨"ClauseShop", "makeDuties", "(LClauseShop$Contract;)I"⟩, 6), (⟨"ClauseShop", "putOffHeldUpDuties", "()V"⟩, 6), (⟨"ClauseShop", "breachUncuredDuties", "()I"⟩, 6), (⟨"ClauseShop", "dutyAt", "(I)LClauseShop$Duty;"⟩, 6)]
theorem lw_r1 : ∀ q ∈ lw_privs_1, lw_okq q := List.forall_mem_cons.mpr ⟨lw_p0, List.forall_mem_cons.mpr ⟨lw_p1, List.forall_mem_cons.mpr ⟨lw_p2, List.forall_mem_cons.mpr ⟨lw_p3, List.forall_mem_cons.mpr ⟨lw_p4, List.forall_mem_cons.mpr ⟨lw_p5, List.forall_mem_cons.mpr ⟨lw_p6, List.forall_mem_cons.mpr ⟨lw_p7, List.forall_mem_cons.mpr ⟨lw_p8, List.forall_mem_cons.mpr ⟨lw_p9, List.forall_mem_cons.mpr ⟨lw_p10, List.forall_mem_cons.mpr ⟨lw_p11, fun _ h => absurd h List.not_mem_nil⟩⟩⟩⟩⟩⟩⟩⟩⟩⟩⟩⟩
def lw_privs : List (MethodName × Nat) := lw_privs_1
def lw_tbl : List Cond := k2_sels lw_privs ++ tables_1
theorem lw_privs_ok : ∀ q ∈ lw_privs, lw_okq q := lw_r1
end
section
/-- the words of an array class over an array type, whatever the arguments -/
def va_AOA (t : FieldType) (U : State) : Prop := (Cond.arrayOver (.array t)).before #[] U = true
theorem va_AOA.of {t : FieldType} {A : Array Value} {U : State} (h : (Cond.arrayOver (.array t)).before A U = true) : va_AOA t U := h
theorem va_AOA.use {t : FieldType} {A : Array Value} {U : State} (h : va_AOA t U) : (Cond.arrayOver (.array t)).before A U = true := h
end
section
/-! ===== BEGIN words of one list among another's, by their places ===== -/
theorem goodIn_r {big : List Cond} (ws : List Cond) (ps : List Nat) (hp : ws = ps.filterMap (fun i => big[i]?)) (h : ws.all goodWord = true) : GoodIn big ws := by
  intro w hw
  have h1 := List.all_eq_true.mp h w hw
  rw [hp] at hw
  obtain ⟨i, -, hi⟩ := List.mem_filterMap.mp hw
  have hm : w ∈ big := by first | exact List.mem_of_getElem? hi | exact List.getElem?_mem hi
  exact ⟨hm, good_of_word h1⟩
theorem goodIn_app {big a b : List Cond} (ha : GoodIn big a) (hb : GoodIn big b) : GoodIn big (a ++ b) := fun w h => (List.mem_append.mp h).elim (ha w) (hb w)
theorem goodIn_ca {big a b : List Cond} {c : Cond} (ha : GoodIn big (c :: a)) (hb : GoodIn big b) : GoodIn big (c :: (a ++ b)) := fun w h => (List.mem_cons.mp h).elim (fun e => ha w (List.mem_cons.mpr (Or.inl e))) (fun h => (List.mem_append.mp h).elim (fun h => ha w (List.mem_cons.mpr (Or.inr h))) (hb w))
theorem goodIn_sub {big ws : List Cond} (hm : ∀ w ∈ ws, w ∈ big) (h : ws.all goodWord = true) : GoodIn big ws := fun w hw => ⟨hm w hw, good_of_word (List.all_eq_true.mp h w hw)⟩
/-! ===== END ===== -/

/-! ===== BEGIN new T[n][m]: the outer array a place, the inner ones among the pooled ===== -/
/-- f, but v at every address of l -/
def vr_up {α : Type} (f : Nat → α) (l : List Nat) (v : α) : Nat → α := fun a => if a ∈ l then v else f a
theorem vr_up_in {α : Type} {f : Nat → α} {l : List Nat} {v : α} {a : Nat} (h : a ∈ l) : vr_up f l v a = v := if_pos h
theorem vr_up_ne {α : Type} {f : Nat → α} {l : List Nat} {v : α} {a : Nat} (h : a ∉ l) : vr_up f l v a = f a := if_neg h
theorem vr_rows {L l : List Nat} {f : Nat → va_E} {e : va_E} (h : ∀ a, a ∈ l → a ∉ L) : va_pl L f ++ l.map (fun a => (a, e)) = va_pl (L ++ l) (vr_up f l e) := by
  unfold va_pl
  rw [List.map_append]
  congr 1
  · apply List.map_congr_left
    intro a ha
    rw [vr_up_ne (fun q => h a q ha)]
  · apply List.map_congr_left
    intro a ha
    rw [vr_up_in ha]
theorem vr_lay {X rows : va_W} {x : Nat × va_E} {pl : va_W} {D : va_G} {cl : List vw_C} {H : Heap} (hP : va_P D cl (((X ++ pl) ++ [x]) ++ rows) H) : va_P D cl ((X ++ [x]) ++ (pl ++ rows)) H := by
  rw [List.append_assoc (X ++ pl)] at hP
  have h := va_P.swap hP
  rw [← List.append_assoc X] at h
  have h2 := va_P.swap h
  rw [List.append_assoc (X ++ [x])] at h2
  exact h2
theorem vr_layD {X rows : va_W} {x : Nat × va_E} {pl : va_W} {A : Nat → Prop} (hD : va_D A (((X ++ pl) ++ [x]) ++ rows)) : va_D A ((X ++ [x]) ++ (pl ++ rows)) := by
  rw [List.append_assoc (X ++ pl)] at hD
  have h := va_D.swap hD
  rw [← List.append_assoc X] at h
  have h2 := va_D.swap h
  rw [List.append_assoc (X ++ [x])] at h2
  exact h2
theorem vr_outer (c : ClassId) (N h0 : Nat) : ∀ i : Nat, Jvm.Free.Multi.outerC c N h0 i = arrV c N (fun j => va_rf (if j < i then some (h0 + 1 + j) else none))
  | 0 => by
    show ({ cls := c, slots := Array.replicate N .null, vm := .none } : Cell) = _
    rw [arrV_new]
    refine congrArg (arrV c N) (funext fun j => ?_)
    simp [va_rf]
  | i + 1 => by
    show (Jvm.Free.Multi.outerC c N h0 i).setSlot i (.ref (h0 + 1 + i)) = _
    rw [vr_outer c N h0 i, arrV_store]
    refine congrArg (arrV c N) (funext fun j => ?_)
    by_cases e : j = i
    · subst e
      simp [updV, va_rf]
    · by_cases h : j < i
      · simp [updV, e, h, Nat.lt_succ_of_lt h]
      · simp [updV, e, h, show ¬ j < i + 1 by omega]
section VGM
variable {p : Program} {l : Launch} {e : Env} {R : Room} {s : State} {m : MethodId} {args : Array Value} {below : List Frame} {meth : Method} {c : Code} {H : Heap} {locs : List Loc} {cells slots : Nat} {Q : State → Prop}
variable {cc : ByteArray} {pc : Nat} {ls : Array Slot} {rest : List Value} {D : va_G} {cl : List vw_C} {A : Nat → Prop} {a : Nat} {tys : List (ClassId × FieldType)} {ws : va_W} {H0 : Heap}
theorem va_mna {X : va_W} {L : List Nat} {f : Nat → va_E} {cc : ByteArray} (hexec : p.tables.exec = Jvm.exec) (hb : c.code = cc) {own : String} {index : Nat} {ty : FieldType} {cy : ClassId} (hown : s.vm.findClass own = some m.cls) (hclink : (Cond.classLink own index ("[" ++ (FieldType.array ty).toString)).before args s = true) (hover : va_AOA ty s) (harr : (Cond.arrayClass ty).before args s = true) (hcy : s.vm.findClass (FieldType.array ty).toString = some cy)
    (hK : va_K D cl tys s) (hP : va_P D cl (X ++ va_pl L f) H) (hD : va_D A (X ++ va_pl L f)) (hS : va_S A H0 H locs) (hA : ∀ q, H0.size ≤ q → A q) {n k : Int32} {N' K' : Nat} {z : vp_A} (hn : ¬ n < 0) (hk : ¬ k < 0) (hN : n.toNatClampNeg = N') (hM : k.toNatClampNeg = K')
    (hb1 : N' * 4 ≤ 536870912) (hb2 : K' * componentBytes ty ≤ 536870912) (hb3 : K' ≤ 536870912) (hdf : fits ty (defaultValue ty) = true) (hdd : (defaultValue ty).isDefault = true) (hcells : cells + (1 + N') ≤ R.cells) (hslots : slots + (N' + N' * K') ≤ R.slots) (hz : ∀ c : ClassId, Jvm.Free.Multi.innerC c K' (defaultValue ty) = vp_cell c z) (hdg : decode cc pc = .ok (.multianewarray index 2, 4))
    (kk : ∀ (q : Nat) (r : Nat → Nat) (cA : ClassId) (H1 : Heap), (∀ i j : Nat, i < N' → j < N' → r i = r j → i = j) → (∀ i : Nat, i < N' → r i ∉ L) → va_K D cl (tys ++ [(cA, .array ty)]) s →
      va_P D cl ((X ++ [(q, .inl (cA, N', .inr (.inr (.inr (.inr (fun i => if i < N' then some (r i) else none))))))]) ++ va_pl (L ++ (List.range N').map r) (vr_up f ((List.range N').map r) (.inl (cy, z)))) H1 → va_D A ((X ++ [(q, .inl (cA, N', .inr (.inr (.inr (.inr (fun i => if i < N' then some (r i) else none))))))]) ++ va_pl (L ++ (List.range N').map r) (vr_up f ((List.range N').map r) (.inl (cy, z)))) → va_S A H0 H1 locs →
      W p l e R s m args below meth c H1 locs (cells + 1 + N') (slots + N' + N' * K') Q (F0 m (pc + 4) ls (.ref q :: rest))) : W p l e R s m args below meth c H locs cells slots Q (F0 m pc ls (.int k :: .int n :: rest)) := by
  subst hN
  subst hM
  intro T hT Xs
  obtain ⟨vm₁, cA, comp, -, fA, fC, hO, -, X', step⟩ := Xs.multianewarray2F hexec hown hclink (va_AOA.use hover) harr (g := F0 m pc ls (.int k :: .int n :: rest)) rfl (by rw [hb]; exact hdg) rfl hn hk hb1 hb2 hb3 hdf hdd hcells hslots
  have ec : some cy = some comp := hcy.symm.trans fC
  cases ec
  generalize hF : Jvm.Free.Multi.fill (T.setVm vm₁) cA cy n.toNatClampNeg k.toNatClampNeg (defaultValue ty) n.toNatClampNeg = F at X' step
  have hTh : (T.setVm vm₁).heap = H := hT
  obtain ⟨f1, f2, -, -⟩ := Jvm.Free.Multi.fill_facts (T.setVm vm₁) cA cy n.toNatClampNeg k.toNatClampNeg (defaultValue ty) n.toNatClampNeg
  rw [hF, hTh] at f1 f2
  have hold : ∀ x : Nat, x < H.size → F.heap[x]? = H[x]? := fun x hx => by
    have := Jvm.Free.Multi.fill_old (T.setVm vm₁) cA cy n.toNatClampNeg k.toNatClampNeg (defaultValue ty) (a := x) (by rw [hTh]; exact hx) n.toNatClampNeg
    rw [hF, hTh] at this
    exact this
  have hrow : ∀ j : Nat, j < n.toNatClampNeg → F.heap[H.size + 1 + j]? = some (vp_cell cy z) := fun j hj => by
    have := Jvm.Free.Multi.fill_inner (T.setVm vm₁) cA cy n.toNatClampNeg k.toNatClampNeg (defaultValue ty) n.toNatClampNeg j hj
    rw [hF, hTh, hz] at this
    exact this
  have hout : Jvm.Free.Multi.outerC cA n.toNatClampNeg H.size n.toNatClampNeg = vp_cell cA (n.toNatClampNeg, .inr (.inr (.inr (.inr (fun i => if i < n.toNatClampNeg then some (H.size + 1 + i) else none))))) := by
    rw [vp_cell_q]
    exact vr_outer cA n.toNatClampNeg H.size n.toNatClampNeg
  rw [hout] at f2
  have hlt : ∀ a, a ∈ L → a < H.size := fun a ha => by
    obtain ⟨k9, hk9⟩ := va_pl_get (X := X) (f := f) ha
    exact (hP k9 _ hk9).lt
  have hnl : ∀ i : Nat, i < n.toNatClampNeg → H.size + 1 + i ∉ L := fun i _ h => by
    have := hlt _ h
    omega
  have hnm : ∀ a, a ∈ (List.range n.toNatClampNeg).map (fun i => H.size + 1 + i) → a ∉ L := fun a ha h => by
    obtain ⟨i, -, rfl⟩ := List.mem_map.mp ha
    have := hlt _ h
    omega
  have hP0 : va_P D cl (X ++ va_pl L f) F.heap := hP.kept (fun k9 x hx => hold x.1 ((hP k9 x hx).lt))
  have hP1 : va_P D cl ((X ++ va_pl L f) ++ [(H.size, .inl (cA, n.toNatClampNeg, .inr (.inr (.inr (.inr (fun i => if i < n.toNatClampNeg then some (H.size + 1 + i) else none))))))]) F.heap := hP0.app (fun k9 x hx => by
    have h0 : k9 < 1 := (List.getElem?_eq_some_iff.mp hx).1
    rw [show k9 = 0 by omega] at hx
    cases hx
    exact f2)
  have hP2 : va_P D cl (((X ++ va_pl L f) ++ [(H.size, .inl (cA, n.toNatClampNeg, .inr (.inr (.inr (.inr (fun i => if i < n.toNatClampNeg then some (H.size + 1 + i) else none))))))]) ++ ((List.range n.toNatClampNeg).map (fun i => H.size + 1 + i)).map (fun a => (a, .inl (cy, z)))) F.heap := hP1.app (fun k9 x hx => by
    obtain ⟨a, ha, rfl⟩ := List.mem_map.mp (List.mem_of_getElem? hx)
    obtain ⟨i, hi, rfl⟩ := List.mem_map.mp ha
    exact hrow i (List.mem_range.mp hi))
  have hD2 : va_D A (((X ++ va_pl L f) ++ [(H.size, .inl (cA, n.toNatClampNeg, .inr (.inr (.inr (.inr (fun i => if i < n.toNatClampNeg then some (H.size + 1 + i) else none))))))]) ++ ((List.range n.toNatClampNeg).map (fun i => H.size + 1 + i)).map (fun a => (a, .inl (cy, z)))) := by
    have hD1 := hD.push (e := .inl (cA, n.toNatClampNeg, .inr (.inr (.inr (.inr (fun i => if i < n.toNatClampNeg then some (H.size + 1 + i) else none)))))) hP rfl (hA _ hS.1)
    generalize hW1 : (X ++ va_pl L f) ++ [(H.size, .inl (cA, n.toNatClampNeg, .inr (.inr (.inr (.inr (fun i => if i < n.toNatClampNeg then some (H.size + 1 + i) else none))))))] = W1 at hD1 hP1 ⊢
    have hle : ∀ (k9 : Nat) (x : Nat × va_E), W1[k9]? = some x → x.1 ≤ H.size := fun k9 x hx => by
      rw [← hW1] at hx
      by_cases hl : k9 < (X ++ va_pl L f).length
      · rw [List.getElem?_append_left hl] at hx
        exact Nat.le_of_lt ((hP k9 x hx).lt)
      · rw [List.getElem?_append_right (by omega)] at hx
        have h0 : k9 - (X ++ va_pl L f).length < 1 := (List.getElem?_eq_some_iff.mp hx).1
        rw [show k9 - (X ++ va_pl L f).length = 0 by omega] at hx
        cases hx
        exact Nat.le_refl _
    have hr : ∀ (k9 : Nat) (x : Nat × va_E), (((List.range n.toNatClampNeg).map (fun i => H.size + 1 + i)).map (fun a => ((a, .inl (cy, z)) : Nat × va_E)))[k9]? = some x → x.1 = H.size + 1 + k9 := fun k9 x hx => by
      rw [List.getElem?_map, List.getElem?_map] at hx
      by_cases h9 : k9 < n.toNatClampNeg
      · rw [List.getElem?_range h9] at hx
        cases hx
        rfl
      · have hn0 : (List.range n.toNatClampNeg)[k9]? = none := List.getElem?_eq_none (by rw [List.length_range]; omega)
        rw [hn0] at hx
        cases hx
    refine ⟨fun i j x y hi hj hxy => ?_, fun k9 x hx => ?_⟩
    · by_cases h1 : i < W1.length <;> by_cases h2 : j < W1.length
      · rw [List.getElem?_append_left h1] at hi
        rw [List.getElem?_append_left h2] at hj
        exact hD1.1 i j x y hi hj hxy
      · rw [List.getElem?_append_left h1] at hi
        rw [List.getElem?_append_right (by omega)] at hj
        have := hle _ _ hi
        have := hr _ _ hj
        omega
      · rw [List.getElem?_append_right (by omega)] at hi
        rw [List.getElem?_append_left h2] at hj
        have := hle _ _ hj
        have := hr _ _ hi
        omega
      · rw [List.getElem?_append_right (by omega)] at hi hj
        have := hr _ _ hi
        have := hr _ _ hj
        omega
    · by_cases h1 : k9 < W1.length
      · rw [List.getElem?_append_left h1] at hx
        exact hD1.2 k9 x hx
      · rw [List.getElem?_append_right (by omega)] at hx
        have := hr _ _ hx
        exact hA _ (by have := hS.1; omega)
  have hAr : ArrOfT s cA (.array ty) := fun N9 z9 => by
    obtain ⟨-, k9, hk9, cm9, hkk9⟩ := (hO 0 0 0).1
    exact ⟨(fun q hq => by cases hq), k9, hk9, cm9, hkk9⟩
  have hK2 : va_K D cl (tys ++ [(cA, .array ty)]) s := ⟨hK.1, fun k9 x hx => by
    by_cases hl : k9 < tys.length
    · rw [List.getElem?_append_left hl] at hx
      exact hK.2 k9 x hx
    · rw [List.getElem?_append_right (by omega)] at hx
      have h0 : k9 - tys.length < 1 := (List.getElem?_eq_some_iff.mp hx).1
      rw [show k9 - tys.length = 0 by omega] at hx
      cases hx
      exact ⟨hAr, fA⟩⟩
  obtain ⟨t, a1, b1⟩ := kk H.size (fun i => H.size + 1 + i) cA F.heap (fun i j _ _ h => by have h9 : H.size + 1 + i = H.size + 1 + j := h; omega) hnl hK2 (by rw [← vr_rows hnm]; exact vr_lay hP2) (by rw [← vr_rows hnm]; exact vr_layD hD2) ⟨by rw [f1]; have := hS.1; omega, fun x h1 h2 => (hold x (Nat.lt_of_lt_of_le h1 hS.1)).trans (hS.2.1 x h1 h2), hS.2.2⟩ F rfl X'
  refine ⟨t, step t ?_, b1⟩
  have e : T.heap.size = H.size := by rw [hT]
  rw [e]
  exact a1
end VGM
/-! ===== END ===== -/

/-! ===== BEGIN exceptions that leave a method, and their catching by the caller (launches without stack traces) ===== -/
section VXA
/-! The laws vx_back, vx_callV, vx_callS, vx_callSW, vx_throw0, vx_throwS follow proofs of the library, with one case more: JvmDerived/Free/Laws.lean (Back.of_free), Shelf42/LK1.lean (callV, callS), Shelf/KitTraced.lean (throwNew0V, throwNewS). -/
/-- where a method has thrown q: the class by its name, the cell, what was written, the world -/
def vx_T (XC : String → State → State → Prop) (st : State) (q : Addr) (t : State) (mc ms : Nat) (free : Addr → Prop) : Prop :=
  ∃ (E : String) (ce : Cell) (L : List Loc), XC E st t ∧ t.heap[q]? = some ce ∧ ce.vm = .none ∧ st.vm.findClass E = some ce.cls ∧ st.WarmedH t.vm ∧ st.sameButNew ({ t with vm := st.vm } : State) L mc ms ∧ ∀ z ∈ L, free z.base
def vx_Q (Qc : Array Value → State → Outcome → State → Prop) (XC : String → State → State → Prop) (mc ms : Nat) (free : Addr → Prop) : Array Value → State → Outcome → State → Prop := fun a st o t =>
  (Qc a st o t ∧ ∃ L, FrameEnd st o t L mc ms ∧ ∀ q ∈ L, free q.base) ∨ ∃ q, o = .threw q ∧ vx_T XC st q t mc ms free
/-- a callee that returns or throws -/
def vx_Met (l : Launch) (y : MethodName) (ws : List Cond) (rm : Room) (Pc : Array Value → State → Prop) (Qc : Array Value → State → Outcome → State → Prop) (XC : String → State → State → Prop) (mc ms : Nat) (free : Addr → Prop) : Prop :=
  MetFree l y (headSpec ws rm) Pc (fun _ _ _ _ _ => True) (vx_Q Qc XC mc ms free)
def vx_Post (XC : String → State → State → Prop) (mc ms : Nat) (free : Addr → Prop) : Pt → Array Value → Addr → Pt → Prop := fun A a q B =>
  ∃ (g : JFrame) (mk : MethodId) (t : State) (L : List Loc) (E : String) (ce : Cell), B.U.heap = t.heap ∧ B.U.vm = t.vm ∧ XC E (A.U.calling g mk a) t ∧ t.heap[q]? = some ce ∧ ce.vm = .none ∧ A.U.vm.findClass E = some ce.cls ∧ B.locs = A.locs ++ L ∧ (∀ z ∈ L, free z.base) ∧ B.cells = A.cells + mc ∧ B.slots = A.slots + ms
def vx_Back (l : Launch) (R : Room) (p : Program) (e : Env) (below : List Frame) (s : State) (sargs : Array Value) (y : MethodName) (len W9 : Nat)
    (Pre : Pt → Array Value → Prop) (Post : Pt → Array Value → Option Value → Pt → Prop) (PostX : Pt → Array Value → Addr → Pt → Prop) : Prop :=
  ∀ (m : MethodId) (meth : Method) (c : Code) (A : Pt) (g : JFrame) (ig : Instr) (mk : MethodId) (a : Array Value),
    Stand p l e R s m sargs below meth c A.U A.locs A.cells A.slots → g.method = m → g.locals.size = c.maxLocals → decode c.code g.pc = .ok (ig, len) →
    2 * g.monitorRoom + (g.stack.map fun v => v.category).sum ≤ W9 → A.U.methodNamed? y = some mk → Pre A a →
    (∃ (v : Option Value) (B : Pt), Stand p l e R s m sargs below meth c B.U B.locs B.cells B.slots ∧ Post A a v B ∧
      Steps p.tables e below (doInvoke e (A.U.setTop g) [] mk a).1 (B.U.setTop { g with pc := g.pc + len, stack := v.toList ++ g.stack })) ∨
    (∃ (q : Addr) (B : Pt), Stand p l e R s m sargs below meth c B.U B.locs B.cells B.slots ∧ PostX A a q B ∧
      Steps p.tables e below (doInvoke e (A.U.setTop g) [] mk a).1 ((B.U.setTop g).pushFrame (.throwing q)))
section Payer
variable {l : Launch} {R : Room} {p : Program} {e : Env} {below : List Frame} {s : State} {sargs : Array Value} {y : MethodName} {len W9 : Nat}
theorem vx_back {ws : List Cond} {rm : Room} {Pc : Array Value → State → Prop} {Qc : Array Value → State → Outcome → State → Prop} {XC : String → State → State → Prop} {mc ms : Nat} {free : Addr → Prop} {bytes : ByteArray} {maxL : Nat} {ret : Option FieldType}
    (hM : vx_Met l y ws rm Pc Qc XC mc ms free) (hblind : FrameBlind Pc) (hrc : rm.cells = mc) (hrs : rm.slots = ms)
    (hframes : rm.frames + 1 ≤ R.frames) (hlocals : W9 + (maxL + 11) + rm.locals ≤ R.locals)
    (hws : ∀ w ∈ ws, ∀ a' U, s.WarmedH U.vm → w.before a' U = true) (hcode : Cond.code y bytes maxL ret ∈ ws) (hinit : ∀ a' U, s.WarmedH U.vm → (Cond.initialized y.cls).before a' U = true) :
    vx_Back l R p e below s sargs y len W9 (PreOf R mc ms Pc) (PostOf Qc mc ms free) (vx_Post XC mc ms free) := by
  intro m meth c A g ig mk a X hg hsize hdg hW hn hp
  have h1 : (headSpec ws rm).pre.before a A.U = true := atoms_intro fun w hw => hws w hw _ _ X.warmed
  have h2 : (Cond.code y bytes maxL ret).before a A.U = true := hws _ hcode _ _ X.warmed
  have h3 : (Cond.initialized y.cls).before a A.U = true := hinit _ _ X.warmed
  have h4 : A.cells + (headSpec ws rm).room.cells ≤ R.cells := by rw [show (headSpec ws rm).room.cells = mc from hrc]; exact hp.1
  have h5 : A.slots + (headSpec ws rm).room.slots ≤ R.slots := by rw [show (headSpec ws rm).room.slots = ms from hrs]; exact hp.2.1
  have hPc : Pc a (A.U.calling g mk a) := hblind _ _ _ _ hp.2.2
  obtain ⟨U, Ls, c0, s0⟩ := A
  dsimp only [Pt.U, Pt.locs, Pt.cells, Pt.slots] at h1 h2 h3 h4 h5 X hn hPc ⊢
  obtain ⟨methY, cY, hmY, hcY, -, hlY, -, -, -, -⟩ := Cond.code_spec hn h2
  obtain ⟨kY, hkY, -⟩ := className_of_methodNamed hn
  have hinitY : kY.init = .initialized := Cond.initialized_spec (findClass_of_methodNamed hn) hkY h3
  have h : At U g.method c below := by rw [hg]; exact X.here
  have hlocals9 : W9 + (maxL + 11) + (headSpec ws rm).room.locals ≤ R.locals := hlocals
  have happ : (headSpec ws rm).appliesLoose y e.platform (U.calling g mk a) = true :=
    Spec.appliesLoose_calling (g := g) h hdg hn hkY hinitY
      (X.room_calling (g := g) (R' := (headSpec ws rm).room) hsize hmY hcY hframes (by rw [hlY]; omega) h4 h5) h1
  obtain ⟨mid, hmid⟩ := h.above
  have hfr : (U.setTop g).frames = (.java g :: mid) ++ below := by rw [State.frames_setTop' g h.top, hmid]; rfl
  obtain ⟨o, s₂, hsteps, -, hend, hq⟩ := Steps.callFree hM p X.admits X.cas X.clock (acts := []) hfr happ hPc trivial
  have hq' : vx_Q Qc XC mc ms free a (U.calling g mk a) o s₂ := hq
  rw [State.frames_setTop' g h.top] at hend
  obtain ⟨g₀, hg0⟩ := Option.isSome_iff_exists.mp h.top
  obtain ⟨r, hr⟩ := State.topJava?_eq_some.mp hg0
  have hr' : (({ U with heap := s₂.heap, slotsUsed := s₂.slotsUsed } : State).setVm s₂.vm).frames = .java g₀ :: r := hr
  rcases hq' with ⟨hqc, L, hfe, hL⟩ | ⟨q, rfl, E, ce, L, hx, hce, hcv, hcl, hW₂, hsm, hL⟩
  · obtain ⟨⟨v, rfl⟩, hW₂, e2, q2, q3, q4, q5, q6⟩ := id hfe
    have e3 : s₂ = ({ (U.calling g mk a).setFrames s₂.frames with heap := s₂.heap, slotsUsed := s₂.slotsUsed } : State).setVm s₂.vm := by
      have : s₂ = ({ s₂ with vm := (U.calling g mk a).vm } : State).setVm s₂.vm := rfl
      rw [e2] at this
      exact this
    obtain ⟨c₂, i₂, len₂, hc₂, hd₂, hf₂⟩ := hend
    have hW' : U.WarmedH s₂.vm := hW₂
    have hcc : c₂ = c := by
      have h1 : s₂.code? g.method = U.code? g.method := by
        rw [State.code?_eq, State.code?_eq, hW'.alike.method?]
      exact Option.some.inj (hc₂.symm.trans (h1.trans h.code))
    subst hcc
    have hlen : len₂ = len := by rw [hdg] at hd₂; cases hd₂; rfl
    subst hlen
    have hs₂ : s₂ = (({ U with heap := s₂.heap, slotsUsed := s₂.slotsUsed } : State).setVm s₂.vm).setTop { g with pc := g.pc + len₂, stack := v.toList ++ g.stack } := by
      refine e3.trans ?_
      rw [hf₂, State.calling_eq h.top, State.setFrames_setFrames, State.setTop_of_frames _ hr', hr]
      rfl
    have hsame : U.sameButNew ({ U with heap := s₂.heap, slotsUsed := s₂.slotsUsed } : State) L mc ms := by
      refine ⟨?_, q2, q3, q4, q5, q6⟩
      obtain ⟨t, ht, -⟩ := State.frames_cons hr
      show ({ U with heap := s₂.heap, slotsUsed := s₂.slotsUsed } : State) = { U.setFrames U.frames with heap := s₂.heap, slotsUsed := s₂.slotsUsed }
      rw [State.setFrames_self ht]
    subst hg
    refine Or.inl ⟨v, ⟨(({ U with heap := s₂.heap, slotsUsed := s₂.slotsUsed } : State).setVm s₂.vm), Ls ++ L, c0 + mc, s0 + ms⟩,
      ⟨X.admits, X.cas, X.clock, X.frames, X.room, X.hears, X.method, X.code, (X.here.setHeapUsed s₂.heap s₂.slotsUsed).setVm hW'.alike, X.tail, State.WarmedH.trans X.warmed hW', X.limits, X.bytes, X.same.trans (hsame.setVm s.vm)⟩,
      ⟨g, mk, s₂, L, rfl, rfl, hqc, rfl, hL, rfl, rfl⟩, ?_⟩
    show Steps p.tables e below _ ((({ U with heap := s₂.heap, slotsUsed := s₂.slotsUsed } : State).setVm s₂.vm).setTop { g with pc := g.pc + len₂, stack := v.toList ++ g.stack })
    rw [← hs₂]
    exact hsteps
  · obtain ⟨e2, q2, q3, q4, q5, q6⟩ := id hsm
    have e3 : s₂ = ({ (U.calling g mk a).setFrames s₂.frames with heap := s₂.heap, slotsUsed := s₂.slotsUsed } : State).setVm s₂.vm := by
      have : s₂ = ({ s₂ with vm := (U.calling g mk a).vm } : State).setVm s₂.vm := rfl
      rw [e2] at this
      exact this
    have hf₂ : s₂.frames = .throwing q :: .java g :: U.frames.tail := hend
    have hW' : U.WarmedH s₂.vm := hW₂
    have hs₂ : s₂ = ((({ U with heap := s₂.heap, slotsUsed := s₂.slotsUsed } : State).setVm s₂.vm).setTop g).pushFrame (.throwing q) := by
      refine e3.trans ?_
      rw [hf₂, State.calling_eq h.top, State.setFrames_setFrames, State.pushFrame, State.frames_setTop _ hr', State.setTop_of_frames _ hr', State.setFrames_setFrames, hr]
      rfl
    have hsame : U.sameButNew ({ U with heap := s₂.heap, slotsUsed := s₂.slotsUsed } : State) L mc ms := by
      refine ⟨?_, q2, q3, q4, q5, q6⟩
      obtain ⟨t, ht, -⟩ := State.frames_cons hr
      show ({ U with heap := s₂.heap, slotsUsed := s₂.slotsUsed } : State) = { U.setFrames U.frames with heap := s₂.heap, slotsUsed := s₂.slotsUsed }
      rw [State.setFrames_self ht]
    subst hg
    refine Or.inr ⟨q, ⟨(({ U with heap := s₂.heap, slotsUsed := s₂.slotsUsed } : State).setVm s₂.vm), Ls ++ L, c0 + mc, s0 + ms⟩,
      ⟨X.admits, X.cas, X.clock, X.frames, X.room, X.hears, X.method, X.code, (X.here.setHeapUsed s₂.heap s₂.slotsUsed).setVm hW'.alike, X.tail, State.WarmedH.trans X.warmed hW', X.limits, X.bytes, X.same.trans (hsame.setVm s.vm)⟩,
      ⟨g, mk, s₂, L, E, ce, rfl, rfl, hx, hce, hcv, hcl, rfl, hL, rfl, rfl⟩, ?_⟩
    show Steps p.tables e below _ (((({ U with heap := s₂.heap, slotsUsed := s₂.slotsUsed } : State).setVm s₂.vm).setTop g).pushFrame (.throwing q))
    rw [← hs₂]
    exact hsteps
end Payer
section Calls
variable {p : Program} {l : Launch} {e : Env} {R : Room} {s : State} {m : MethodId} {args : Array Value} {below : List Frame} {meth : Method} {c : Code} {T : State} {locs : List Loc} {cells slots : Nat}
theorem vx_callV (X : Stand p l e R s m args below meth c T locs cells slots) (hexec : p.tables.exec = Jvm.exec) {own C : String} {index : Nat} {y : MethodName} {bytes : ByteArray} {maxL : Nat} {ret : Option FieldType}
    (hown : s.vm.findClass own = some m.cls) (hlink : (Cond.methodLink own index y).before args s = true) (hinst : (Cond.instanceMethod y).before args s = true) (hsel : (Cond.selects C y y).before args s = true)
    (hcode : (Cond.code y bytes maxL ret).before args s = true) (hy : y.cls ≠ "java/lang/invoke/MethodHandle" ∧ y.cls ≠ "java/lang/invoke/VarHandle")
    {W9 : Nat} {Pre : Pt → Array Value → Prop} {Post : Pt → Array Value → Option Value → Pt → Prop} {PostX : Pt → Array Value → Addr → Pt → Prop} (hK : vx_Back l R p e below s args y 3 W9 Pre Post PostX)
    {b : Addr} {cellB : Cell} (hcell : T.heap[b]? = some cellB) (hobj : cellB.vm.isStatics = false) (hcls : s.vm.findClass C = some cellB.cls)
    {g : JFrame} (hg : g.method = m) (hsize : g.locals.size = c.maxLocals) {argsL rest : List Value} (hlen : ∀ sig, parseMethodDescriptor y.desc = some sig → argsL.length = sig.parameters.length)
    (hstack : g.stack = argsL.reverse ++ .ref b :: rest) (hW : 2 * g.monitorRoom + (rest.map fun v => v.category).sum ≤ W9) (hdg : decode c.code g.pc = .ok (.invokevirtual index, 3))
    (hpre : ∀ vm₁, s.WarmedH vm₁ → Pre ⟨T.setVm vm₁, locs, cells, slots⟩ (Value.ref b :: argsL).toArray) :
    (∃ (v : Option Value) (vm₁ : Vm) (B : Pt), s.WarmedH vm₁ ∧ Stand p l e R s m args below meth c B.U B.locs B.cells B.slots ∧ Post ⟨T.setVm vm₁, locs, cells, slots⟩ (Value.ref b :: argsL).toArray v B ∧
      ∀ target, Steps p.tables e below (B.U.setTop { g with pc := g.pc + 3, stack := v.toList ++ rest }) target → Steps p.tables e below (T.setTop g) target) ∨
    (∃ (q : Addr) (vm₁ : Vm) (B : Pt), s.WarmedH vm₁ ∧ Stand p l e R s m args below meth c B.U B.locs B.cells B.slots ∧ PostX ⟨T.setVm vm₁, locs, cells, slots⟩ (Value.ref b :: argsL).toArray q B ∧
      Steps p.tables e below (T.setTop g) ((B.U.setTop { g with stack := rest }).pushFrame (.throwing q))) := by
  obtain ⟨mk, methM, hnamed, hmethM, hstM, habM⟩ := Cond.instanceMethod_spec hinst
  obtain ⟨methM', cM, hmethM', -, -, -, -, -, -, hsigM⟩ := Cond.code_spec hnamed hcode
  cases hmethM.symm.trans hmethM'
  obtain ⟨c2, r2, m2, q1, q2, q3, q4, kP, hkP, hkPi⟩ := Cond.selects_spec hsel
  cases hcls.symm.trans q1
  cases (State.methodFound?_of_named hnamed hy).symm.trans q2
  cases hnamed.symm.trans q3
  have hselP : selectMethod e.platform s.vm cellB.cls mk = .method mk := by rw [Launch.admits_selectMethod X.admits]; exact q4
  obtain ⟨vm₁, X₁, hstep₁⟩ := X.invokevirtual hexec hown hlink hnamed hmethM hstM hkP hkPi hy (a := b) (cell := cellB) hcell
    (fun z h => by rw [h] at hobj; cases hobj) hselP hmethM habM hkP hkPi (g := g) hg (argsL := argsL) (rest := rest) (hlen _ hsigM) hstack hdg
  rcases hK m meth c ⟨T.setVm vm₁, locs, cells, slots⟩ { g with stack := rest } (.invokevirtual index) mk (Value.ref b :: argsL).toArray X₁ hg hsize hdg hW (X₁.named hnamed) (hpre vm₁ X₁.warmed) with ⟨v, B, X', hpost, hsteps⟩ | ⟨q, B, X', hpost, hsteps⟩
  · exact Or.inl ⟨v, vm₁, B, X₁.warmed, X', hpost, fun target h => hstep₁ _ fun acts => by rw [doInvoke_state]; exact hsteps.trans h⟩
  · exact Or.inr ⟨q, vm₁, B, X₁.warmed, X', hpost, hstep₁ _ fun acts => by rw [doInvoke_state]; exact hsteps⟩
theorem vx_callS (X : Stand p l e R s m args below meth c T locs cells slots) (hexec : p.tables.exec = Jvm.exec) {own : String} {index : Nat} {y : MethodName} {bytes : ByteArray} {maxL : Nat} {ret : Option FieldType}
    (hown : s.vm.findClass own = some m.cls) (hlink : (Cond.methodLink own index y).before args s = true) (hstat : (Cond.static y).before args s = true) (hinit : (Cond.initialized y.cls).before args s = true)
    (hcode : (Cond.code y bytes maxL ret).before args s = true) (hy : y.cls ≠ "java/lang/invoke/MethodHandle" ∧ y.cls ≠ "java/lang/invoke/VarHandle")
    {W9 : Nat} {Pre : Pt → Array Value → Prop} {Post : Pt → Array Value → Option Value → Pt → Prop} {PostX : Pt → Array Value → Addr → Pt → Prop} (hK : vx_Back l R p e below s args y 3 W9 Pre Post PostX)
    {g : JFrame} (hg : g.method = m) (hsize : g.locals.size = c.maxLocals) {argsL rest : List Value} (hlen : ∀ sig, parseMethodDescriptor y.desc = some sig → argsL.length = sig.parameters.length)
    (hstack : g.stack = argsL.reverse ++ rest) (hW : 2 * g.monitorRoom + (rest.map fun v => v.category).sum ≤ W9) (hdg : decode c.code g.pc = .ok (.invokestatic index, 3))
    (hpre : ∀ vm₁, s.WarmedH vm₁ → Pre ⟨T.setVm vm₁, locs, cells, slots⟩ argsL.toArray) :
    (∃ (v : Option Value) (vm₁ : Vm) (B : Pt), s.WarmedH vm₁ ∧ Stand p l e R s m args below meth c B.U B.locs B.cells B.slots ∧ Post ⟨T.setVm vm₁, locs, cells, slots⟩ argsL.toArray v B ∧
      ∀ target, Steps p.tables e below (B.U.setTop { g with pc := g.pc + 3, stack := v.toList ++ rest }) target → Steps p.tables e below (T.setTop g) target) ∨
    (∃ (q : Addr) (vm₁ : Vm) (B : Pt), s.WarmedH vm₁ ∧ Stand p l e R s m args below meth c B.U B.locs B.cells B.slots ∧ PostX ⟨T.setVm vm₁, locs, cells, slots⟩ argsL.toArray q B ∧
      Steps p.tables e below (T.setTop g) ((B.U.setTop { g with stack := rest }).pushFrame (.throwing q))) := by
  obtain ⟨mk, hnamed⟩ := Cond.code_named hcode
  obtain ⟨methM, cM, hmethM, -, -, -, -, -, -, hsigM⟩ := Cond.code_spec hnamed hcode
  have hstatic : methM.isStatic = true := Cond.static_spec hnamed hmethM hstat
  obtain ⟨kP, hkP, -⟩ := className_of_methodNamed hnamed
  have hinitP : kP.init = .initialized := Cond.initialized_spec (findClass_of_methodNamed hnamed) hkP hinit
  obtain ⟨vm₁, X₁, hstep₁⟩ := X.invokestatic hexec hown hlink hnamed hmethM hstatic hkP hinitP hy (g := g) hg (argsL := argsL) (rest := rest) (hlen _ hsigM) hstack hdg
  rcases hK m meth c ⟨T.setVm vm₁, locs, cells, slots⟩ { g with stack := rest } (.invokestatic index) mk argsL.toArray X₁ hg hsize hdg hW (X₁.named hnamed) (hpre vm₁ X₁.warmed) with ⟨v, B, X', hpost, hsteps⟩ | ⟨q, B, X', hpost, hsteps⟩
  · exact Or.inl ⟨v, vm₁, B, X₁.warmed, X', hpost, fun target h => hstep₁ _ fun acts => by rw [doInvoke_state]; exact hsteps.trans h⟩
  · exact Or.inr ⟨q, vm₁, B, X₁.warmed, X', hpost, hstep₁ _ fun acts => by rw [doInvoke_state]; exact hsteps⟩
end Calls
theorem vx_cls {s : State} {T : State} {vm₁ : Vm} {E : String} {k : ClassId} (hW : s.WarmedH vm₁) (h : (T.setVm vm₁).vm.findClass E = some k) : s.vm.findClass E = some k := by
  have h1 : vm₁.findClass E = some k := h
  rw [hW.alike.findClass] at h1
  exact h1
/-- the method's frame g, with q thrown over it -/
def vx_W (p : Program) (l : Launch) (e : Env) (R : Room) (s : State) (m : MethodId) (args : Array Value) (below : List Frame) (meth : Method) (c : Code) (H : Heap) (locs : List Loc) (cells slots : Nat) (Q : State → Prop) (g : JFrame) (q : Addr) : Prop :=
  ∀ T : State, T.heap = H → Stand p l e R s m args below meth c T locs cells slots → ∃ t, Steps p.tables e below ((T.setTop g).pushFrame (.throwing q)) t ∧ Q t
def vx_Run (p : Program) (l : Launch) (e : Env) (R : Room) (s : State) (m : MethodId) (args : Array Value) (below : List Frame) (meth : Method) (c : Code) (H : Heap) (locs : List Loc) (cells slots mc ms : Nat) (g : JFrame) (rest : List Value) (Qa : State → Outcome → State → Prop) (XC : String → State → State → Prop) (free : Addr → Prop) : Prop :=
  ∀ T : State, T.heap = H → Stand p l e R s m args below meth c T locs cells slots →
    (∃ (v : Option Value) (st₀ t T' : State) (L : List Loc), st₀.heap = H ∧ Stand p l e R s m args below meth c T' (locs ++ L) (cells + mc) (slots + ms) ∧ (∀ q ∈ L, free q.base) ∧ T'.heap = t.heap ∧ T'.vm = t.vm ∧ Qa st₀ (.returned v) t ∧
      Goes p e below T g T' { g with pc := g.pc + 3, stack := v.toList ++ rest }) ∨
    (∃ (q : Addr) (st₀ t T' : State) (L : List Loc) (E : String) (ce : Cell), st₀.heap = H ∧ Stand p l e R s m args below meth c T' (locs ++ L) (cells + mc) (slots + ms) ∧ (∀ z ∈ L, free z.base) ∧ T'.heap = t.heap ∧ T'.vm = t.vm ∧ XC E st₀ t ∧ t.heap[q]? = some ce ∧ ce.vm = .none ∧ s.vm.findClass E = some ce.cls ∧
      Steps p.tables e below (T.setTop g) ((T'.setTop { g with stack := rest }).pushFrame (.throwing q)))
def vx_X {S : Type} (px : S → Prop) (B : String → S → State → Prop) (A : Nat → Prop) : String → State → State → Prop := fun E st t => ∃ u : S, px u ∧ B E u t ∧ va_F A st t
section Runs
variable {p : Program} {l : Launch} {e : Env} {R : Room} {s : State} {m : MethodId} {args : Array Value} {below : List Frame} {meth : Method} {c : Code} {H : Heap} {locs : List Loc} {cells slots : Nat}
variable {y : MethodName} {bytes cc : ByteArray} {maxL nL mc ms n index : Nat} {ret : Option FieldType} {ws : List Cond} {rm : Room} {Pc : Array Value → State → Prop} {Qc : Array Value → State → Outcome → State → Prop} {XC : String → State → State → Prop} {free : Addr → Prop} {Ts : List Cond} {own C : String} {b : Addr} {As rest : List Value} {g : JFrame}
theorem vx_callBack (cb : CallB R s args own index y bytes maxL ret ws rm mc ms n) (hM : vx_Met l y ws rm Pc Qc XC mc ms free) (hbl : FrameBlind Pc) : vx_Back l R p e below s args y 3 8 (PreOf R mc ms Pc) (PostOf Qc mc ms free) (vx_Post XC mc ms free) := by
  obtain ⟨hrc, hrs, hfr, hlo, hws, hcw, -, hini, -⟩ := cb
  exact vx_back (bytes := bytes) (maxL := maxL) (ret := ret) hM hbl hrc hrs hfr hlo hws hcw (fun a' U hW => word_at hW (Or.inl (by first | rfl | simp [Cond.onTables, Cond.keeps, Cond.steady])) hini)
theorem vx_runV (S : CallFix p m c cc nL s args Ts own) (hM : vx_Met l y ws rm Pc Qc XC mc ms free) (cw : CallW R s args own C index y bytes maxL ret ws rm mc ms n) (hp : PreV s H C b Pc As)
    (hg : g.method = m) (hn : As.length = n) (hsize : g.locals.size = nL) (hstack : g.stack = As.reverse ++ .ref b :: rest) (hW : 2 * g.monitorRoom + (rest.map fun v => v.category).sum ≤ 8) (hdg : decode cc g.pc = .ok (.invokevirtual index, 3)) (hf : cells + mc ≤ R.cells ∧ slots + ms ≤ R.slots) :
    vx_Run p l e R s m args below meth c H locs cells slots mc ms g rest (Qc (Value.ref b :: As).toArray) XC free := by
  have hK : vx_Back l R p e below s args y 3 8 (PreOf R mc ms Pc) (PostOf Qc mc ms free) (vx_Post XC mc ms free) := vx_callBack cw.1 hM hp.1
  obtain ⟨⟨-, -, -, -, -, -, hcode, -, hy, hlen, hl⟩, hin, hse⟩ := cw
  obtain ⟨hx, hb, hml, ho, -⟩ := S
  obtain ⟨-, ⟨cellB, hcB, hoB, hclB⟩, hPc⟩ := hp
  intro T hT X
  rcases vx_callV X hx (C := C) (bytes := bytes) (maxL := maxL) (ret := ret) ho hl hin hse hcode hy hK (by rw [hT]; exact hcB) hoB hclB hg (hsize.trans hml.symm) (argsL := As) (rest := rest) (fun sig h => hn.trans (hlen sig h)) hstack hW (by rw [hb]; exact hdg)
    (fun vm₁ hW₁ => ⟨hf.1, hf.2, hPc (T.setVm vm₁) hT hW₁⟩) with ⟨v, vm₁, ⟨U', l2, c2, s2⟩, hW₁, X', ⟨g', mk, t, L, e1, e2, hq, h1, hL, h2, h3⟩, st⟩ | ⟨q, vm₁, ⟨U', l2, c2, s2⟩, hW₁, X', ⟨g', mk, t, L, E, ce, e1, e2, hq, hce, hcv, hcl, h1, hL, h2, h3⟩, st⟩
  · dsimp only [Pt.U, Pt.locs, Pt.cells, Pt.slots] at X' e1 e2 h1 h2 h3 st
    subst h1; subst h2; subst h3
    exact Or.inl ⟨v, (T.setVm vm₁).calling g' mk (Value.ref b :: As).toArray, t, U', L, hT, X', hL, e1, e2, hq, st⟩
  · dsimp only [Pt.U, Pt.locs, Pt.cells, Pt.slots] at X' e1 e2 h1 h2 h3 st hcl
    subst h1; subst h2; subst h3
    exact Or.inr ⟨q, (T.setVm vm₁).calling g' mk (Value.ref b :: As).toArray, t, U', L, E, ce, hT, X', hL, e1, e2, hq, hce, hcv, vx_cls hW₁ hcl, st⟩
theorem vx_runS (S : CallFix p m c cc nL s args Ts own) (hM : vx_Met l y ws rm Pc Qc XC mc ms free) (cw : CallB R s args own index y bytes maxL ret ws rm mc ms n ∧ (Cond.static y).before args s = true) (hp : PreS s H Pc As)
    (hg : g.method = m) (hn : As.length = n) (hsize : g.locals.size = nL) (hstack : g.stack = As.reverse ++ rest) (hW : 2 * g.monitorRoom + (rest.map fun v => v.category).sum ≤ 8) (hdg : decode cc g.pc = .ok (.invokestatic index, 3)) (hf : cells + mc ≤ R.cells ∧ slots + ms ≤ R.slots) :
    vx_Run p l e R s m args below meth c H locs cells slots mc ms g rest (Qc As.toArray) XC free := by
  have hK : vx_Back l R p e below s args y 3 8 (PreOf R mc ms Pc) (PostOf Qc mc ms free) (vx_Post XC mc ms free) := vx_callBack cw.1 hM hp.1
  obtain ⟨⟨-, -, -, -, -, -, hcode, hini, hy, hlen, hl⟩, hstt⟩ := cw
  obtain ⟨hx, hb, hml, ho, -⟩ := S
  intro T hT X
  rcases vx_callS X hx (bytes := bytes) (maxL := maxL) (ret := ret) ho hl hstt hini hcode hy hK hg (hsize.trans hml.symm) (argsL := As) (rest := rest) (fun sig h => hn.trans (hlen sig h)) hstack hW (by rw [hb]; exact hdg)
    (fun vm₁ hW₁ => ⟨hf.1, hf.2, hp.2 (T.setVm vm₁) hT hW₁⟩) with ⟨v, vm₁, ⟨U', l2, c2, s2⟩, hW₁, X', ⟨g', mk, t, L, e1, e2, hq, h1, hL, h2, h3⟩, st⟩ | ⟨q, vm₁, ⟨U', l2, c2, s2⟩, hW₁, X', ⟨g', mk, t, L, E, ce, e1, e2, hq, hce, hcv, hcl, h1, hL, h2, h3⟩, st⟩
  · dsimp only [Pt.U, Pt.locs, Pt.cells, Pt.slots] at X' e1 e2 h1 h2 h3 st
    subst h1; subst h2; subst h3
    exact Or.inl ⟨v, (T.setVm vm₁).calling g' mk As.toArray, t, U', L, hT, X', hL, e1, e2, hq, st⟩
  · dsimp only [Pt.U, Pt.locs, Pt.cells, Pt.slots] at X' e1 e2 h1 h2 h3 st hcl
    subst h1; subst h2; subst h3
    exact Or.inr ⟨q, (T.setVm vm₁).calling g' mk As.toArray, t, U', L, E, ce, hT, X', hL, e1, e2, hq, hce, hcv, vx_cls hW₁ hcl, st⟩
end Runs
section Rows
variable {p : Program} {l : Launch} {e : Env} {R : Room} {s : State} {m : MethodId} {args : Array Value} {below : List Frame} {meth : Method} {c : Code} {H : Heap} {locs : List Loc} {cells slots : Nat} {Q : State → Prop}
variable {mc ms : Nat} {free : Addr → Prop} {A0 A1 : Nat → Prop} {H0 : Heap} {a : Array Value} {pc : Nat} {ls : Array Slot} {st0 rest : List Value}
theorem vx_keep {st₀ t T' : State} {L : List Loc} (h0 : st₀.heap = H) (e1 : T'.heap = t.heap) (hS : va_S A0 H0 H locs) (hA : ∀ q, q < H.size → A1 q → A0 q) (hf : ∀ q, free q → A0 q) (hL : ∀ q ∈ L, free q.base) (hF : va_F A1 st₀ t) :
    H.size ≤ T'.heap.size ∧ (∀ q : Nat, q < H.size → ¬ A1 q → T'.heap[q]? = H[q]?) ∧ va_S A0 H0 T'.heap (locs ++ L) := by
  obtain ⟨hz, hk⟩ := hF
  rw [h0] at hz hk
  exact ⟨by rw [e1]; exact hz, fun q h1 h2 => by rw [e1]; exact hk q h1 h2,
    ⟨Nat.le_trans hS.1 (by rw [e1]; exact hz), fun q h1 h2 => by rw [e1, hk q (Nat.lt_of_lt_of_le h1 hS.1) (fun z => h2 (hA q (Nat.lt_of_lt_of_le h1 hS.1) z))]; exact hS.2.1 q h1 h2, fun q hq => by
      rcases List.mem_append.mp hq with h | h
      · exact hS.2.2 q h
      · exact hf _ (hL q h)⟩⟩
theorem vx_calli {S SX : Type} {post : Int32 → S → Prop} {px : SX → Prop} {B : S → State → Prop} {BX : String → SX → State → Prop} {AX : Nat → Prop} (hr : vx_Run p l e R s m args below meth c H locs cells slots mc ms (F0 m pc ls st0) rest (va_Qi post B A1 a) (vx_X px BX AX) free) (hS : va_S A0 H0 H locs) (hA : ∀ q, q < H.size → A1 q → A0 q) (hf : ∀ q, free q → A0 q) (hAX : ∀ q, q < H.size → AX q → A0 q)
    (kx : ∀ (E : String) (ce : Cell) (q9 : Addr) (u : SX) (t : State) (H1 : Heap) (locs1 : List Loc), t.heap = H1 → s.vm.Alike t.vm → px u → BX E u t → H.size ≤ H1.size → (∀ q : Nat, q < H.size → ¬ AX q → H1[q]? = H[q]?) → va_S A0 H0 H1 locs1 → H1[q9]? = some ce → ce.vm = .none → s.vm.findClass E = some ce.cls → vx_W p l e R s m args below meth c H1 locs1 (cells + mc) (slots + ms) Q (F0 m pc ls rest) q9)
    (kk : ∀ (r : Int32) (u : S) (t : State) (H1 : Heap) (locs1 : List Loc), t.heap = H1 → s.vm.Alike t.vm → post r u → B u t → H.size ≤ H1.size → (∀ q : Nat, q < H.size → ¬ A1 q → H1[q]? = H[q]?) → va_S A0 H0 H1 locs1 → W p l e R s m args below meth c H1 locs1 (cells + mc) (slots + ms) Q (F0 m (pc + 3) ls (.int r :: rest))) : W p l e R s m args below meth c H locs cells slots Q (F0 m pc ls st0) := by
  intro T hT X
  rcases hr T hT X with ⟨v, st₀, t, T', L, h0, X', hL, e1, e2, ⟨⟨r, u, hv, hp, hb⟩, hF⟩, st⟩ | ⟨q, st₀, t, T', L, E, ce, h0, X', hL, e1, e2, ⟨u, hp, hb, hF⟩, hce, hcv, hcl, st⟩
  · cases hv
    obtain ⟨k1, k2, k3⟩ := vx_keep h0 e1 hS hA hf hL hF
    obtain ⟨t2, a1, b1⟩ := kk r u t T'.heap (locs ++ L) e1.symm (by rw [← e2]; exact X'.warmed.alike) hp hb k1 k2 k3 T' rfl X'
    exact ⟨t2, st t2 a1, b1⟩
  · obtain ⟨k1, k2, k3⟩ := vx_keep h0 e1 hS hAX hf hL hF
    obtain ⟨t2, a1, b1⟩ := kx E ce q u t T'.heap (locs ++ L) e1.symm (by rw [← e2]; exact X'.warmed.alike) hp hb k1 k2 k3 (by rw [e1]; exact hce) hcv hcl T' rfl X'
    exact ⟨t2, st.trans a1, b1⟩
theorem vx_calll {S SX : Type} {post : Int64 → S → Prop} {px : SX → Prop} {B : S → State → Prop} {BX : String → SX → State → Prop} {AX : Nat → Prop} (hr : vx_Run p l e R s m args below meth c H locs cells slots mc ms (F0 m pc ls st0) rest (va_Ql post B A1 a) (vx_X px BX AX) free) (hS : va_S A0 H0 H locs) (hA : ∀ q, q < H.size → A1 q → A0 q) (hf : ∀ q, free q → A0 q) (hAX : ∀ q, q < H.size → AX q → A0 q)
    (kx : ∀ (E : String) (ce : Cell) (q9 : Addr) (u : SX) (t : State) (H1 : Heap) (locs1 : List Loc), t.heap = H1 → s.vm.Alike t.vm → px u → BX E u t → H.size ≤ H1.size → (∀ q : Nat, q < H.size → ¬ AX q → H1[q]? = H[q]?) → va_S A0 H0 H1 locs1 → H1[q9]? = some ce → ce.vm = .none → s.vm.findClass E = some ce.cls → vx_W p l e R s m args below meth c H1 locs1 (cells + mc) (slots + ms) Q (F0 m pc ls rest) q9)
    (kk : ∀ (r : Int64) (u : S) (t : State) (H1 : Heap) (locs1 : List Loc), t.heap = H1 → s.vm.Alike t.vm → post r u → B u t → H.size ≤ H1.size → (∀ q : Nat, q < H.size → ¬ A1 q → H1[q]? = H[q]?) → va_S A0 H0 H1 locs1 → W p l e R s m args below meth c H1 locs1 (cells + mc) (slots + ms) Q (F0 m (pc + 3) ls (.long r :: rest))) : W p l e R s m args below meth c H locs cells slots Q (F0 m pc ls st0) := by
  intro T hT X
  rcases hr T hT X with ⟨v, st₀, t, T', L, h0, X', hL, e1, e2, ⟨⟨r, u, hv, hp, hb⟩, hF⟩, st⟩ | ⟨q, st₀, t, T', L, E, ce, h0, X', hL, e1, e2, ⟨u, hp, hb, hF⟩, hce, hcv, hcl, st⟩
  · cases hv
    obtain ⟨k1, k2, k3⟩ := vx_keep h0 e1 hS hA hf hL hF
    obtain ⟨t2, a1, b1⟩ := kk r u t T'.heap (locs ++ L) e1.symm (by rw [← e2]; exact X'.warmed.alike) hp hb k1 k2 k3 T' rfl X'
    exact ⟨t2, st t2 a1, b1⟩
  · obtain ⟨k1, k2, k3⟩ := vx_keep h0 e1 hS hAX hf hL hF
    obtain ⟨t2, a1, b1⟩ := kx E ce q u t T'.heap (locs ++ L) e1.symm (by rw [← e2]; exact X'.warmed.alike) hp hb k1 k2 k3 (by rw [e1]; exact hce) hcv hcl T' rfl X'
    exact ⟨t2, st.trans a1, b1⟩
theorem vx_callf {S SX : Type} {post : UInt32 → S → Prop} {px : SX → Prop} {B : S → State → Prop} {BX : String → SX → State → Prop} {AX : Nat → Prop} (hr : vx_Run p l e R s m args below meth c H locs cells slots mc ms (F0 m pc ls st0) rest (va_Qf post B A1 a) (vx_X px BX AX) free) (hS : va_S A0 H0 H locs) (hA : ∀ q, q < H.size → A1 q → A0 q) (hf : ∀ q, free q → A0 q) (hAX : ∀ q, q < H.size → AX q → A0 q)
    (kx : ∀ (E : String) (ce : Cell) (q9 : Addr) (u : SX) (t : State) (H1 : Heap) (locs1 : List Loc), t.heap = H1 → s.vm.Alike t.vm → px u → BX E u t → H.size ≤ H1.size → (∀ q : Nat, q < H.size → ¬ AX q → H1[q]? = H[q]?) → va_S A0 H0 H1 locs1 → H1[q9]? = some ce → ce.vm = .none → s.vm.findClass E = some ce.cls → vx_W p l e R s m args below meth c H1 locs1 (cells + mc) (slots + ms) Q (F0 m pc ls rest) q9)
    (kk : ∀ (r : UInt32) (u : S) (t : State) (H1 : Heap) (locs1 : List Loc), t.heap = H1 → s.vm.Alike t.vm → post r u → B u t → H.size ≤ H1.size → (∀ q : Nat, q < H.size → ¬ A1 q → H1[q]? = H[q]?) → va_S A0 H0 H1 locs1 → W p l e R s m args below meth c H1 locs1 (cells + mc) (slots + ms) Q (F0 m (pc + 3) ls (.float r :: rest))) : W p l e R s m args below meth c H locs cells slots Q (F0 m pc ls st0) := by
  intro T hT X
  rcases hr T hT X with ⟨v, st₀, t, T', L, h0, X', hL, e1, e2, ⟨⟨r, u, hv, hp, hb⟩, hF⟩, st⟩ | ⟨q, st₀, t, T', L, E, ce, h0, X', hL, e1, e2, ⟨u, hp, hb, hF⟩, hce, hcv, hcl, st⟩
  · cases hv
    obtain ⟨k1, k2, k3⟩ := vx_keep h0 e1 hS hA hf hL hF
    obtain ⟨t2, a1, b1⟩ := kk r u t T'.heap (locs ++ L) e1.symm (by rw [← e2]; exact X'.warmed.alike) hp hb k1 k2 k3 T' rfl X'
    exact ⟨t2, st t2 a1, b1⟩
  · obtain ⟨k1, k2, k3⟩ := vx_keep h0 e1 hS hAX hf hL hF
    obtain ⟨t2, a1, b1⟩ := kx E ce q u t T'.heap (locs ++ L) e1.symm (by rw [← e2]; exact X'.warmed.alike) hp hb k1 k2 k3 (by rw [e1]; exact hce) hcv hcl T' rfl X'
    exact ⟨t2, st.trans a1, b1⟩
theorem vx_calld {S SX : Type} {post : UInt64 → S → Prop} {px : SX → Prop} {B : S → State → Prop} {BX : String → SX → State → Prop} {AX : Nat → Prop} (hr : vx_Run p l e R s m args below meth c H locs cells slots mc ms (F0 m pc ls st0) rest (va_Qd post B A1 a) (vx_X px BX AX) free) (hS : va_S A0 H0 H locs) (hA : ∀ q, q < H.size → A1 q → A0 q) (hf : ∀ q, free q → A0 q) (hAX : ∀ q, q < H.size → AX q → A0 q)
    (kx : ∀ (E : String) (ce : Cell) (q9 : Addr) (u : SX) (t : State) (H1 : Heap) (locs1 : List Loc), t.heap = H1 → s.vm.Alike t.vm → px u → BX E u t → H.size ≤ H1.size → (∀ q : Nat, q < H.size → ¬ AX q → H1[q]? = H[q]?) → va_S A0 H0 H1 locs1 → H1[q9]? = some ce → ce.vm = .none → s.vm.findClass E = some ce.cls → vx_W p l e R s m args below meth c H1 locs1 (cells + mc) (slots + ms) Q (F0 m pc ls rest) q9)
    (kk : ∀ (r : UInt64) (u : S) (t : State) (H1 : Heap) (locs1 : List Loc), t.heap = H1 → s.vm.Alike t.vm → post r u → B u t → H.size ≤ H1.size → (∀ q : Nat, q < H.size → ¬ A1 q → H1[q]? = H[q]?) → va_S A0 H0 H1 locs1 → W p l e R s m args below meth c H1 locs1 (cells + mc) (slots + ms) Q (F0 m (pc + 3) ls (.double r :: rest))) : W p l e R s m args below meth c H locs cells slots Q (F0 m pc ls st0) := by
  intro T hT X
  rcases hr T hT X with ⟨v, st₀, t, T', L, h0, X', hL, e1, e2, ⟨⟨r, u, hv, hp, hb⟩, hF⟩, st⟩ | ⟨q, st₀, t, T', L, E, ce, h0, X', hL, e1, e2, ⟨u, hp, hb, hF⟩, hce, hcv, hcl, st⟩
  · cases hv
    obtain ⟨k1, k2, k3⟩ := vx_keep h0 e1 hS hA hf hL hF
    obtain ⟨t2, a1, b1⟩ := kk r u t T'.heap (locs ++ L) e1.symm (by rw [← e2]; exact X'.warmed.alike) hp hb k1 k2 k3 T' rfl X'
    exact ⟨t2, st t2 a1, b1⟩
  · obtain ⟨k1, k2, k3⟩ := vx_keep h0 e1 hS hAX hf hL hF
    obtain ⟨t2, a1, b1⟩ := kx E ce q u t T'.heap (locs ++ L) e1.symm (by rw [← e2]; exact X'.warmed.alike) hp hb k1 k2 k3 (by rw [e1]; exact hce) hcv hcl T' rfl X'
    exact ⟨t2, st.trans a1, b1⟩
theorem vx_callv {S SX : Type} {post : S → Prop} {px : SX → Prop} {B : S → State → Prop} {BX : String → SX → State → Prop} {AX : Nat → Prop} (hr : vx_Run p l e R s m args below meth c H locs cells slots mc ms (F0 m pc ls st0) rest (va_Qv post B A1 a) (vx_X px BX AX) free) (hS : va_S A0 H0 H locs) (hA : ∀ q, q < H.size → A1 q → A0 q) (hf : ∀ q, free q → A0 q) (hAX : ∀ q, q < H.size → AX q → A0 q)
    (kx : ∀ (E : String) (ce : Cell) (q9 : Addr) (u : SX) (t : State) (H1 : Heap) (locs1 : List Loc), t.heap = H1 → s.vm.Alike t.vm → px u → BX E u t → H.size ≤ H1.size → (∀ q : Nat, q < H.size → ¬ AX q → H1[q]? = H[q]?) → va_S A0 H0 H1 locs1 → H1[q9]? = some ce → ce.vm = .none → s.vm.findClass E = some ce.cls → vx_W p l e R s m args below meth c H1 locs1 (cells + mc) (slots + ms) Q (F0 m pc ls rest) q9)
    (kk : ∀ (u : S) (t : State) (H1 : Heap) (locs1 : List Loc), t.heap = H1 → s.vm.Alike t.vm → post u → B u t → H.size ≤ H1.size → (∀ q : Nat, q < H.size → ¬ A1 q → H1[q]? = H[q]?) → va_S A0 H0 H1 locs1 → W p l e R s m args below meth c H1 locs1 (cells + mc) (slots + ms) Q (F0 m (pc + 3) ls (rest))) : W p l e R s m args below meth c H locs cells slots Q (F0 m pc ls st0) := by
  intro T hT X
  rcases hr T hT X with ⟨v, st₀, t, T', L, h0, X', hL, e1, e2, ⟨⟨u, hv, hp, hb⟩, hF⟩, st⟩ | ⟨q, st₀, t, T', L, E, ce, h0, X', hL, e1, e2, ⟨u, hp, hb, hF⟩, hce, hcv, hcl, st⟩
  · cases hv
    obtain ⟨k1, k2, k3⟩ := vx_keep h0 e1 hS hA hf hL hF
    obtain ⟨t2, a1, b1⟩ := kk u t T'.heap (locs ++ L) e1.symm (by rw [← e2]; exact X'.warmed.alike) hp hb k1 k2 k3 T' rfl X'
    exact ⟨t2, st t2 a1, b1⟩
  · obtain ⟨k1, k2, k3⟩ := vx_keep h0 e1 hS hAX hf hL hF
    obtain ⟨t2, a1, b1⟩ := kx E ce q u t T'.heap (locs ++ L) e1.symm (by rw [← e2]; exact X'.warmed.alike) hp hb k1 k2 k3 (by rw [e1]; exact hce) hcv hcl T' rfl X'
    exact ⟨t2, st.trans a1, b1⟩
/-- caught by the row x of this method's table; the rows ahead don't take it -/
theorem vx_catch {own name : String} {E : String} {ce : Cell} {q : Addr} (hown : s.vm.findClass own = some m.cls) (pre : List ExceptionTableEntry) (x : ExceptionTableEntry) (suf : List ExceptionTableEntry) (hsplit : c.exceptionTable.toList = pre ++ x :: suf)
    (hpass : ∀ z ∈ pre, covers z pc = false ∨ (z.catchType ≠ 0 ∧ ∃ nm : String, (Cond.classLink own z.catchType nm).before args s = true ∧ va_Nc E nm s)) (hx : covers x pc = true) (h0 : x.catchType ≠ 0)
    (hlink : (Cond.classLink own x.catchType name).before args s = true) (hcast : (Cond.castable E name).before args s = true) (hcell : H[q]? = some ce) (hv : ce.vm = .none) (hcl : s.vm.findClass E = some ce.cls)
    (kk : W p l e R s m args below meth c H locs cells slots Q (F0 m x.handlerPc ls [.ref q])) : vx_W p l e R s m args below meth c H locs cells slots Q (F0 m pc ls rest) q := by
  intro T hT X
  have hpl : e.platform.magicAccessors = ({} : Platform).magicAccessors := by rw [X.admits.platform]
  obtain ⟨c3, c4, hc3, hc4, hasg⟩ := Cond.castable_spec hcast
  cases Option.some.inj (hc3.symm.trans hcl)
  obtain ⟨c5, hc5, hcl5⟩ := Cond.classLink_spec hown hlink e.platform hpl
  cases Option.some.inj (hc4.symm.trans hc5)
  obtain ⟨vm', X', st⟩ := X.thenCaughtThrough q (g := F0 m pc ls rest) rfl (Steps.refl _) (by rw [hT]; exact hcell) (by rw [hv]; rfl) (by obtain ⟨k9, h9, -⟩ := Vm.findClass_spec hcl; exact ⟨k9, h9⟩) pre x suf hsplit
    (fun z hz => by
      rcases hpass z hz with h | ⟨hz0, nm, hl1, hn1⟩
      · exact Or.inl h
      · obtain ⟨c6, hc6, hcl6⟩ := Cond.classLink_spec hown hl1 e.platform hpl
        obtain ⟨a8, b8, h1, h2, h3⟩ := hn1
        cases Option.some.inj (h1.symm.trans hcl)
        cases Option.some.inj (h2.symm.trans hc6)
        exact Or.inr ⟨hz0, _, hcl6, h3⟩) hx (Or.inr ⟨h0, c4, hcl5, hasg⟩)
  obtain ⟨t, a1, b1⟩ := kk (T.setVm vm') hT X'
  exact ⟨t, st.trans a1, b1⟩
end Rows
section Ends
variable {p : Program} {l : Launch} {e : Env} {R : Room} {s : State} {m : MethodId} {args : Array Value} {below : List Frame} {meth : Method} {c : Code} {H : Heap} {locs : List Loc} {cells slots : Nat} {Q : State → Prop}
variable {mc ms : Nat} {free : Addr → Prop} {A0 A1 : Nat → Prop} {H0 : Heap} {a : Array Value} {ls : Array Slot} {st0 rest : List Value}
variable {Qc : Array Value → State → Outcome → State → Prop} {XC : String → State → State → Prop}
/-- what a body that may throw owes at its end -/
def vx_MQ (below : List Frame) (Qc : Array Value → State → Outcome → State → Prop) (XC : String → State → State → Prop) (a : Array Value) (s : State) (mc ms : Nat) (free : Addr → Prop) : State → Prop := fun t =>
  ∃ o, t.status = .running ∧ Ended t below o ∧ vx_Q Qc XC mc ms free a s o t
theorem vx_ret {g : JFrame} {mc ms : Nat} (k : W p l e R s m args below meth c H locs cells slots (MQ below Qc args s mc ms free) g) : W p l e R s m args below meth c H locs cells slots (vx_MQ below Qc XC args s mc ms free) g := by
  intro T hT X
  obtain ⟨t, a1, o, b1, b2, b3, b4⟩ := k T hT X
  exact ⟨t, a1, o, b1, b2, Or.inl ⟨b3, b4⟩⟩
/-- not caught here: it goes on to the caller -/
theorem vx_widen {g : JFrame} {q : Addr} {k n : Nat} (h1 : cells ≤ k) (h2 : slots ≤ n) (kk : vx_W p l e R s m args below meth c H locs k n Q g q) : vx_W p l e R s m args below meth c H locs cells slots Q g q := fun T hT X => kk T hT (stand_widen X h1 h2)
theorem vx_out {pc : Nat} {E : String} {ce : Cell} {q : Addr} {mc ms : Nat} (hout : ∀ x ∈ c.exceptionTable.toList, covers x pc = false) (hlocks : meth.locks = false) (hcell : H[q]? = some ce) (hv : ce.vm = .none) (hcl : s.vm.findClass E = some ce.cls)
    (hx : ∀ t : State, t.heap = H → s.vm.Alike t.vm → XC E s t) (hf : ∀ z ∈ locs, free z.base) (hc : cells ≤ mc) (hs : slots ≤ ms) :
    vx_W p l e R s m args below meth c H locs cells slots (vx_MQ below Qc XC args s mc ms free) (F0 m pc ls rest) q := by
  intro T hT X
  obtain ⟨st1, hrun, hend, hW, hsm⟩ := X.leaveThrown q (g := F0 m pc ls rest) rfl rfl rfl hout hlocks
  have hcell9 : (T.setFrames (.throwing q :: below)).heap[q]? = some ce := by
    show T.heap[q]? = some ce
    rw [hT]; exact hcell
  exact ⟨_, st1, .threw q, hrun, hend, Or.inr ⟨q, rfl, E, ce, locs, hx _ hT hW.alike, hcell9, hv, hcl, hW, hsm.mono hc hs, hf⟩⟩
theorem vx_frame {U : State} {k n : Nat} (h : s.sameButNew ({ U with vm := s.vm } : State) locs k n) : s.heap.size ≤ U.heap.size ∧ ∀ q : Nat, q < s.heap.size → (∀ z ∈ locs, z.base ≠ q) → U.heap[q]? = s.heap[q]? := by
  obtain ⟨-, h2, -, -, -, h6⟩ := h
  refine ⟨h2, fun q hq hz => ?_⟩
  obtain ⟨c9, e1, e2, e3, e4⟩ := h6 q _ (Array.getElem?_eq_getElem hq)
  have hs : c9.slots = (s.heap[q]).slots := Array.ext_getElem? fun i => e4 i fun hm => hz _ hm rfl
  have h9 : c9 = s.heap[q] := by
    rw [hs] at e2
    exact e2
  have e5 : U.heap[q]? = some c9 := e1
  rw [e5, h9, Array.getElem?_eq_getElem hq]
/-- the words of a throw but the four that speak of the heap -/
def vx_no (w : Cond) : Bool := decide (w ≠ .isRef (.static Bundle.tN "UNASSIGNED_STACK" Bundle.steD)) && decide (w ≠ .isRef (.static Bundle.tN "SUPPRESSED_SENTINEL" Bundle.listD)) && decide (w ≠ .laysStatic Bundle.tN "UNASSIGNED_STACK" Bundle.steD) && decide (w ≠ .laysStatic Bundle.tN "SUPPRESSED_SENTINEL" Bundle.listD)
def vx_at0 (own : String) (ic : Nat) (X : String) (names : List String) : List Cond := (Bundle.ownAtoms0 own ic X names).filter vx_no
def vx_atS (own : String) (ic : Nat) (X : String) (names : List String) : List Cond := (Bundle.ownAtoms own ic X names).filter vx_no
/-- a word that the tables alone decide, or a good one -/
def vx_ot (w : Cond) : Bool := w.onTables || goodWord w
theorem vx_ot_at {args a' : Array Value} {s U : State} {w : Cond} (hW : s.WarmedH U.vm) (hvm : s.vm = U.vm) (hg : vx_ot w = true) (h : w.before args s = true) : w.before a' U = true := by
  simp only [vx_ot, Bool.or_eq_true] at hg
  rcases hg with hg | hg
  · exact va_tabs hg hvm h
  · exact word_at hW (good_of_word hg) h
/-- a list's words: the good ones out of the method's own list, the others by premises of their own -/
theorem vx_hat {args : Array Value} {s : State} {L B : List Cond} (h1 : ∀ w ∈ L.filter goodWord, w.before args s = true) (h2 : ∀ w ∈ L.filter (fun w => !goodWord w), w ∈ B) (h3 : ∀ w ∈ B, w.before args s = true) : ∀ w ∈ L, w.before args s = true := by
  intro w hw
  by_cases g : goodWord w = true
  · exact h1 w (List.mem_filter.mpr ⟨hw, g⟩)
  · refine h3 w (h2 w (List.mem_filter.mpr ⟨hw, ?_⟩))
    show (!goodWord w) = true
    cases hgw : goodWord w
    · rfl
    · exact absurd hgw g
theorem vx_c {args : Array Value} {s : State} {w : Cond} {B : List Cond} (h : w.before args s = true) (t : ∀ w ∈ B, w.before args s = true) : ∀ w' ∈ w :: B, w'.before args s = true := fun w' h' => (List.mem_cons.mp h').elim (fun e => by rw [e]; exact h) (t w')
theorem vx_n {args : Array Value} {s : State} : ∀ w ∈ ([] : List Cond), w.before args s = true := fun _ h => nomatch h
theorem vx_own {args : Array Value} {s : State} {L : List Cond} (h1 : ∀ w ∈ L.filter vx_no, w.before args s = true)
    (hU : (Cond.isRef (.static Bundle.tN "UNASSIGNED_STACK" Bundle.steD)).before args s = true) (hN : (Cond.isRef (.static Bundle.tN "SUPPRESSED_SENTINEL" Bundle.listD)).before args s = true)
    (lU : (Cond.laysStatic Bundle.tN "UNASSIGNED_STACK" Bundle.steD).before args s = true) (lN : (Cond.laysStatic Bundle.tN "SUPPRESSED_SENTINEL" Bundle.listD).before args s = true) : ∀ w ∈ L, w.before args s = true := by
  intro w hw
  by_cases e1 : w = .isRef (.static Bundle.tN "UNASSIGNED_STACK" Bundle.steD)
  · rw [e1]; exact hU
  · by_cases e2 : w = .isRef (.static Bundle.tN "SUPPRESSED_SENTINEL" Bundle.listD)
    · rw [e2]; exact hN
    · by_cases e3 : w = .laysStatic Bundle.tN "UNASSIGNED_STACK" Bundle.steD
      · rw [e3]; exact lU
      · by_cases e4 : w = .laysStatic Bundle.tN "SUPPRESSED_SENTINEL" Bundle.listD
        · rw [e4]; exact lN
        · exact h1 w (List.mem_filter.mpr ⟨hw, by unfold vx_no; rw [decide_eq_true e1, decide_eq_true e2, decide_eq_true e3, decide_eq_true e4]; rfl⟩)
/-- where a static field lies, its class's statics cell in H -/
def vx_L (C n d : String) (A : Nat → Prop) (U : State) (H : Heap) : Prop := ∃ (c : ClassId) (k : Class) (i : Nat) (f : Field) (a : Nat) (cell : Cell), U.vm.findClass C = some c ∧ U.fieldFound? C n d = some (c, k, i, f) ∧ f.isStatic = true ∧ k.statics = some a ∧ H[a]? = some cell ∧ cell.vm.isStatics = true ∧ cell.cls = c ∧ f.slot < cell.slots.size ∧ k.staticTypes[f.slot]? = some f.type ∧ ¬ A a
theorem vx_L.moved {C n d : String} {A : Nat → Prop} {u U : State} {H : Heap} (hvm : u.vm.Alike U.vm) (h : vx_L C n d A u H) : vx_L C n d A U H := by
  obtain ⟨c, k, i, f, a, cell, h1, h2, h3, h4, h5, h6, h7, h8, h9, h10⟩ := h
  obtain ⟨k', hi', he⟩ := State.fieldFound?_setVm hvm h2
  exact ⟨c, k', i, f, a, cell, by rw [hvm.findClass]; exact h1, hi', h3, by rw [he]; exact h4, h5, h6, h7, h8, by rw [he]; exact h9, h10⟩
theorem vx_L.kept {C n d : String} {A : Nat → Prop} {U : State} {H H1 : Heap} (h : vx_L C n d A U H) (hq : ∀ a : Nat, a < H.size → ¬ A a → H1[a]? = H[a]?) : vx_L C n d A U H1 := by
  obtain ⟨c, k, i, f, a, cell, h1, h2, h3, h4, h5, h6, h7, h8, h9, h10⟩ := h
  exact ⟨c, k, i, f, a, cell, h1, h2, h3, h4, by rw [hq a (Array.getElem?_eq_some_iff.mp h5).1 h10]; exact h5, h6, h7, h8, h9, h10⟩
theorem vx_L.narrow {C n d : String} {A B : Nat → Prop} {U : State} {H : Heap} (h : vx_L C n d A U H) (hAB : ∀ q, B q → A q) : vx_L C n d B U H := by
  obtain ⟨c, k, i, f, a, cell, h1, h2, h3, h4, h5, h6, h7, h8, h9, h10⟩ := h
  exact ⟨c, k, i, f, a, cell, h1, h2, h3, h4, h5, h6, h7, h8, h9, fun z => h10 (hAB _ z)⟩
theorem vx_L.word {C n d : String} {A : Nat → Prop} {s : State} {args : Array Value} (h : vx_L C n d A s s.heap) : (Cond.laysStatic C n d).before args s = true := by
  obtain ⟨c, k, i, f, a, cell, h1, h2, h3, h4, h5, h6, h7, h8, h9, -⟩ := h
  show (Cond.laysStatic C n d).holds args s none s [] = true
  exact Cond.laysStatic_of h1 h2 h3 h4 h5 h6 h7 h8 h9
/-- .. and what it holds: null or some reference -/
def vx_Zq (C n d : String) (A : Nat → Prop) (U : State) (H : Heap) : Prop := va_Zq C n d A U H ∧ vx_L C n d A U H
theorem vx_Zq.moved {C n d : String} {A : Nat → Prop} {u U : State} {H : Heap} (hvm : u.vm.Alike U.vm) (h : vx_Zq C n d A u H) : vx_Zq C n d A U H := ⟨va_Zq.moved hvm h.1, vx_L.moved hvm h.2⟩
theorem vx_Zq.kept {C n d : String} {A : Nat → Prop} {U : State} {H H1 : Heap} (h : vx_Zq C n d A U H) (hq : ∀ a : Nat, a < H.size → ¬ A a → H1[a]? = H[a]?) : vx_Zq C n d A U H1 := ⟨va_Zq.kept h.1 hq, vx_L.kept h.2 hq⟩
theorem vx_Zq.narrow {C n d : String} {A B : Nat → Prop} {U : State} {H : Heap} (h : vx_Zq C n d A U H) (hAB : ∀ q, B q → A q) : vx_Zq C n d B U H := ⟨va_Zq.narrow h.1 hAB, vx_L.narrow h.2 hAB⟩
theorem vx_Zqof {args : Array Value} {s : State} {C n d : String} {A : Nat → Prop} (hl : (Cond.laysStatic C n d).before args s = true) (hini : (Cond.initialized C).before args s = true) (h : (Cond.isRef (.static C n d)).before args s = true) (hA : ∀ a : Nat, a < s.heap.size → ¬ A a) : vx_Zq C n d A s s.heap := by
  refine ⟨va_Zqof hl hini h hA, ?_⟩
  obtain ⟨c, k, i, f, a, cell, h1, h2, h3, h4, h5, h6, h7, h8, h9⟩ := Cond.laysStatic_spec hl
  exact ⟨c, k, i, f, a, cell, h1, h2, h3, h4, h5, h6, h7, h8, h9, hA a (Array.getElem?_eq_some_iff.mp h5).1⟩
theorem vx_isRef {C n d : String} {v : Value} {A : Nat → Prop} {s : State} {args : Array Value} (h : va_Z C n d v A s s.heap) (hv : v.isRef = true) : (Cond.isRef (.static C n d)).before args s = true := by
  obtain ⟨cf, kf, fi, f, a, cell, h1, h2, h3, h4, h5, h6, h7, -⟩ := h
  have he : (Term.static C n d).eval args s none [] s = some v := by
    simp [Term.eval, State.fieldNamed?, h1, h2, h4, h5, h6, h7]
  simp only [Cond.before, Cond.holds, Cond.value, he]
  cases v <;> simp_all [Value.isRef]
theorem vx_isRefq {C n d : String} {A : Nat → Prop} {s : State} {args : Array Value} (h : va_Zq C n d A s s.heap) : (Cond.isRef (.static C n d)).before args s = true := by
  rcases h with h | ⟨t, h⟩
  · exact vx_isRef h rfl
  · exact vx_isRef h rfl
/-- the same frame, seen from here: as if the method were called anew in this heap -/
theorem vx_rebase {T : State} (X : Stand p l e R s m args below meth c T locs cells slots) {R' : Room} (hf : R'.frames ≤ R.frames) (hl : R'.locals ≤ R.locals) (hc : cells + R'.cells ≤ R.cells) (hs : slots + R'.slots ≤ R.slots) :
    Stand p l e R' ((T.setVm s.vm).setFrames (.invoking m args :: below)) m args below meth c T [] 0 0 := by
  have htop : (T.setVm s.vm).topJava?.isSome := X.here.top
  have hF : ((T.setVm s.vm).setFrames (.invoking m args :: below)).frames = .invoking m args :: below := State.frames_setFrames _ (State.cur_lt_of_top htop)
  obtain ⟨g₀, hg0⟩ := Option.isSome_iff_exists.mp htop
  obtain ⟨r, hr⟩ := State.topJava?_eq_some.mp hg0
  have hl9 : e.platform.stackLimits (T.setVm s.vm).me = e.platform.stackLimits s.me := X.limits
  have hb9 : (T.setVm s.vm).me.stackBytes = s.me.stackBytes := X.bytes
  refine ⟨X.admits, X.cas, X.clock, hF, ?_, X.hears, X.method, X.code, X.here, X.tail, X.warmed, ?_, ?_, ?_⟩
  · have h := X.room
    have hU : ((T.setVm s.vm).setFrames (.invoking m args :: below)).localsInUse = s.localsInUse := by
      rw [State.localsInUse_invoking hF (meth := meth) (c := c) X.method X.code, State.localsInUse_invoking X.frames X.method X.code]
    simp only [State.hasRoom, Bool.and_eq_true, decide_eq_true_eq] at h ⊢
    obtain ⟨⟨⟨⟨h1, h2, h3, h4, h5, h6⟩, h7⟩, h8⟩, h9⟩ := h
    rw [X.frames, List.length_cons] at h2 h3
    have q1 := X.heapSize
    have q2 := X.used
    simp only [hF, hU, List.length_cons, State.stackLimits_setFrames, State.stackBytes_setFrames, hl9, hb9]
    refine ⟨⟨⟨⟨by omega, by omega, by omega, by omega, by omega, h6⟩, ?_⟩, ?_⟩, X.book⟩
    · show T.heap.size + R'.cells ≤ e.platform.maxCells
      omega
    · show T.slotsUsed + R'.slots ≤ e.platform.maxSlots
      omega
  · rw [State.stackLimits_setFrames]; rfl
  · rw [State.stackBytes_setFrames]; rfl
  · refine ⟨?_, Nat.le_refl _, Nat.le_refl _, ?_, ?_, fun a c9 h9 => ⟨c9, h9, rfl, rfl, fun _ _ => rfl⟩⟩
    · obtain ⟨t, ht, -⟩ := State.frames_cons hr
      show T.setVm s.vm = { ((T.setVm s.vm).setFrames (.invoking m args :: below)).setFrames (T.setVm s.vm).frames with heap := T.heap, slotsUsed := T.slotsUsed }
      rw [State.setFrames_setFrames, State.setFrames_self ht]
      rfl
    · show T.slotsUsed = T.slotsUsed + ((T.heap.toList.drop T.heap.size).map (·.slots.size)).sum
      rw [List.drop_eq_nil_of_le (Nat.le_of_eq Array.length_toList)]
      rfl
    · show ((T.heap.toList.drop T.heap.size).map (·.slots.size)).sum ≤ 0
      rw [List.drop_eq_nil_of_le (Nat.le_of_eq Array.length_toList)]
      exact Nat.le_refl _
/-- 'throw new E()': new; dup; invokespecial; athrow -/
theorem vx_throw0 {cc : ByteArray} {pc : Nat} (hexec : p.tables.exec = Jvm.exec) (hb : c.code = cc) (hl : l.stackTraces = false) {own cls : String} {names : List String} {ik ic mc ms : Nat} {A : Nat → Prop}
    (hown : s.vm.findClass own = some m.cls) (hcls : Bundle.fit cls = true) (hnames : ∀ n ∈ names, Bundle.fit n = true)
    (hk : (Cond.classLink own ik cls).before args s = true) (hini : (Cond.initialized cls).before args s = true) (hat : ∀ w ∈ vx_at0 own ic cls names, w.before args s = true)
    (hgood : ∀ w ∈ Cond.classLink own ik cls :: Cond.initialized cls :: vx_at0 own ic cls names, vx_ot w = true)
    (hU : vx_Zq Bundle.tN "UNASSIGNED_STACK" Bundle.steD A s s.heap) (hN : vx_Zq Bundle.tN "SUPPRESSED_SENTINEL" Bundle.listD A s s.heap) (hS : va_S A s.heap H locs) (hsize : ls.size = c.maxLocals)
    (d0 : decode cc pc = .ok (.new ik, 3)) (d3 : decode cc (pc + 3) = .ok (.dup, 1)) (d4 : decode cc (pc + 4) = .ok (.invokespecial ic, 3)) (d7 : decode cc (pc + 7) = .ok (.athrow, 1))
    (hout : ∀ x ∈ c.exceptionTable.toList, covers x (pc + 7) = false)
    (hRframes : names.length + 3 < R.frames) (hRlocals : (rest.map fun v => v.category).sum + (13 * (names.length + 1) + 42) ≤ R.locals) (hRcells : cells + 1 ≤ R.cells) (hRslots : slots + 6 ≤ R.slots) (hlocks : meth.locks = false)
    (hx : ∀ t : State, s.vm.Alike t.vm → H.size ≤ t.heap.size → (∀ q : Nat, q < H.size → t.heap[q]? = H[q]?) → XC cls s t)
    (hf : ∀ z ∈ locs, free z.base) (hc : cells + 1 ≤ mc) (hs : slots + 6 ≤ ms) :
    W p l e R s m args below meth c H locs cells slots (vx_MQ below Qc XC args s mc ms free) (F0 m pc ls rest) := by
  intro T hT X
  have htr : e.platform.stackTraces = false := (show e.platform.stackTraces = l.stackTraces by rw [X.admits.platform]).trans hl
  have Y := vx_rebase X (R' := { frames := R.frames, locals := R.locals, cells := 1, slots := 6 }) (Nat.le_refl _) (Nat.le_refl _) hRcells hRslots
  obtain ⟨s', hA⟩ : ∃ z, z = (T.setVm s.vm).setFrames (.invoking m args :: below) := ⟨_, rfl⟩
  rw [← hA] at Y
  have hvm : s'.vm = s.vm := by rw [hA]; rfl
  have hhp : s'.heap = H := by rw [hA]; exact hT
  have hW0 : s.WarmedH s'.vm := by rw [hvm]; exact State.WarmedH.refl s
  have hat' : ∀ w ∈ vx_at0 own ic cls names, w.before args s' = true := fun w hw => vx_ot_at hW0 hvm.symm (hgood w (List.mem_cons_of_mem _ (List.mem_cons_of_mem _ hw))) (hat w hw)
  have hk' : (Cond.classLink own ik cls).before args s' = true := vx_ot_at hW0 hvm.symm (hgood _ List.mem_cons_self) hk
  have hini' : (Cond.initialized cls).before args s' = true := vx_ot_at hW0 hvm.symm (hgood _ (List.mem_cons_of_mem _ List.mem_cons_self)) hini
  have hU' : vx_Zq Bundle.tN "UNASSIGNED_STACK" Bundle.steD A s' s'.heap := by rw [hhp]; exact vx_Zq.moved hW0.alike (hU.kept hS.2.1)
  have hN' : vx_Zq Bundle.tN "SUPPRESSED_SENTINEL" Bundle.listD A s' s'.heap := by rw [hhp]; exact vx_Zq.moved hW0.alike (hN.kept hS.2.1)
  have h : ∀ w ∈ Bundle.ownAtoms0 own ic cls names, w.before args s' = true := vx_own hat' (vx_isRefq hU'.1) (vx_isRefq hN'.1) hU'.2.word hN'.2.word
  have hown' : s'.vm.findClass own = some m.cls := by rw [hvm]; exact hown
  have hins : (Cond.instantiable cls 6).before args s' = true := h _ (by simp [Bundle.ownAtoms0])
  obtain ⟨vm₁, cX, kX, hfX, hkX, -, -, X₁, st1⟩ := Y.newCold hexec (own := own) (C := cls) (index := ik) (n := 6) hown' hk' hins hini'
    (g := F0 m pc ls rest) rfl (by rw [hb]; exact d0) (Nat.le_refl _) (Nat.le_refl _)
  generalize hT1 : (T.setVm vm₁).pushCell { cls := cX, slots := kX.instanceTypes.map defaultValue, vm := .none } = T1 at X₁ st1
  have hcat : (Value.ref T.heap.size).category = 1 := rfl
  have hcellA : T1.heap[T.heap.size]? = some (freshCell cX kX) := by rw [← hT1]; exact State.heap_pushCell_size _ _
  have d3' : decode c.code (pc + 3) = .ok (.dup, 1) := by rw [hb]; exact d3
  obtain ⟨U, hsteps, hrun, hend, hW, hsame, ce, hce, hO⟩ := X₁.ctorThrow0 hexec htr (own := own) (cls := cls) (names := names) (ic := ic) hown' hcls hnames h (fun x hx => nomatch hx) hfX hkX hcellA (by rw [hhp, hT]; exact Nat.le_refl _)
    (g := { method := m, pc := pc + 4, locals := ls, stack := .ref T.heap.size :: .ref T.heap.size :: rest, locked := none }) rfl hsize rfl rfl (rest := rest) rfl
    (by rw [hb]; exact d4) (by rw [hb]; exact d7) hout hRframes (by simp only [List.map_cons, List.sum_cons, hcat]; omega) hlocks
  obtain ⟨f1, f2⟩ := vx_frame hsame
  rw [hhp] at f1 f2
  have hWs : s.WarmedH U.vm := State.WarmedH.trans hW0 hW
  have hcl : s.vm.findClass cls = some ce.cls := by
    have h9 := hO.cls
    rw [hvm] at h9
    exact h9
  have hall : s.sameButNew ({ U with vm := s.vm } : State) locs mc ms := by
    subst hA
    obtain ⟨e1, e2⟩ := hsame
    rw [State.setFrames_setFrames] at e1
    have h2 : (T.setVm s.vm).sameButNew ({ U with vm := s.vm } : State) [] (0 + 1) (0 + 6) := ⟨e1, e2⟩
    have h3 := X.same.trans h2
    rw [List.append_nil] at h3
    exact h3.mono hc hs
  refine ⟨U, ?_, .threw T.heap.size, hrun, hend, Or.inr ⟨T.heap.size, rfl, cls, ce, locs, hx U hWs.alike f1 (fun q hq => f2 q hq (fun z hz => nomatch hz)), hce, hO.vm, hcl, hWs, hall, hf⟩⟩
  refine st1 _ ?_
  show Steps p.tables e below (T1.setTop { method := m, pc := pc + 3, locals := ls, stack := .ref T.heap.size :: rest, locked := none }) _
  jvm_step X₁.here [X₁.here.top, hexec, d3', Value.category]
  exact hsteps
/-- 'throw new E("text")': new; dup; ldc; invokespecial; athrow -/
theorem vx_throwS {cc : ByteArray} {pc : Nat} (hexec : p.tables.exec = Jvm.exec) (hb : c.code = cc) (hl : l.stackTraces = false) {own cls text : String} {names : List String} {ik is ic mc ms sa : Nat} {A : Nat → Prop}
    (hown : s.vm.findClass own = some m.cls) (hcls : Bundle.fit cls = true) (hnames : ∀ n ∈ names, Bundle.fit n = true)
    (hk : (Cond.classLink own ik cls).before args s = true) (hini : (Cond.initialized cls).before args s = true) (hstr : vk_R own is text sa s) (hat : ∀ w ∈ vx_atS own ic cls names, w.before args s = true)
    (hgood : ∀ w ∈ Cond.classLink own ik cls :: Cond.initialized cls :: vx_atS own ic cls names, vx_ot w = true)
    (hU : vx_Zq Bundle.tN "UNASSIGNED_STACK" Bundle.steD A s s.heap) (hN : vx_Zq Bundle.tN "SUPPRESSED_SENTINEL" Bundle.listD A s s.heap) (hS : va_S A s.heap H locs) (hsize : ls.size = c.maxLocals)
    (d0 : decode cc pc = .ok (.new ik, 3)) (d3 : decode cc (pc + 3) = .ok (.dup, 1)) (d4 : decode cc (pc + 4) = .ok (.ldc is, 2)) (d6 : decode cc (pc + 6) = .ok (.invokespecial ic, 3)) (d9 : decode cc (pc + 9) = .ok (.athrow, 1))
    (hout : ∀ x ∈ c.exceptionTable.toList, covers x (pc + 9) = false)
    (hRframes : names.length + 3 < R.frames) (hRlocals : (rest.map fun v => v.category).sum + (13 * (names.length + 1) + 43) ≤ R.locals) (hRcells : cells + 1 ≤ R.cells) (hRslots : slots + 6 ≤ R.slots) (hlocks : meth.locks = false)
    (hx : ∀ t : State, s.vm.Alike t.vm → H.size ≤ t.heap.size → (∀ q : Nat, q < H.size → t.heap[q]? = H[q]?) → XC cls s t)
    (hf : ∀ z ∈ locs, free z.base) (hc : cells + 1 ≤ mc) (hs : slots + 6 ≤ ms) :
    W p l e R s m args below meth c H locs cells slots (vx_MQ below Qc XC args s mc ms free) (F0 m pc ls rest) := by
  intro T hT X
  have htr : e.platform.stackTraces = false := (show e.platform.stackTraces = l.stackTraces by rw [X.admits.platform]).trans hl
  have Y := vx_rebase X (R' := { frames := R.frames, locals := R.locals, cells := 1, slots := 6 }) (Nat.le_refl _) (Nat.le_refl _) hRcells hRslots
  obtain ⟨s', hA⟩ : ∃ z, z = (T.setVm s.vm).setFrames (.invoking m args :: below) := ⟨_, rfl⟩
  rw [← hA] at Y
  have hvm : s'.vm = s.vm := by rw [hA]; rfl
  have hhp : s'.heap = H := by rw [hA]; exact hT
  have hW0 : s.WarmedH s'.vm := by rw [hvm]; exact State.WarmedH.refl s
  have hat' : ∀ w ∈ vx_atS own ic cls names, w.before args s' = true := fun w hw => vx_ot_at hW0 hvm.symm (hgood w (List.mem_cons_of_mem _ (List.mem_cons_of_mem _ hw))) (hat w hw)
  have hk' : (Cond.classLink own ik cls).before args s' = true := vx_ot_at hW0 hvm.symm (hgood _ List.mem_cons_self) hk
  have hini' : (Cond.initialized cls).before args s' = true := vx_ot_at hW0 hvm.symm (hgood _ (List.mem_cons_of_mem _ List.mem_cons_self)) hini
  have hU' : vx_Zq Bundle.tN "UNASSIGNED_STACK" Bundle.steD A s' s'.heap := by rw [hhp]; exact vx_Zq.moved hW0.alike (hU.kept hS.2.1)
  have hN' : vx_Zq Bundle.tN "SUPPRESSED_SENTINEL" Bundle.listD A s' s'.heap := by rw [hhp]; exact vx_Zq.moved hW0.alike (hN.kept hS.2.1)
  have h : ∀ w ∈ Bundle.ownAtoms own ic cls names, w.before args s' = true := vx_own hat' (vx_isRefq hU'.1) (vx_isRefq hN'.1) hU'.2.word hN'.2.word
  have hown' : s'.vm.findClass own = some m.cls := by rw [hvm]; exact hown
  have hins : (Cond.instantiable cls 6).before args s' = true := h _ (by simp [Bundle.ownAtoms])
  obtain ⟨vm₁, cX, kX, hfX, hkX, -, -, X₁, st1⟩ := Y.newCold hexec (own := own) (C := cls) (index := ik) (n := 6) hown' hk' hins hini'
    (g := F0 m pc ls rest) rfl (by rw [hb]; exact d0) (Nat.le_refl _) (Nat.le_refl _)
  generalize hT1 : (T.setVm vm₁).pushCell { cls := cX, slots := kX.instanceTypes.map defaultValue, vm := .none } = T1 at X₁ st1
  have hcat : (Value.ref T.heap.size).category = 1 := rfl
  have hcellA : T1.heap[T.heap.size]? = some (freshCell cX kX) := by rw [← hT1]; exact State.heap_pushCell_size _ _
  have d3' : decode c.code (pc + 3) = .ok (.dup, 1) := by rw [hb]; exact d3
  have d4' : decode c.code (pc + 4) = .ok (.ldc is, 2) := by rw [hb]; exact d4
  have hstr' : vk_R own is text sa s' := vk_R.warm hW0 hstr
  obtain ⟨U, hsteps, hrun, hend, hW, hsame, ce, hce, hO⟩ := X₁.ctorThrowS hexec htr (own := own) (cls := cls) (names := names) (ic := ic) hown' hcls hnames h (fun x hx => nomatch hx) hfX hkX hcellA (by rw [hhp, hT]; exact Nat.le_refl _) (msg := .ref sa) rfl
    (g := { method := m, pc := pc + 6, locals := ls, stack := .ref sa :: .ref T.heap.size :: .ref T.heap.size :: rest, locked := none }) rfl hsize rfl rfl (rest := rest) rfl
    (by rw [hb]; exact d6) (by rw [hb]; exact d9) hout hRframes (by simp only [List.map_cons, List.sum_cons, hcat]; omega) hlocks
  obtain ⟨f1, f2⟩ := vx_frame hsame
  rw [hhp] at f1 f2
  have hWs : s.WarmedH U.vm := State.WarmedH.trans hW0 hW
  have hcl : s.vm.findClass cls = some ce.cls := by
    have h9 := hO.cls
    rw [hvm] at h9
    exact h9
  have hall : s.sameButNew ({ U with vm := s.vm } : State) locs mc ms := by
    subst hA
    obtain ⟨e1, e2⟩ := hsame
    rw [State.setFrames_setFrames] at e1
    have h2 : (T.setVm s.vm).sameButNew ({ U with vm := s.vm } : State) [] (0 + 1) (0 + 6) := ⟨e1, e2⟩
    have h3 := X.same.trans h2
    rw [List.append_nil] at h3
    exact h3.mono hc hs
  refine ⟨U, ?_, .threw T.heap.size, hrun, hend, Or.inr ⟨T.heap.size, rfl, cls, ce, locs, hx U hWs.alike f1 (fun q hq => f2 q hq (fun z hz => nomatch hz)), hce, hO.vm, hcl, hWs, hall, hf⟩⟩
  refine st1 _ ?_
  show Steps p.tables e below (T1.setTop { method := m, pc := pc + 3, locals := ls, stack := .ref T.heap.size :: rest, locked := none }) _
  jvm_step X₁.here [X₁.here.top, hexec, d3', Value.category]
  exact X₁.ldcString hexec (own := own) (text := text) (index := is) (a := sa) hown' hstr'.1 hstr'.2
    (g := { method := m, pc := pc + 4, locals := ls, stack := .ref T.heap.size :: .ref T.heap.size :: rest, locked := none }) rfl d4' _ hsteps
/-- 'throw new E("text")', the text by a wide index -/
theorem vx_throwSW {cc : ByteArray} {pc : Nat} (hexec : p.tables.exec = Jvm.exec) (hb : c.code = cc) (hl : l.stackTraces = false) {own cls text : String} {names : List String} {ik is ic mc ms sa : Nat} {A : Nat → Prop}
    (hown : s.vm.findClass own = some m.cls) (hcls : Bundle.fit cls = true) (hnames : ∀ n ∈ names, Bundle.fit n = true)
    (hk : (Cond.classLink own ik cls).before args s = true) (hini : (Cond.initialized cls).before args s = true) (hstr : vk_R own is text sa s) (hat : ∀ w ∈ vx_atS own ic cls names, w.before args s = true)
    (hgood : ∀ w ∈ Cond.classLink own ik cls :: Cond.initialized cls :: vx_atS own ic cls names, vx_ot w = true)
    (hU : vx_Zq Bundle.tN "UNASSIGNED_STACK" Bundle.steD A s s.heap) (hN : vx_Zq Bundle.tN "SUPPRESSED_SENTINEL" Bundle.listD A s s.heap) (hS : va_S A s.heap H locs) (hsize : ls.size = c.maxLocals)
    (d0 : decode cc pc = .ok (.new ik, 3)) (d3 : decode cc (pc + 3) = .ok (.dup, 1)) (d4 : decode cc (pc + 4) = .ok (.ldc_w is, 3)) (d7 : decode cc (pc + 7) = .ok (.invokespecial ic, 3)) (d10 : decode cc (pc + 10) = .ok (.athrow, 1))
    (hout : ∀ x ∈ c.exceptionTable.toList, covers x (pc + 10) = false)
    (hRframes : names.length + 3 < R.frames) (hRlocals : (rest.map fun v => v.category).sum + (13 * (names.length + 1) + 43) ≤ R.locals) (hRcells : cells + 1 ≤ R.cells) (hRslots : slots + 6 ≤ R.slots) (hlocks : meth.locks = false)
    (hx : ∀ t : State, s.vm.Alike t.vm → H.size ≤ t.heap.size → (∀ q : Nat, q < H.size → t.heap[q]? = H[q]?) → XC cls s t)
    (hf : ∀ z ∈ locs, free z.base) (hc : cells + 1 ≤ mc) (hs : slots + 6 ≤ ms) :
    W p l e R s m args below meth c H locs cells slots (vx_MQ below Qc XC args s mc ms free) (F0 m pc ls rest) := by
  intro T hT X
  have htr : e.platform.stackTraces = false := (show e.platform.stackTraces = l.stackTraces by rw [X.admits.platform]).trans hl
  have Y := vx_rebase X (R' := { frames := R.frames, locals := R.locals, cells := 1, slots := 6 }) (Nat.le_refl _) (Nat.le_refl _) hRcells hRslots
  obtain ⟨s', hA⟩ : ∃ z, z = (T.setVm s.vm).setFrames (.invoking m args :: below) := ⟨_, rfl⟩
  rw [← hA] at Y
  have hvm : s'.vm = s.vm := by rw [hA]; rfl
  have hhp : s'.heap = H := by rw [hA]; exact hT
  have hW0 : s.WarmedH s'.vm := by rw [hvm]; exact State.WarmedH.refl s
  have hat' : ∀ w ∈ vx_atS own ic cls names, w.before args s' = true := fun w hw => vx_ot_at hW0 hvm.symm (hgood w (List.mem_cons_of_mem _ (List.mem_cons_of_mem _ hw))) (hat w hw)
  have hk' : (Cond.classLink own ik cls).before args s' = true := vx_ot_at hW0 hvm.symm (hgood _ List.mem_cons_self) hk
  have hini' : (Cond.initialized cls).before args s' = true := vx_ot_at hW0 hvm.symm (hgood _ (List.mem_cons_of_mem _ List.mem_cons_self)) hini
  have hU' : vx_Zq Bundle.tN "UNASSIGNED_STACK" Bundle.steD A s' s'.heap := by rw [hhp]; exact vx_Zq.moved hW0.alike (hU.kept hS.2.1)
  have hN' : vx_Zq Bundle.tN "SUPPRESSED_SENTINEL" Bundle.listD A s' s'.heap := by rw [hhp]; exact vx_Zq.moved hW0.alike (hN.kept hS.2.1)
  have h : ∀ w ∈ Bundle.ownAtoms own ic cls names, w.before args s' = true := vx_own hat' (vx_isRefq hU'.1) (vx_isRefq hN'.1) hU'.2.word hN'.2.word
  have hown' : s'.vm.findClass own = some m.cls := by rw [hvm]; exact hown
  have hins : (Cond.instantiable cls 6).before args s' = true := h _ (by simp [Bundle.ownAtoms])
  obtain ⟨vm₁, cX, kX, hfX, hkX, -, -, X₁, st1⟩ := Y.newCold hexec (own := own) (C := cls) (index := ik) (n := 6) hown' hk' hins hini'
    (g := F0 m pc ls rest) rfl (by rw [hb]; exact d0) (Nat.le_refl _) (Nat.le_refl _)
  generalize hT1 : (T.setVm vm₁).pushCell { cls := cX, slots := kX.instanceTypes.map defaultValue, vm := .none } = T1 at X₁ st1
  have hcat : (Value.ref T.heap.size).category = 1 := rfl
  have hcellA : T1.heap[T.heap.size]? = some (freshCell cX kX) := by rw [← hT1]; exact State.heap_pushCell_size _ _
  have d3' : decode c.code (pc + 3) = .ok (.dup, 1) := by rw [hb]; exact d3
  have d4' : decode c.code (pc + 4) = .ok (.ldc_w is, 3) := by rw [hb]; exact d4
  have hstr' : vk_R own is text sa s' := vk_R.warm hW0 hstr
  obtain ⟨U, hsteps, hrun, hend, hW, hsame, ce, hce, hO⟩ := X₁.ctorThrowS hexec htr (own := own) (cls := cls) (names := names) (ic := ic) hown' hcls hnames h (fun x hx => nomatch hx) hfX hkX hcellA (by rw [hhp, hT]; exact Nat.le_refl _) (msg := .ref sa) rfl
    (g := { method := m, pc := pc + 7, locals := ls, stack := .ref sa :: .ref T.heap.size :: .ref T.heap.size :: rest, locked := none }) rfl hsize rfl rfl (rest := rest) rfl
    (by rw [hb]; exact d7) (by rw [hb]; exact d10) hout hRframes (by simp only [List.map_cons, List.sum_cons, hcat]; omega) hlocks
  obtain ⟨f1, f2⟩ := vx_frame hsame
  rw [hhp] at f1 f2
  have hWs : s.WarmedH U.vm := State.WarmedH.trans hW0 hW
  have hcl : s.vm.findClass cls = some ce.cls := by
    have h9 := hO.cls
    rw [hvm] at h9
    exact h9
  have hall : s.sameButNew ({ U with vm := s.vm } : State) locs mc ms := by
    subst hA
    obtain ⟨e1, e2⟩ := hsame
    rw [State.setFrames_setFrames] at e1
    have h2 : (T.setVm s.vm).sameButNew ({ U with vm := s.vm } : State) [] (0 + 1) (0 + 6) := ⟨e1, e2⟩
    have h3 := X.same.trans h2
    rw [List.append_nil] at h3
    exact h3.mono hc hs
  refine ⟨U, ?_, .threw T.heap.size, hrun, hend, Or.inr ⟨T.heap.size, rfl, cls, ce, locs, hx U hWs.alike f1 (fun q hq => f2 q hq (fun z hz => nomatch hz)), hce, hO.vm, hcl, hWs, hall, hf⟩⟩
  refine st1 _ ?_
  show Steps p.tables e below (T1.setTop { method := m, pc := pc + 3, locals := ls, stack := .ref T.heap.size :: rest, locked := none }) _
  jvm_step X₁.here [X₁.here.top, hexec, d3', Value.category]
  exact X₁.ldcStringW hexec (own := own) (text := text) (index := is) (a := sa) hown' hstr'.1 hstr'.2
    (g := { method := m, pc := pc + 4, locals := ls, stack := .ref T.heap.size :: .ref T.heap.size :: rest, locked := none }) rfl d4' _ hsteps
end Ends
section Bodies
variable {l : Launch}
theorem vx_ofW {y : MethodName} {ws ws' : List Cond} {rm : Room} {Pc : Array Value → State → Prop} {Qc : Array Value → State → Outcome → State → Prop} {XC : String → State → State → Prop} {mc ms : Nat} {free : Addr → Prop} {cc : ByteArray} {maxL : Nat} {ret : Option FieldType}
    (hy : plainName y.cls = true) (hw : ws = Cond.code y cc maxL ret :: ws')
    (body : ∀ p e s m args below meth c s₁, BodyLoose p l y (headSpec ws rm) cc maxL ret e s m args below meth c s₁ → c.maxLocals = maxL → (∀ x ∈ c.exceptionTable.toList, False) → Pc args s →
      W p l e (headSpec ws rm).room s m args below meth c s.heap [] 0 0 (vx_MQ below Qc XC args s mc ms free) (entryFrame m args maxL)) : vx_Met l y ws rm Pc Qc XC mc ms free := by
  refine MetFree.of_bodyS (code := cc) (maxLocals := maxL) (ret := ret) hy ?_ ?_
  · intro args s m h hn
    obtain ⟨meth, c, h1, h2, h3, h4, h5, h6, -, -⟩ := Cond.code_spec hn (atoms_spec (ws := ws) h _ (by rw [hw]; exact List.mem_cons_self))
    exact ⟨meth, c, h1, h2, h3, h4, h5, h6⟩
  · intro p e s m args below meth c s₁ B hml hP _
    have hh0 : s₁.heap = s.heap := by rw [B.state]; rfl
    have ht : ∀ x ∈ c.exceptionTable.toList, False := by
      obtain ⟨meth9, c9, h1, h2, -, -, -, -, h7, -⟩ := Cond.code_spec B.named (atoms_spec (ws := ws) B.pre _ (by rw [hw]; exact List.mem_cons_self))
      cases Option.some.inj (h1.symm.trans B.method)
      cases Option.some.inj (h2.symm.trans (Stand.of_body B).code)
      intro x hx
      rw [Array.isEmpty_iff.mp h7] at hx
      cases hx
    obtain ⟨t, a1, o, b1, b2, b3⟩ := body p e s m args below meth c s₁ B hml ht hP s₁ hh0 (Stand.of_body B)
    exact ⟨t, o, a1, b1, b2, b3⟩
/-- the table of a body with handlers -/
theorem vx_table {p : Program} {x y : MethodName} {S : Spec} {cc bytes : ByteArray} {maxL maxL' : Nat} {ret ret' : Option FieldType} {e : Env} {s s₁ : State} {m : MethodId} {args : Array Value} {below : List Frame} {meth : Method} {c : Code} {hh : List (Nat × Nat × Nat × Nat)}
    (B : BodyLoose p l y S cc maxL ret e s m args below meth c s₁) (h : (Cond.codeWith y bytes maxL' ret' hh).before args s = true) : c.exceptionTable.toList = tableOf hh := by
  obtain ⟨m9, meth9, c9, hn9, h1, h2, -, -, h6, -⟩ := Cond.codeWith_spec h
  cases Option.some.inj (hn9.symm.trans B.named)
  cases Option.some.inj (h1.symm.trans B.method)
  cases Option.some.inj (h2.symm.trans (Stand.of_body B).code)
  rw [← h6, table_eq]
end Bodies
end VXA
/-! ===== END ===== -/
/-! ===== BEGIN a static call of a method with an exception table ===== -/
section VXS
variable {p : Program} {l : Launch} {e : Env} {R : Room} {s : State} {m : MethodId} {args : Array Value} {below : List Frame} {meth : Method} {c : Code} {T : State} {H : Heap} {locs : List Loc} {cells slots : Nat}
abbrev vx_CSW (R : Room) (s : State) (args : Array Value) (own : String) (index : Nat) (y : MethodName) (bytes : ByteArray) (maxL : Nat) (ret : Option FieldType) (hh : List (Nat × Nat × Nat × Nat)) (ws : List Cond) (rm : Room) (mc ms n : Nat) : Prop :=
  (rm.cells = mc ∧ rm.slots = ms ∧ rm.frames + 1 ≤ R.frames ∧ 8 + (maxL + 11) + rm.locals ≤ R.locals ∧ (∀ w ∈ ws, ∀ (a' : Array Value) (U : State), s.WarmedH U.vm → w.before a' U = true) ∧ Cond.codeWith y bytes maxL ret hh ∈ ws) ∧
  (Cond.codeWith y bytes maxL ret hh).before args s = true ∧ (Cond.initialized y.cls).before args s = true ∧ (y.cls ≠ "java/lang/invoke/MethodHandle" ∧ y.cls ≠ "java/lang/invoke/VarHandle") ∧
  (∀ sig, parseMethodDescriptor y.desc = some sig → n = sig.parameters.length) ∧ (Cond.methodLink own index y).before args s = true ∧ (Cond.static y).before args s = true
theorem vx_cwSW {own : String} {index maxL mc ms : Nat} {y : MethodName} {bytes : ByteArray} {ret : Option FieldType} {hh : List (Nat × Nat × Nat × Nat)} {Ts ws ws' : List Cond} {rm : Room} (n : Nat) (ht : ∀ w ∈ Ts, w.before args s = true) (hT : GoodIn Ts (va_wsS own index y ws)) (hw : ws = Cond.codeWith y bytes maxL ret hh :: ws') (hrc : rm.cells = mc) (hrs : rm.slots = ms)
    (hd : y.cls ≠ "java/lang/invoke/MethodHandle" ∧ y.cls ≠ "java/lang/invoke/VarHandle" ∧ (parseMethodDescriptor y.desc).map (fun d => d.parameters.length) = some n) (hR : rm.frames + 1 ≤ R.frames ∧ 8 + (maxL + 11) + rm.locals ≤ R.locals) :
    vx_CSW R s args own index y bytes maxL ret hh ws rm mc ms n := by
  have ok : ∀ w ∈ va_wsS own index y ws, w.before args s = true := fun w h => ht w (hT w h).1
  have hG : GoodIn Ts ws := fun w h => hT w (by unfold va_wsS; exact List.mem_append_right _ h)
  have hc : Cond.codeWith y bytes maxL ret hh ∈ ws := by rw [hw]; exact List.mem_cons_self
  refine ⟨⟨hrc, hrs, hR.1, hR.2, pay_in ht hG, hc⟩, ht _ (hG _ hc).1, ok _ (by simp [va_wsS]), ⟨hd.1, hd.2.1⟩, fun sig h => ?_, ok _ (by simp [va_wsS]), ok _ (by simp [va_wsS])⟩
  have h2 := hd.2.2
  rw [h] at h2
  exact (Option.some.inj h2).symm
theorem vx_callSW (X : Stand p l e R s m args below meth c T locs cells slots) (hexec : p.tables.exec = Jvm.exec) {own : String} {index : Nat} {y : MethodName} {bytes : ByteArray} {maxL : Nat} {ret : Option FieldType} {hh : List (Nat × Nat × Nat × Nat)}
    (hown : s.vm.findClass own = some m.cls) (hlink : (Cond.methodLink own index y).before args s = true) (hstat : (Cond.static y).before args s = true) (hinit : (Cond.initialized y.cls).before args s = true)
    (hcode : (Cond.codeWith y bytes maxL ret hh).before args s = true) (hy : y.cls ≠ "java/lang/invoke/MethodHandle" ∧ y.cls ≠ "java/lang/invoke/VarHandle")
    {W9 : Nat} {Pre : Pt → Array Value → Prop} {Post : Pt → Array Value → Option Value → Pt → Prop} (hK : Back l R p e below s args y 3 W9 Pre Post)
    {g : JFrame} (hg : g.method = m) (hsize : g.locals.size = c.maxLocals) {argsL rest : List Value} (hlen : ∀ sig, parseMethodDescriptor y.desc = some sig → argsL.length = sig.parameters.length)
    (hstack : g.stack = argsL.reverse ++ rest) (hW : 2 * g.monitorRoom + (rest.map fun v => v.category).sum ≤ W9) (hdg : decode c.code g.pc = .ok (.invokestatic index, 3))
    (hpre : ∀ vm₁, s.WarmedH vm₁ → Pre ⟨T.setVm vm₁, locs, cells, slots⟩ argsL.toArray) :
    ∃ (v : Option Value) (vm₁ : Vm) (B : Pt), s.WarmedH vm₁ ∧ Stand p l e R s m args below meth c B.U B.locs B.cells B.slots ∧ Post ⟨T.setVm vm₁, locs, cells, slots⟩ argsL.toArray v B ∧
      ∀ target, Steps p.tables e below (B.U.setTop { g with pc := g.pc + 3, stack := v.toList ++ rest }) target → Steps p.tables e below (T.setTop g) target := by
  obtain ⟨mk, methM, cM, hnamed, hmethM, -, -, -, -, -, -, hsigM⟩ := Cond.codeWith_spec hcode
  have hstatic : methM.isStatic = true := Cond.static_spec hnamed hmethM hstat
  obtain ⟨kP, hkP, -⟩ := className_of_methodNamed hnamed
  have hinitP : kP.init = .initialized := Cond.initialized_spec (findClass_of_methodNamed hnamed) hkP hinit
  obtain ⟨vm₁, X₁, hstep₁⟩ := X.invokestatic hexec hown hlink hnamed hmethM hstatic hkP hinitP hy (g := g) hg (argsL := argsL) (rest := rest) (hlen _ hsigM) hstack hdg
  obtain ⟨v, B, X', hpost, hsteps⟩ := hK m meth c ⟨T.setVm vm₁, locs, cells, slots⟩ { g with stack := rest } (.invokestatic index) mk argsL.toArray X₁ hg hsize hdg hW (X₁.named hnamed) (hpre vm₁ X₁.warmed)
  exact ⟨v, vm₁, B, X₁.warmed, X', hpost, fun target h => hstep₁ _ fun acts => by rw [doInvoke_state]; exact hsteps.trans h⟩
theorem vx_runSW {y : MethodName} {bytes cc : ByteArray} {maxL nL mc ms n index : Nat} {ret : Option FieldType} {hh : List (Nat × Nat × Nat × Nat)} {ws : List Cond} {rm : Room} {Pc : Array Value → State → Prop} {Qc : Array Value → State → Outcome → State → Prop} {free : Addr → Prop} {Ts : List Cond} {own : String} {As rest : List Value} {g : JFrame}
    (S : CallFix p m c cc nL s args Ts own) (hM : Met l y ws rm Pc Qc mc ms free) (cw : vx_CSW R s args own index y bytes maxL ret hh ws rm mc ms n) (hp : PreS s H Pc As)
    (hg : g.method = m) (hn : As.length = n) (hsize : g.locals.size = nL) (hstack : g.stack = As.reverse ++ rest) (hW : 2 * g.monitorRoom + (rest.map fun v => v.category).sum ≤ 8) (hdg : decode cc g.pc = .ok (.invokestatic index, 3)) (hf : cells + mc ≤ R.cells ∧ slots + ms ≤ R.slots) :
    va_Run p l e R s m args below meth c H locs cells slots mc ms g rest (Qc As.toArray) (free) := by
  obtain ⟨⟨hrc, hrs, hfr, hlo, hws, hcw⟩, hcode, hini, hy, hlen, hl, hstt⟩ := cw
  have hK : Back l R p e below s args y 3 8 (PreOf R mc ms Pc) (PostOf Qc mc ms free) := va_backW (hh := hh) (bytes := bytes) (maxL := maxL) (ret := ret) hM hp.1 hrc hrs hfr hlo hws hcw (fun a' U hW => word_at hW (Or.inl (by first | rfl | simp [Cond.onTables, Cond.keeps, Cond.steady])) hini)
  obtain ⟨hx, hb, hml, ho, -⟩ := S
  intro T hT X
  obtain ⟨v, vm₁, ⟨U', l2, c2, s2⟩, hW₁, X', ⟨g', mk, t, L, e1, e2, hq, h1, hL, h2, h3⟩, st⟩ := vx_callSW X hx (hh := hh) (bytes := bytes) (maxL := maxL) (ret := ret) ho hl hstt hini hcode hy hK hg (hsize.trans hml.symm) (argsL := As) (rest := rest) (fun sig h => hn.trans (hlen sig h)) hstack hW (by rw [hb]; exact hdg)
    (fun vm₁ hW₁ => ⟨hf.1, hf.2, hp.2 (T.setVm vm₁) hT hW₁⟩)
  dsimp only [Pt.U, Pt.locs, Pt.cells, Pt.slots] at X' e1 e2 h1 h2 h3 st
  subst h1; subst h2; subst h3
  exact ⟨v, (T.setVm vm₁).calling g' mk As.toArray, t, U', L, hT, X', hL, e1, e2, hq, st⟩
/-- not caught here, past rows that name other classes: it goes on to the caller -/
theorem vx_outP {p : Program} {l : Launch} {e : Env} {R : Room} {s : State} {m : MethodId} {args : Array Value} {below : List Frame} {meth : Method} {c : Code} {H : Heap} {locs : List Loc} {cells slots : Nat} {free : Addr → Prop} {ls : Array Slot} {rest : List Value} {Qc : Array Value → State → Outcome → State → Prop} {XC : String → State → State → Prop}
    {pc : Nat} {own E : String} {ce : Cell} {q : Addr} {mc ms : Nat} (hown : s.vm.findClass own = some m.cls) (hlocks : meth.locks = false)
    (hpass : ∀ z ∈ c.exceptionTable.toList, covers z pc = false ∨ (z.catchType ≠ 0 ∧ ∃ nm : String, (Cond.classLink own z.catchType nm).before args s = true ∧ va_Nc E nm s)) (hcell : H[q]? = some ce) (hv : ce.vm = .none) (hcl : s.vm.findClass E = some ce.cls)
    (hx : ∀ t : State, t.heap = H → s.vm.Alike t.vm → XC E s t) (hf : ∀ z ∈ locs, free z.base) (hc : cells ≤ mc) (hs : slots ≤ ms) :
    vx_W p l e R s m args below meth c H locs cells slots (vx_MQ below Qc XC args s mc ms free) (F0 m pc ls rest) q := by
  intro T hT X
  have hpl : e.platform.magicAccessors = ({} : Platform).magicAccessors := by rw [X.admits.platform]
  obtain ⟨vm', hW', X', st⟩ := X.outThrough hlocks q (g := F0 m pc ls rest) rfl rfl rfl (cell := ce) (by rw [hT]; exact hcell) (by rw [hv]; rfl)
    (by obtain ⟨k9, h9, -⟩ := Vm.findClass_spec hcl; exact ⟨k9, h9⟩) (fun z hz => by
      rcases hpass z hz with h | ⟨hz0, nm, hl1, hn1⟩
      · exact Or.inl h
      · obtain ⟨c6, hc6, hcl6⟩ := Cond.classLink_spec hown hl1 e.platform hpl
        obtain ⟨a8, b8, h1, h2, h3⟩ := hn1
        cases Option.some.inj (h1.symm.trans hcl)
        cases Option.some.inj (h2.symm.trans hc6)
        exact Or.inr ⟨hz0, _, hcl6, h3⟩)
  obtain ⟨g₀, hfr⟩ := X'.frames_eq
  have hcell9 : ((T.setVm vm').setFrames (.throwing q :: below)).heap[q]? = some ce := by
    show T.heap[q]? = some ce
    rw [hT]; exact hcell
  have hend : Ended ((T.setVm vm').setFrames (.throwing q :: below)) below (.threw q) := State.frames_setFrames _ (State.cur_lt_of_frames hfr)
  refine ⟨(T.setVm vm').setFrames (.throwing q :: below), ?_, .threw q, X'.here.running, hend, Or.inr ⟨q, rfl, E, ce, locs, hx _ hT (X'.ends _).1.alike, hcell9, hv, hcl, (X'.ends _).1, (X'.ends _).2.mono hc hs, hf⟩⟩
  rw [X.pushThrowing_eq]
  exact st
/-- a thing of a world lies in the heap -/
theorem vx_lt {D : va_G} {cl : List vw_C} {ws : va_W} {H1 : Heap} (h : va_P D cl ws H1) {k : Nat} {q : Nat × va_E} (hk : ws[k]? = some q) : q.1 < H1.size := (h k q hk).lt
end VXS
/-! ===== END ===== -/
/-! ===== BEGIN methods with a table of their own: called by a name, returning or throwing ===== -/
section VXH
/-! vx_backW, vx_callVX, vx_callSX, vx_callVW, vx_runVW, vx_runVX, vx_runSX, vx_ofWH follow the same proofs as their sisters above (Free/Laws.lean, Shelf42/LK1.lean); vx_outP calls Shelf42/NT130.lean (outThrough). -/
section
variable {l : Launch} {R : Room} {p : Program} {e : Env} {below : List Frame} {s : State} {sargs : Array Value} {y : MethodName} {len W9 : Nat}
theorem vx_backW {ws : List Cond} {rm : Room} {Pc : Array Value → State → Prop} {Qc : Array Value → State → Outcome → State → Prop} {XC : String → State → State → Prop} {mc ms : Nat} {free : Addr → Prop} {bytes : ByteArray} {maxL : Nat} {ret : Option FieldType} {hh : List (Nat × Nat × Nat × Nat)}
    (hM : vx_Met l y ws rm Pc Qc XC mc ms free) (hblind : FrameBlind Pc) (hrc : rm.cells = mc) (hrs : rm.slots = ms)
    (hframes : rm.frames + 1 ≤ R.frames) (hlocals : W9 + (maxL + 11) + rm.locals ≤ R.locals)
    (hws : ∀ w ∈ ws, ∀ a' U, s.WarmedH U.vm → w.before a' U = true) (hcode : Cond.codeWith y bytes maxL ret hh ∈ ws) (hinit : ∀ a' U, s.WarmedH U.vm → (Cond.initialized y.cls).before a' U = true) :
    vx_Back l R p e below s sargs y len W9 (PreOf R mc ms Pc) (PostOf Qc mc ms free) (vx_Post XC mc ms free) := by
  intro m meth c A g ig mk a X hg hsize hdg hW hn hp
  have h1 : (headSpec ws rm).pre.before a A.U = true := atoms_intro fun w hw => hws w hw _ _ X.warmed
  have h2 : (Cond.codeWith y bytes maxL ret hh).before a A.U = true := hws _ hcode _ _ X.warmed
  have h3 : (Cond.initialized y.cls).before a A.U = true := hinit _ _ X.warmed
  have h4 : A.cells + (headSpec ws rm).room.cells ≤ R.cells := by rw [show (headSpec ws rm).room.cells = mc from hrc]; exact hp.1
  have h5 : A.slots + (headSpec ws rm).room.slots ≤ R.slots := by rw [show (headSpec ws rm).room.slots = ms from hrs]; exact hp.2.1
  have hPc : Pc a (A.U.calling g mk a) := hblind _ _ _ _ hp.2.2
  obtain ⟨U, Ls, c0, s0⟩ := A
  dsimp only [Pt.U, Pt.locs, Pt.cells, Pt.slots] at h1 h2 h3 h4 h5 X hn hPc ⊢
  obtain ⟨m9, methY, cY, hn9, hmY, hcY, -, hlY, -⟩ := Cond.codeWith_spec h2
  cases Option.some.inj (hn9.symm.trans hn)
  obtain ⟨kY, hkY, -⟩ := className_of_methodNamed hn
  have hinitY : kY.init = .initialized := Cond.initialized_spec (findClass_of_methodNamed hn) hkY h3
  have h : At U g.method c below := by rw [hg]; exact X.here
  have hlocals9 : W9 + (maxL + 11) + (headSpec ws rm).room.locals ≤ R.locals := hlocals
  have happ : (headSpec ws rm).appliesLoose y e.platform (U.calling g mk a) = true :=
    Spec.appliesLoose_calling (g := g) h hdg hn hkY hinitY
      (X.room_calling (g := g) (R' := (headSpec ws rm).room) hsize hmY hcY hframes (by rw [hlY]; omega) h4 h5) h1
  obtain ⟨mid, hmid⟩ := h.above
  have hfr : (U.setTop g).frames = (.java g :: mid) ++ below := by rw [State.frames_setTop' g h.top, hmid]; rfl
  obtain ⟨o, s₂, hsteps, -, hend, hq⟩ := Steps.callFree hM p X.admits X.cas X.clock (acts := []) hfr happ hPc trivial
  have hq' : vx_Q Qc XC mc ms free a (U.calling g mk a) o s₂ := hq
  rw [State.frames_setTop' g h.top] at hend
  obtain ⟨g₀, hg0⟩ := Option.isSome_iff_exists.mp h.top
  obtain ⟨r, hr⟩ := State.topJava?_eq_some.mp hg0
  have hr' : (({ U with heap := s₂.heap, slotsUsed := s₂.slotsUsed } : State).setVm s₂.vm).frames = .java g₀ :: r := hr
  rcases hq' with ⟨hqc, L, hfe, hL⟩ | ⟨q, rfl, E, ce, L, hx, hce, hcv, hcl, hW₂, hsm, hL⟩
  · obtain ⟨⟨v, rfl⟩, hW₂, e2, q2, q3, q4, q5, q6⟩ := id hfe
    have e3 : s₂ = ({ (U.calling g mk a).setFrames s₂.frames with heap := s₂.heap, slotsUsed := s₂.slotsUsed } : State).setVm s₂.vm := by
      have : s₂ = ({ s₂ with vm := (U.calling g mk a).vm } : State).setVm s₂.vm := rfl
      rw [e2] at this
      exact this
    obtain ⟨c₂, i₂, len₂, hc₂, hd₂, hf₂⟩ := hend
    have hW' : U.WarmedH s₂.vm := hW₂
    have hcc : c₂ = c := by
      have h1 : s₂.code? g.method = U.code? g.method := by
        rw [State.code?_eq, State.code?_eq, hW'.alike.method?]
      exact Option.some.inj (hc₂.symm.trans (h1.trans h.code))
    subst hcc
    have hlen : len₂ = len := by rw [hdg] at hd₂; cases hd₂; rfl
    subst hlen
    have hs₂ : s₂ = (({ U with heap := s₂.heap, slotsUsed := s₂.slotsUsed } : State).setVm s₂.vm).setTop { g with pc := g.pc + len₂, stack := v.toList ++ g.stack } := by
      refine e3.trans ?_
      rw [hf₂, State.calling_eq h.top, State.setFrames_setFrames, State.setTop_of_frames _ hr', hr]
      rfl
    have hsame : U.sameButNew ({ U with heap := s₂.heap, slotsUsed := s₂.slotsUsed } : State) L mc ms := by
      refine ⟨?_, q2, q3, q4, q5, q6⟩
      obtain ⟨t, ht, -⟩ := State.frames_cons hr
      show ({ U with heap := s₂.heap, slotsUsed := s₂.slotsUsed } : State) = { U.setFrames U.frames with heap := s₂.heap, slotsUsed := s₂.slotsUsed }
      rw [State.setFrames_self ht]
    subst hg
    refine Or.inl ⟨v, ⟨(({ U with heap := s₂.heap, slotsUsed := s₂.slotsUsed } : State).setVm s₂.vm), Ls ++ L, c0 + mc, s0 + ms⟩,
      ⟨X.admits, X.cas, X.clock, X.frames, X.room, X.hears, X.method, X.code, (X.here.setHeapUsed s₂.heap s₂.slotsUsed).setVm hW'.alike, X.tail, State.WarmedH.trans X.warmed hW', X.limits, X.bytes, X.same.trans (hsame.setVm s.vm)⟩,
      ⟨g, mk, s₂, L, rfl, rfl, hqc, rfl, hL, rfl, rfl⟩, ?_⟩
    show Steps p.tables e below _ ((({ U with heap := s₂.heap, slotsUsed := s₂.slotsUsed } : State).setVm s₂.vm).setTop { g with pc := g.pc + len₂, stack := v.toList ++ g.stack })
    rw [← hs₂]
    exact hsteps
  · obtain ⟨e2, q2, q3, q4, q5, q6⟩ := id hsm
    have e3 : s₂ = ({ (U.calling g mk a).setFrames s₂.frames with heap := s₂.heap, slotsUsed := s₂.slotsUsed } : State).setVm s₂.vm := by
      have : s₂ = ({ s₂ with vm := (U.calling g mk a).vm } : State).setVm s₂.vm := rfl
      rw [e2] at this
      exact this
    have hf₂ : s₂.frames = .throwing q :: .java g :: U.frames.tail := hend
    have hW' : U.WarmedH s₂.vm := hW₂
    have hs₂ : s₂ = ((({ U with heap := s₂.heap, slotsUsed := s₂.slotsUsed } : State).setVm s₂.vm).setTop g).pushFrame (.throwing q) := by
      refine e3.trans ?_
      rw [hf₂, State.calling_eq h.top, State.setFrames_setFrames, State.pushFrame, State.frames_setTop _ hr', State.setTop_of_frames _ hr', State.setFrames_setFrames, hr]
      rfl
    have hsame : U.sameButNew ({ U with heap := s₂.heap, slotsUsed := s₂.slotsUsed } : State) L mc ms := by
      refine ⟨?_, q2, q3, q4, q5, q6⟩
      obtain ⟨t, ht, -⟩ := State.frames_cons hr
      show ({ U with heap := s₂.heap, slotsUsed := s₂.slotsUsed } : State) = { U.setFrames U.frames with heap := s₂.heap, slotsUsed := s₂.slotsUsed }
      rw [State.setFrames_self ht]
    subst hg
    refine Or.inr ⟨q, ⟨(({ U with heap := s₂.heap, slotsUsed := s₂.slotsUsed } : State).setVm s₂.vm), Ls ++ L, c0 + mc, s0 + ms⟩,
      ⟨X.admits, X.cas, X.clock, X.frames, X.room, X.hears, X.method, X.code, (X.here.setHeapUsed s₂.heap s₂.slotsUsed).setVm hW'.alike, X.tail, State.WarmedH.trans X.warmed hW', X.limits, X.bytes, X.same.trans (hsame.setVm s.vm)⟩,
      ⟨g, mk, s₂, L, E, ce, rfl, rfl, hx, hce, hcv, hcl, rfl, hL, rfl, rfl⟩, ?_⟩
    show Steps p.tables e below _ (((({ U with heap := s₂.heap, slotsUsed := s₂.slotsUsed } : State).setVm s₂.vm).setTop g).pushFrame (.throwing q))
    rw [← hs₂]
    exact hsteps
end
variable {p : Program} {l : Launch} {e : Env} {R : Room} {s : State} {m : MethodId} {args : Array Value} {below : List Frame} {meth : Method} {c : Code} {T : State} {H : Heap} {locs : List Loc} {cells slots : Nat}
theorem vx_callVX (X : Stand p l e R s m args below meth c T locs cells slots) (hexec : p.tables.exec = Jvm.exec) {own C : String} {index : Nat} {y : MethodName} {bytes : ByteArray} {maxL : Nat} {ret : Option FieldType} {hh : List (Nat × Nat × Nat × Nat)}
    (hown : s.vm.findClass own = some m.cls) (hlink : (Cond.methodLink own index y).before args s = true) (hinst : (Cond.instanceMethod y).before args s = true) (hsel : (Cond.selects C y y).before args s = true)
    (hcode : (Cond.codeWith y bytes maxL ret hh).before args s = true) (hy : y.cls ≠ "java/lang/invoke/MethodHandle" ∧ y.cls ≠ "java/lang/invoke/VarHandle")
    {W9 : Nat} {Pre : Pt → Array Value → Prop} {Post : Pt → Array Value → Option Value → Pt → Prop} {PostX : Pt → Array Value → Addr → Pt → Prop} (hK : vx_Back l R p e below s args y 3 W9 Pre Post PostX)
    {b : Addr} {cellB : Cell} (hcell : T.heap[b]? = some cellB) (hobj : cellB.vm.isStatics = false) (hcls : s.vm.findClass C = some cellB.cls)
    {g : JFrame} (hg : g.method = m) (hsize : g.locals.size = c.maxLocals) {argsL rest : List Value} (hlen : ∀ sig, parseMethodDescriptor y.desc = some sig → argsL.length = sig.parameters.length)
    (hstack : g.stack = argsL.reverse ++ .ref b :: rest) (hW : 2 * g.monitorRoom + (rest.map fun v => v.category).sum ≤ W9) (hdg : decode c.code g.pc = .ok (.invokevirtual index, 3))
    (hpre : ∀ vm₁, s.WarmedH vm₁ → Pre ⟨T.setVm vm₁, locs, cells, slots⟩ (Value.ref b :: argsL).toArray) :
    (∃ (v : Option Value) (vm₁ : Vm) (B : Pt), s.WarmedH vm₁ ∧ Stand p l e R s m args below meth c B.U B.locs B.cells B.slots ∧ Post ⟨T.setVm vm₁, locs, cells, slots⟩ (Value.ref b :: argsL).toArray v B ∧
      ∀ target, Steps p.tables e below (B.U.setTop { g with pc := g.pc + 3, stack := v.toList ++ rest }) target → Steps p.tables e below (T.setTop g) target) ∨
    (∃ (q : Addr) (vm₁ : Vm) (B : Pt), s.WarmedH vm₁ ∧ Stand p l e R s m args below meth c B.U B.locs B.cells B.slots ∧ PostX ⟨T.setVm vm₁, locs, cells, slots⟩ (Value.ref b :: argsL).toArray q B ∧
      Steps p.tables e below (T.setTop g) ((B.U.setTop { g with stack := rest }).pushFrame (.throwing q))) := by
  obtain ⟨mk, methM, hnamed, hmethM, hstM, habM⟩ := Cond.instanceMethod_spec hinst
  obtain ⟨m8, methM', cM, hn8, hmethM', -, -, -, -, -, -, hsigM⟩ := Cond.codeWith_spec hcode
  cases Option.some.inj (hn8.symm.trans hnamed)
  cases hmethM.symm.trans hmethM'
  obtain ⟨c2, r2, m2, q1, q2, q3, q4, kP, hkP, hkPi⟩ := Cond.selects_spec hsel
  cases hcls.symm.trans q1
  cases (State.methodFound?_of_named hnamed hy).symm.trans q2
  cases hnamed.symm.trans q3
  have hselP : selectMethod e.platform s.vm cellB.cls mk = .method mk := by rw [Launch.admits_selectMethod X.admits]; exact q4
  obtain ⟨vm₁, X₁, hstep₁⟩ := X.invokevirtual hexec hown hlink hnamed hmethM hstM hkP hkPi hy (a := b) (cell := cellB) hcell
    (fun z h => by rw [h] at hobj; cases hobj) hselP hmethM habM hkP hkPi (g := g) hg (argsL := argsL) (rest := rest) (hlen _ hsigM) hstack hdg
  rcases hK m meth c ⟨T.setVm vm₁, locs, cells, slots⟩ { g with stack := rest } (.invokevirtual index) mk (Value.ref b :: argsL).toArray X₁ hg hsize hdg hW (X₁.named hnamed) (hpre vm₁ X₁.warmed) with ⟨v, B, X', hpost, hsteps⟩ | ⟨q, B, X', hpost, hsteps⟩
  · exact Or.inl ⟨v, vm₁, B, X₁.warmed, X', hpost, fun target h => hstep₁ _ fun acts => by rw [doInvoke_state]; exact hsteps.trans h⟩
  · exact Or.inr ⟨q, vm₁, B, X₁.warmed, X', hpost, hstep₁ _ fun acts => by rw [doInvoke_state]; exact hsteps⟩
theorem vx_callSX (X : Stand p l e R s m args below meth c T locs cells slots) (hexec : p.tables.exec = Jvm.exec) {own : String} {index : Nat} {y : MethodName} {bytes : ByteArray} {maxL : Nat} {ret : Option FieldType} {hh : List (Nat × Nat × Nat × Nat)}
    (hown : s.vm.findClass own = some m.cls) (hlink : (Cond.methodLink own index y).before args s = true) (hstat : (Cond.static y).before args s = true) (hinit : (Cond.initialized y.cls).before args s = true)
    (hcode : (Cond.codeWith y bytes maxL ret hh).before args s = true) (hy : y.cls ≠ "java/lang/invoke/MethodHandle" ∧ y.cls ≠ "java/lang/invoke/VarHandle")
    {W9 : Nat} {Pre : Pt → Array Value → Prop} {Post : Pt → Array Value → Option Value → Pt → Prop} {PostX : Pt → Array Value → Addr → Pt → Prop} (hK : vx_Back l R p e below s args y 3 W9 Pre Post PostX)
    {g : JFrame} (hg : g.method = m) (hsize : g.locals.size = c.maxLocals) {argsL rest : List Value} (hlen : ∀ sig, parseMethodDescriptor y.desc = some sig → argsL.length = sig.parameters.length)
    (hstack : g.stack = argsL.reverse ++ rest) (hW : 2 * g.monitorRoom + (rest.map fun v => v.category).sum ≤ W9) (hdg : decode c.code g.pc = .ok (.invokestatic index, 3))
    (hpre : ∀ vm₁, s.WarmedH vm₁ → Pre ⟨T.setVm vm₁, locs, cells, slots⟩ argsL.toArray) :
    (∃ (v : Option Value) (vm₁ : Vm) (B : Pt), s.WarmedH vm₁ ∧ Stand p l e R s m args below meth c B.U B.locs B.cells B.slots ∧ Post ⟨T.setVm vm₁, locs, cells, slots⟩ argsL.toArray v B ∧
      ∀ target, Steps p.tables e below (B.U.setTop { g with pc := g.pc + 3, stack := v.toList ++ rest }) target → Steps p.tables e below (T.setTop g) target) ∨
    (∃ (q : Addr) (vm₁ : Vm) (B : Pt), s.WarmedH vm₁ ∧ Stand p l e R s m args below meth c B.U B.locs B.cells B.slots ∧ PostX ⟨T.setVm vm₁, locs, cells, slots⟩ argsL.toArray q B ∧
      Steps p.tables e below (T.setTop g) ((B.U.setTop { g with stack := rest }).pushFrame (.throwing q))) := by
  obtain ⟨mk, methM, cM, hnamed, hmethM, -, -, -, -, -, -, hsigM⟩ := Cond.codeWith_spec hcode
  have hstatic : methM.isStatic = true := Cond.static_spec hnamed hmethM hstat
  obtain ⟨kP, hkP, -⟩ := className_of_methodNamed hnamed
  have hinitP : kP.init = .initialized := Cond.initialized_spec (findClass_of_methodNamed hnamed) hkP hinit
  obtain ⟨vm₁, X₁, hstep₁⟩ := X.invokestatic hexec hown hlink hnamed hmethM hstatic hkP hinitP hy (g := g) hg (argsL := argsL) (rest := rest) (hlen _ hsigM) hstack hdg
  rcases hK m meth c ⟨T.setVm vm₁, locs, cells, slots⟩ { g with stack := rest } (.invokestatic index) mk argsL.toArray X₁ hg hsize hdg hW (X₁.named hnamed) (hpre vm₁ X₁.warmed) with ⟨v, B, X', hpost, hsteps⟩ | ⟨q, B, X', hpost, hsteps⟩
  · exact Or.inl ⟨v, vm₁, B, X₁.warmed, X', hpost, fun target h => hstep₁ _ fun acts => by rw [doInvoke_state]; exact hsteps.trans h⟩
  · exact Or.inr ⟨q, vm₁, B, X₁.warmed, X', hpost, hstep₁ _ fun acts => by rw [doInvoke_state]; exact hsteps⟩
theorem vx_callVW (X : Stand p l e R s m args below meth c T locs cells slots) (hexec : p.tables.exec = Jvm.exec) {own C : String} {index : Nat} {y : MethodName} {bytes : ByteArray} {maxL : Nat} {ret : Option FieldType} {hh : List (Nat × Nat × Nat × Nat)}
    (hown : s.vm.findClass own = some m.cls) (hlink : (Cond.methodLink own index y).before args s = true) (hinst : (Cond.instanceMethod y).before args s = true) (hsel : (Cond.selects C y y).before args s = true)
    (hcode : (Cond.codeWith y bytes maxL ret hh).before args s = true) (hy : y.cls ≠ "java/lang/invoke/MethodHandle" ∧ y.cls ≠ "java/lang/invoke/VarHandle")
    {W9 : Nat} {Pre : Pt → Array Value → Prop} {Post : Pt → Array Value → Option Value → Pt → Prop} (hK : Back l R p e below s args y 3 W9 Pre Post)
    {b : Addr} {cellB : Cell} (hcell : T.heap[b]? = some cellB) (hobj : cellB.vm.isStatics = false) (hcls : s.vm.findClass C = some cellB.cls)
    {g : JFrame} (hg : g.method = m) (hsize : g.locals.size = c.maxLocals) {argsL rest : List Value} (hlen : ∀ sig, parseMethodDescriptor y.desc = some sig → argsL.length = sig.parameters.length)
    (hstack : g.stack = argsL.reverse ++ .ref b :: rest) (hW : 2 * g.monitorRoom + (rest.map fun v => v.category).sum ≤ W9) (hdg : decode c.code g.pc = .ok (.invokevirtual index, 3))
    (hpre : ∀ vm₁, s.WarmedH vm₁ → Pre ⟨T.setVm vm₁, locs, cells, slots⟩ (Value.ref b :: argsL).toArray) :
    ∃ (v : Option Value) (vm₁ : Vm) (B : Pt), s.WarmedH vm₁ ∧ Stand p l e R s m args below meth c B.U B.locs B.cells B.slots ∧ Post ⟨T.setVm vm₁, locs, cells, slots⟩ (Value.ref b :: argsL).toArray v B ∧
      ∀ target, Steps p.tables e below (B.U.setTop { g with pc := g.pc + 3, stack := v.toList ++ rest }) target → Steps p.tables e below (T.setTop g) target := by
  obtain ⟨mk, methM, hnamed, hmethM, hstM, habM⟩ := Cond.instanceMethod_spec hinst
  obtain ⟨m8, methM', cM, hn8, hmethM', -, -, -, -, -, -, hsigM⟩ := Cond.codeWith_spec hcode
  cases Option.some.inj (hn8.symm.trans hnamed)
  cases hmethM.symm.trans hmethM'
  obtain ⟨c2, r2, m2, q1, q2, q3, q4, kP, hkP, hkPi⟩ := Cond.selects_spec hsel
  cases hcls.symm.trans q1
  cases (State.methodFound?_of_named hnamed hy).symm.trans q2
  cases hnamed.symm.trans q3
  have hselP : selectMethod e.platform s.vm cellB.cls mk = .method mk := by rw [Launch.admits_selectMethod X.admits]; exact q4
  obtain ⟨vm₁, X₁, hstep₁⟩ := X.invokevirtual hexec hown hlink hnamed hmethM hstM hkP hkPi hy (a := b) (cell := cellB) hcell
    (fun z h => by rw [h] at hobj; cases hobj) hselP hmethM habM hkP hkPi (g := g) hg (argsL := argsL) (rest := rest) (hlen _ hsigM) hstack hdg
  obtain ⟨v, B, X', hpost, hsteps⟩ := hK m meth c ⟨T.setVm vm₁, locs, cells, slots⟩ { g with stack := rest } (.invokevirtual index) mk (Value.ref b :: argsL).toArray X₁ hg hsize hdg hW (X₁.named hnamed) (hpre vm₁ X₁.warmed)
  exact ⟨v, vm₁, B, X₁.warmed, X', hpost, fun target h => hstep₁ _ fun acts => by rw [doInvoke_state]; exact hsteps.trans h⟩
abbrev vx_CVW (R : Room) (s : State) (args : Array Value) (own C : String) (index : Nat) (y : MethodName) (bytes : ByteArray) (maxL : Nat) (ret : Option FieldType) (hh : List (Nat × Nat × Nat × Nat)) (ws : List Cond) (rm : Room) (mc ms n : Nat) : Prop :=
  (rm.cells = mc ∧ rm.slots = ms ∧ rm.frames + 1 ≤ R.frames ∧ 8 + (maxL + 11) + rm.locals ≤ R.locals ∧ (∀ w ∈ ws, ∀ (a' : Array Value) (U : State), s.WarmedH U.vm → w.before a' U = true) ∧ Cond.codeWith y bytes maxL ret hh ∈ ws) ∧
  (Cond.codeWith y bytes maxL ret hh).before args s = true ∧ (Cond.initialized y.cls).before args s = true ∧ (y.cls ≠ "java/lang/invoke/MethodHandle" ∧ y.cls ≠ "java/lang/invoke/VarHandle") ∧
  (∀ sig, parseMethodDescriptor y.desc = some sig → n = sig.parameters.length) ∧ (Cond.methodLink own index y).before args s = true ∧ (Cond.instanceMethod y).before args s = true ∧ (Cond.selects C y y).before args s = true
theorem vx_cwVW {own C : String} {index maxL mc ms : Nat} {y : MethodName} {bytes : ByteArray} {ret : Option FieldType} {hh : List (Nat × Nat × Nat × Nat)} {Ts ws ws' : List Cond} {rm : Room} (n : Nat) (ht : ∀ w ∈ Ts, w.before args s = true) (hT : GoodIn Ts (wsV own index C y ws)) (hw : ws = Cond.codeWith y bytes maxL ret hh :: ws') (hrc : rm.cells = mc) (hrs : rm.slots = ms)
    (hd : y.cls = C ∧ y.cls ≠ "java/lang/invoke/MethodHandle" ∧ y.cls ≠ "java/lang/invoke/VarHandle" ∧ (parseMethodDescriptor y.desc).map (fun d => d.parameters.length) = some n) (hR : rm.frames + 1 ≤ R.frames ∧ 8 + (maxL + 11) + rm.locals ≤ R.locals) :
    vx_CVW R s args own C index y bytes maxL ret hh ws rm mc ms n := by
  obtain ⟨hC, hd⟩ := hd
  subst hC
  have ok : ∀ w ∈ wsV own index y.cls y ws, w.before args s = true := fun w h => ht w (hT w h).1
  have hG : GoodIn Ts ws := fun w h => hT w (by unfold wsV; exact List.mem_append_right _ h)
  have hc : Cond.codeWith y bytes maxL ret hh ∈ ws := by rw [hw]; exact List.mem_cons_self
  refine ⟨⟨hrc, hrs, hR.1, hR.2, pay_in ht hG, hc⟩, ht _ (hG _ hc).1, ok _ (by simp [wsV]), ⟨hd.1, hd.2.1⟩, fun sig h => ?_, ok _ (by simp [wsV]), ok _ (by simp [wsV]), ok _ (by simp [wsV])⟩
  have h2 := hd.2.2
  rw [h] at h2
  exact (Option.some.inj h2).symm
theorem vx_runVW {y : MethodName} {bytes cc : ByteArray} {maxL nL mc ms n index : Nat} {ret : Option FieldType} {hh : List (Nat × Nat × Nat × Nat)} {ws : List Cond} {rm : Room} {Pc : Array Value → State → Prop} {Qc : Array Value → State → Outcome → State → Prop} {free : Addr → Prop} {Ts : List Cond} {own C : String} {b : Addr} {As rest : List Value} {g : JFrame}
    (S : CallFix p m c cc nL s args Ts own) (hM : Met l y ws rm Pc Qc mc ms free) (cw : vx_CVW R s args own C index y bytes maxL ret hh ws rm mc ms n) (hp : PreV s H C b Pc As)
    (hg : g.method = m) (hn : As.length = n) (hsize : g.locals.size = nL) (hstack : g.stack = As.reverse ++ .ref b :: rest) (hW : 2 * g.monitorRoom + (rest.map fun v => v.category).sum ≤ 8) (hdg : decode cc g.pc = .ok (.invokevirtual index, 3)) (hf : cells + mc ≤ R.cells ∧ slots + ms ≤ R.slots) :
    va_Run p l e R s m args below meth c H locs cells slots mc ms g rest (Qc (Value.ref b :: As).toArray) free := by
  obtain ⟨⟨hrc, hrs, hfr, hlo, hws, hcw⟩, hcode, hini, hy, hlen, hl, hin, hse⟩ := cw
  have hK : Back l R p e below s args y 3 8 (PreOf R mc ms Pc) (PostOf Qc mc ms free) := va_backW (hh := hh) (bytes := bytes) (maxL := maxL) (ret := ret) hM hp.1 hrc hrs hfr hlo hws hcw (fun a' U hW => word_at hW (Or.inl (by first | rfl | simp [Cond.onTables, Cond.keeps, Cond.steady])) hini)
  obtain ⟨hx, hb, hml, ho, -⟩ := S
  obtain ⟨-, ⟨cellB, hcB, hoB, hclB⟩, hPc⟩ := hp
  intro T hT X
  obtain ⟨v, vm₁, ⟨U', l2, c2, s2⟩, hW₁, X', ⟨g', mk, t, L, e1, e2, hq, h1, hL, h2, h3⟩, st⟩ := vx_callVW X hx (C := C) (hh := hh) (bytes := bytes) (maxL := maxL) (ret := ret) ho hl hin hse hcode hy hK (by rw [hT]; exact hcB) hoB hclB hg (hsize.trans hml.symm) (argsL := As) (rest := rest) (fun sig h => hn.trans (hlen sig h)) hstack hW (by rw [hb]; exact hdg)
    (fun vm₁ hW₁ => ⟨hf.1, hf.2, hPc (T.setVm vm₁) hT hW₁⟩)
  dsimp only [Pt.U, Pt.locs, Pt.cells, Pt.slots] at X' e1 e2 h1 h2 h3 st
  subst h1; subst h2; subst h3
  exact ⟨v, (T.setVm vm₁).calling g' mk (Value.ref b :: As).toArray, t, U', L, hT, X', hL, e1, e2, hq, st⟩
section
variable {y : MethodName} {bytes cc : ByteArray} {maxL nL mc ms n index : Nat} {ret : Option FieldType} {ws : List Cond} {rm : Room} {Pc : Array Value → State → Prop} {Qc : Array Value → State → Outcome → State → Prop} {XC : String → State → State → Prop} {free : Addr → Prop} {Ts : List Cond} {own C : String} {b : Addr} {As rest : List Value} {g : JFrame}
theorem vx_runVX {hh : List (Nat × Nat × Nat × Nat)} (S : CallFix p m c cc nL s args Ts own) (hM : vx_Met l y ws rm Pc Qc XC mc ms free) (cw : vx_CVW R s args own C index y bytes maxL ret hh ws rm mc ms n) (hp : PreV s H C b Pc As)
    (hg : g.method = m) (hn : As.length = n) (hsize : g.locals.size = nL) (hstack : g.stack = As.reverse ++ .ref b :: rest) (hW : 2 * g.monitorRoom + (rest.map fun v => v.category).sum ≤ 8) (hdg : decode cc g.pc = .ok (.invokevirtual index, 3)) (hf : cells + mc ≤ R.cells ∧ slots + ms ≤ R.slots) :
    vx_Run p l e R s m args below meth c H locs cells slots mc ms g rest (Qc (Value.ref b :: As).toArray) XC free := by
  obtain ⟨⟨hrc, hrs, hfr, hlo, hws, hcw⟩, hcode, hini, hy, hlen, hl, hin, hse⟩ := cw
  have hK : vx_Back l R p e below s args y 3 8 (PreOf R mc ms Pc) (PostOf Qc mc ms free) (vx_Post XC mc ms free) := vx_backW (hh := hh) (bytes := bytes) (maxL := maxL) (ret := ret) hM hp.1 hrc hrs hfr hlo hws hcw (fun a' U hW => word_at hW (Or.inl (by first | rfl | simp [Cond.onTables, Cond.keeps, Cond.steady])) hini)
  obtain ⟨hx, hb, hml, ho, -⟩ := S
  obtain ⟨-, ⟨cellB, hcB, hoB, hclB⟩, hPc⟩ := hp
  intro T hT X
  rcases vx_callVX X hx (C := C) (hh := hh) (bytes := bytes) (maxL := maxL) (ret := ret) ho hl hin hse hcode hy hK (by rw [hT]; exact hcB) hoB hclB hg (hsize.trans hml.symm) (argsL := As) (rest := rest) (fun sig h => hn.trans (hlen sig h)) hstack hW (by rw [hb]; exact hdg)
    (fun vm₁ hW₁ => ⟨hf.1, hf.2, hPc (T.setVm vm₁) hT hW₁⟩) with ⟨v, vm₁, ⟨U', l2, c2, s2⟩, hW₁, X', ⟨g', mk, t, L, e1, e2, hq, h1, hL, h2, h3⟩, st⟩ | ⟨q, vm₁, ⟨U', l2, c2, s2⟩, hW₁, X', ⟨g', mk, t, L, E, ce, e1, e2, hq, hce, hcv, hcl, h1, hL, h2, h3⟩, st⟩
  · dsimp only [Pt.U, Pt.locs, Pt.cells, Pt.slots] at X' e1 e2 h1 h2 h3 st
    subst h1; subst h2; subst h3
    exact Or.inl ⟨v, (T.setVm vm₁).calling g' mk (Value.ref b :: As).toArray, t, U', L, hT, X', hL, e1, e2, hq, st⟩
  · dsimp only [Pt.U, Pt.locs, Pt.cells, Pt.slots] at X' e1 e2 h1 h2 h3 st hcl
    subst h1; subst h2; subst h3
    exact Or.inr ⟨q, (T.setVm vm₁).calling g' mk (Value.ref b :: As).toArray, t, U', L, E, ce, hT, X', hL, e1, e2, hq, hce, hcv, vx_cls hW₁ hcl, st⟩
theorem vx_runSX {hh : List (Nat × Nat × Nat × Nat)} (S : CallFix p m c cc nL s args Ts own) (hM : vx_Met l y ws rm Pc Qc XC mc ms free) (cw : vx_CSW R s args own index y bytes maxL ret hh ws rm mc ms n) (hp : PreS s H Pc As)
    (hg : g.method = m) (hn : As.length = n) (hsize : g.locals.size = nL) (hstack : g.stack = As.reverse ++ rest) (hW : 2 * g.monitorRoom + (rest.map fun v => v.category).sum ≤ 8) (hdg : decode cc g.pc = .ok (.invokestatic index, 3)) (hf : cells + mc ≤ R.cells ∧ slots + ms ≤ R.slots) :
    vx_Run p l e R s m args below meth c H locs cells slots mc ms g rest (Qc As.toArray) XC free := by
  obtain ⟨⟨hrc, hrs, hfr, hlo, hws, hcw⟩, hcode, hini, hy, hlen, hl, hstt⟩ := cw
  have hK : vx_Back l R p e below s args y 3 8 (PreOf R mc ms Pc) (PostOf Qc mc ms free) (vx_Post XC mc ms free) := vx_backW (hh := hh) (bytes := bytes) (maxL := maxL) (ret := ret) hM hp.1 hrc hrs hfr hlo hws hcw (fun a' U hW => word_at hW (Or.inl (by first | rfl | simp [Cond.onTables, Cond.keeps, Cond.steady])) hini)
  obtain ⟨hx, hb, hml, ho, -⟩ := S
  intro T hT X
  rcases vx_callSX X hx (hh := hh) (bytes := bytes) (maxL := maxL) (ret := ret) ho hl hstt hini hcode hy hK hg (hsize.trans hml.symm) (argsL := As) (rest := rest) (fun sig h => hn.trans (hlen sig h)) hstack hW (by rw [hb]; exact hdg)
    (fun vm₁ hW₁ => ⟨hf.1, hf.2, hp.2 (T.setVm vm₁) hT hW₁⟩) with ⟨v, vm₁, ⟨U', l2, c2, s2⟩, hW₁, X', ⟨g', mk, t, L, e1, e2, hq, h1, hL, h2, h3⟩, st⟩ | ⟨q, vm₁, ⟨U', l2, c2, s2⟩, hW₁, X', ⟨g', mk, t, L, E, ce, e1, e2, hq, hce, hcv, hcl, h1, hL, h2, h3⟩, st⟩
  · dsimp only [Pt.U, Pt.locs, Pt.cells, Pt.slots] at X' e1 e2 h1 h2 h3 st
    subst h1; subst h2; subst h3
    exact Or.inl ⟨v, (T.setVm vm₁).calling g' mk As.toArray, t, U', L, hT, X', hL, e1, e2, hq, st⟩
  · dsimp only [Pt.U, Pt.locs, Pt.cells, Pt.slots] at X' e1 e2 h1 h2 h3 st hcl
    subst h1; subst h2; subst h3
    exact Or.inr ⟨q, (T.setVm vm₁).calling g' mk As.toArray, t, U', L, E, ce, hT, X', hL, e1, e2, hq, hce, hcv, vx_cls hW₁ hcl, st⟩
end
end VXH
theorem vx_ofWH {l : Launch} {y : MethodName} {ws ws' : List Cond} {rm : Room} {Pc : Array Value → State → Prop} {Qc : Array Value → State → Outcome → State → Prop} {XC : String → State → State → Prop} {mc ms : Nat} {free : Addr → Prop} {cc : ByteArray} {maxL : Nat} {ret : Option FieldType} {hh : List (Nat × Nat × Nat × Nat)}
    (hy : plainName y.cls = true) (hw : ws = Cond.codeWith y cc maxL ret hh :: ws')
    (body : ∀ p e s m args below meth c s₁, BodyLoose p l y (headSpec ws rm) cc maxL ret e s m args below meth c s₁ → c.maxLocals = maxL → Pc args s →
      W p l e (headSpec ws rm).room s m args below meth c s.heap [] 0 0 (vx_MQ below Qc XC args s mc ms free) (entryFrame m args maxL)) : vx_Met l y ws rm Pc Qc XC mc ms free := by
  refine MetFree.of_bodyS (code := cc) (maxLocals := maxL) (ret := ret) hy ?_ ?_
  · intro args s m h hn
    obtain ⟨m9, meth, c, hn9, h1, h2, h3, h4, -, h5, h6, -⟩ := Cond.codeWith_spec (atoms_spec (ws := ws) h _ (by rw [hw]; exact List.mem_cons_self))
    cases hn.symm.trans hn9
    exact ⟨meth, c, h1, h2, h3, h4, h5, h6⟩
  · intro p e s m args below meth c s₁ B hml hP _
    have hh0 : s₁.heap = s.heap := by rw [B.state]; rfl
    obtain ⟨t, a1, o, b1, b2, b3⟩ := body p e s m args below meth c s₁ B hml hP s₁ hh0 (Stand.of_body B)
    exact ⟨t, o, a1, b1, b2, b3⟩
/-! ===== END ===== -/
end
section
def RX0 : String := "ClauseShop$Contract"
def TX0 : u_T := fun k => match k with
  | 0 => ("ClauseShop$Contract", "items", "[LClauseShop$Version;", true)
  | 1 => ("ClauseShop$Contract", "marks", "[[I", true)
  | 2 => ("ClauseShop$Contract", "signed", "[Z", true)
  | 3 => ("ClauseShop$Contract", "breaches", "[I", true)
  | _ => ("ClauseShop$Contract", "penalties", "[I", true)
def tyX0 : Nat → FieldType := fun k => match k with
  | 0 => .array (.object "ClauseShop$Version")
  | 1 => .array (.array .int)
  | 2 => .array .boolean
  | 3 => .array .int
  | _ => .array .int
abbrev wsX00 : List Cond := u_ws RX0 TX0 5
theorem nmX0 : ∀ a, a < 5 → ∀ b, b < 5 → a ≠ b → (TX0 a).2.1 ≠ (TX0 b).2.1 := by decide +kernel
theorem tyX0_ok : ∀ k, k < 5 → parseFieldDescriptor (TX0 k).2.2.1 = some (tyX0 k) := by decide +kernel
abbrev cX0_init : ByteArray := prog_2_method_1_code
def yX0_init : MethodName := ⟨RX0, "<init>", "()V"⟩
abbrev cX0_isDraft : ByteArray := prog_2_method_2_code
def yX0_isDraft : MethodName := ⟨RX0, "isDraft", "()Z"⟩
abbrev cX0_loseSignatures : ByteArray := prog_2_method_3_code
def yX0_loseSignatures : MethodName := ⟨RX0, "loseSignatures", "()V"⟩
abbrev cX0_bringIn : ByteArray := prog_2_method_4_code
def yX0_bringIn : MethodName := ⟨RX0, "bringIn", "(LClauseShop$Version;II)V"⟩
abbrev cX0_changeMark : ByteArray := prog_2_method_5_code
def yX0_changeMark : MethodName := ⟨RX0, "changeMark", "(III)V"⟩
abbrev cX0_clauseSet : ByteArray := prog_2_method_6_code
def yX0_clauseSet : MethodName := ⟨RX0, "clauseSet", "()I"⟩
abbrev cX0_isAgreed : ByteArray := prog_2_method_7_code
def yX0_isAgreed : MethodName := ⟨RX0, "isAgreed", "()Z"⟩
def RX1 : String := "ClauseShop$Duty"
def TX1 : u_T := fun k => match k with
  | 0 => ("ClauseShop$Duty", "contract", "LClauseShop$Contract;", true)
  | 1 => ("ClauseShop$Duty", "version", "LClauseShop$Version;", true)
  | 2 => ("ClauseShop$Duty", "state", "I", false)
  | _ => ("ClauseShop$Duty", "day", "I", false)
def tyX1 : Nat → FieldType := fun k => match k with
  | 0 => .object "ClauseShop$Contract"
  | 1 => .object "ClauseShop$Version"
  | 2 => .int
  | _ => .int
abbrev wsX10 : List Cond := u_ws RX1 TX1 4
theorem nmX1 : ∀ a, a < 4 → ∀ b, b < 4 → a ≠ b → (TX1 a).2.1 ≠ (TX1 b).2.1 := by decide +kernel
theorem tyX1_ok : ∀ k, k < 4 → parseFieldDescriptor (TX1 k).2.2.1 = some (tyX1 k) := by decide +kernel
abbrev cX1_init : ByteArray := prog_3_method_1_code
def yX1_init : MethodName := ⟨RX1, "<init>", "(LClauseShop$Contract;LClauseShop$Version;I)V"⟩
abbrev cX1_canBeDone : ByteArray := prog_3_method_2_code
def yX1_canBeDone : MethodName := ⟨RX1, "canBeDone", "()Z"⟩
abbrev cX1_isHeldUp : ByteArray := prog_3_method_3_code
def yX1_isHeldUp : MethodName := ⟨RX1, "isHeldUp", "()Z"⟩
abbrev cX1_move : ByteArray := prog_3_method_4_code
def yX1_move : MethodName := ⟨RX1, "move", "(II)V"⟩
abbrev cX1_countBreach : ByteArray := prog_3_method_5_code
def yX1_countBreach : MethodName := ⟨RX1, "countBreach", "(I)V"⟩
def RX2 : String := "ClauseShop$Version"
def TX2 : u_T := fun k => match k with
  | 0 => ("ClauseShop$Version", "number", "I", true)
  | 1 => ("ClauseShop$Version", "obligor", "I", true)
  | 2 => ("ClauseShop$Version", "days", "I", true)
  | 3 => ("ClauseShop$Version", "cure", "I", true)
  | _ => ("ClauseShop$Version", "penalty", "I", true)
def tyX2 : Nat → FieldType := fun k => match k with
  | 0 => .int
  | 1 => .int
  | 2 => .int
  | 3 => .int
  | _ => .int
abbrev wsX20 : List Cond := u_ws RX2 TX2 5
theorem nmX2 : ∀ a, a < 5 → ∀ b, b < 5 → a ≠ b → (TX2 a).2.1 ≠ (TX2 b).2.1 := by decide +kernel
theorem tyX2_ok : ∀ k, k < 5 → parseFieldDescriptor (TX2 k).2.2.1 = some (tyX2 k) := by decide +kernel
abbrev cX2_init : ByteArray := prog_4_method_1_code
def yX2_init : MethodName := ⟨RX2, "<init>", "(IIIII)V"⟩
def RX3 : String := "ClauseShop"
def TX3 : u_T := fun k => match k with
  | 0 => ("ClauseShop", "newest", "[LClauseShop$Version;", true)
  | 1 => ("ClauseShop", "needs", "[I", true)
  | 2 => ("ClauseShop", "forbids", "[I", true)
  | 3 => ("ClauseShop", "contracts", "Ljava/util/ArrayList;", true)
  | 4 => ("ClauseShop", "dutyList", "Ljava/util/ArrayList;", true)
  | _ => ("ClauseShop", "today", "I", false)
def tyX3 : Nat → FieldType := fun k => match k with
  | 0 => .array (.object "ClauseShop$Version")
  | 1 => .array .int
  | 2 => .array .int
  | 3 => .object "java/util/ArrayList"
  | 4 => .object "java/util/ArrayList"
  | _ => .int
abbrev wsX30 : List Cond := u_ws RX3 TX3 6
theorem nmX3 : ∀ a, a < 6 → ∀ b, b < 6 → a ≠ b → (TX3 a).2.1 ≠ (TX3 b).2.1 := by decide +kernel
theorem tyX3_ok : ∀ k, k < 6 → parseFieldDescriptor (TX3 k).2.2.1 = some (tyX3 k) := by decide +kernel
abbrev cX3_init : ByteArray := prog_1_method_1_code
def yX3_init : MethodName := ⟨RX3, "<init>", "()V"⟩
abbrev cX3_issue : ByteArray := prog_1_method_2_code
def yX3_issue : MethodName := ⟨RX3, "issue", "(IIIII)I"⟩
abbrev cX3_relate : ByteArray := prog_1_method_3_code
def yX3_relate : MethodName := ⟨RX3, "relate", "(III)V"⟩
abbrev cX3_latest : ByteArray := prog_1_method_4_code
def yX3_latest : MethodName := ⟨RX3, "latest", "(I)I"⟩
abbrev cX3_begin : ByteArray := prog_1_method_5_code
def yX3_begin : MethodName := ⟨RX3, "begin", "()I"⟩
abbrev cX3_mark : ByteArray := prog_1_method_6_code
def yX3_mark : MethodName := ⟨RX3, "mark", "(IIII)I"⟩
abbrev cX3_renew : ByteArray := prog_1_method_7_code
def yX3_renew : MethodName := ⟨RX3, "renew", "(III)I"⟩
abbrev cX3_version : ByteArray := prog_1_method_8_code
def yX3_version : MethodName := ⟨RX3, "version", "(II)I"⟩
abbrev cX3_offered : ByteArray := prog_1_method_9_code
def yX3_offered : MethodName := ⟨RX3, "offered", "(I)I"⟩
abbrev cX3_whyNot : ByteArray := prog_1_method_10_code
def yX3_whyNot : MethodName := ⟨RX3, "whyNot", "(I)I"⟩
abbrev cX3_sign : ByteArray := prog_1_method_11_code
def yX3_sign : MethodName := ⟨RX3, "sign", "(II)I"⟩
abbrev cX3_pass : ByteArray := prog_1_method_12_code
def yX3_pass : MethodName := ⟨RX3, "pass", "(I)I"⟩
abbrev cX3_duties : ByteArray := prog_1_method_13_code
def yX3_duties : MethodName := ⟨RX3, "duties", "()I"⟩
abbrev cX3_state : ByteArray := prog_1_method_14_code
def yX3_state : MethodName := ⟨RX3, "state", "(I)I"⟩
abbrev cX3_day : ByteArray := prog_1_method_15_code
def yX3_day : MethodName := ⟨RX3, "day", "(I)I"⟩
abbrev cX3_isSuspended : ByteArray := prog_1_method_16_code
def yX3_isSuspended : MethodName := ⟨RX3, "isSuspended", "(I)Z"⟩
abbrev cX3_perform : ByteArray := prog_1_method_17_code
def yX3_perform : MethodName := ⟨RX3, "perform", "(I)Z"⟩
abbrev cX3_notice : ByteArray := prog_1_method_18_code
def yX3_notice : MethodName := ⟨RX3, "notice", "(I)I"⟩
abbrev cX3_settle : ByteArray := prog_1_method_19_code
def yX3_settle : MethodName := ⟨RX3, "settle", "(I)I"⟩
abbrev cX3_owes : ByteArray := prog_1_method_20_code
def yX3_owes : MethodName := ⟨RX3, "owes", "(II)I"⟩
abbrev cX3_isWithin : ByteArray := prog_1_method_21_code
def yX3_isWithin : MethodName := ⟨RX3, "isWithin", "(III)Z"⟩
abbrev cX3_checkClause : ByteArray := prog_1_method_22_code
def yX3_checkClause : MethodName := ⟨RX3, "checkClause", "(I)V"⟩
abbrev cX3_checkSide : ByteArray := prog_1_method_23_code
def yX3_checkSide : MethodName := ⟨RX3, "checkSide", "(I)V"⟩
abbrev cX3_checkOtherClauses : ByteArray := prog_1_method_24_code
def yX3_checkOtherClauses : MethodName := ⟨RX3, "checkOtherClauses", "(II)V"⟩
abbrev cX3_checkDraft : ByteArray := prog_1_method_25_code
def yX3_checkDraft : MethodName := ⟨RX3, "checkDraft", "(LClauseShop$Contract;)V"⟩
abbrev cX3_contractAt : ByteArray := prog_1_method_26_code
def yX3_contractAt : MethodName := ⟨RX3, "contractAt", "(I)LClauseShop$Contract;"⟩
abbrev cX3_dutyAt : ByteArray := prog_1_method_27_code
def yX3_dutyAt : MethodName := ⟨RX3, "dutyAt", "(I)LClauseShop$Duty;"⟩
abbrev cX3_numberOf : ByteArray := prog_1_method_28_code
def yX3_numberOf : MethodName := ⟨RX3, "numberOf", "(LClauseShop$Version;)I"⟩
abbrev cX3_newestNumber : ByteArray := prog_1_method_29_code
def yX3_newestNumber : MethodName := ⟨RX3, "newestNumber", "(I)I"⟩
abbrev cX3_itemNumber : ByteArray := prog_1_method_30_code
def yX3_itemNumber : MethodName := ⟨RX3, "itemNumber", "(LClauseShop$Contract;I)I"⟩
abbrev cX3_hasLaterVersion : ByteArray := prog_1_method_31_code
def yX3_hasLaterVersion : MethodName := ⟨RX3, "hasLaterVersion", "(LClauseShop$Contract;I)Z"⟩
abbrev cX3_obstacle : ByteArray := prog_1_method_32_code
def yX3_obstacle : MethodName := ⟨RX3, "obstacle", "(LClauseShop$Contract;)I"⟩
abbrev cX3_unionOver : ByteArray := prog_1_method_33_code
def yX3_unionOver : MethodName := ⟨RX3, "unionOver", "(I[I)I"⟩
abbrev cX3_makeDuties : ByteArray := prog_1_method_34_code
def yX3_makeDuties : MethodName := ⟨RX3, "makeDuties", "(LClauseShop$Contract;)I"⟩
abbrev cX3_putOffHeldUpDuties : ByteArray := prog_1_method_35_code
def yX3_putOffHeldUpDuties : MethodName := ⟨RX3, "putOffHeldUpDuties", "()V"⟩
abbrev cX3_breachUncuredDuties : ByteArray := prog_1_method_36_code
def yX3_breachUncuredDuties : MethodName := ⟨RX3, "breachUncuredDuties", "()I"⟩
def RX4 : String := "ClauseShopModel"
def TX4 : u_T := fun k => match k with
  | _ => ("", "", "", false)
def tyX4 : Nat → FieldType := fun k => match k with
  | _ => .int
abbrev wsX40 : List Cond := u_ws RX4 TX4 0
theorem nmX4 : ∀ a, a < 0 → ∀ b, b < 0 → a ≠ b → (TX4 a).2.1 ≠ (TX4 b).2.1 := by decide +kernel
theorem tyX4_ok : ∀ k, k < 0 → parseFieldDescriptor (TX4 k).2.2.1 = some (tyX4 k) := by decide +kernel
def RJx145de : String := "java/io/Serializable"
def TJx145de : u_T := fun k => match k with
  | _ => ("", "", "", false)
def tyJx145de : Nat → FieldType := fun k => match k with
  | _ => .int
abbrev wsJx145de0 : List Cond := u_ws RJx145de TJx145de 0
theorem nmJx145de : ∀ a, a < 0 → ∀ b, b < 0 → a ≠ b → (TJx145de a).2.1 ≠ (TJx145de b).2.1 := by decide +kernel
theorem tyJx145de_ok : ∀ k, k < 0 → parseFieldDescriptor (TJx145de k).2.2.1 = some (tyJx145de k) := by decide +kernel
def RJx8e188 : String := "java/lang/Cloneable"
def TJx8e188 : u_T := fun k => match k with
  | _ => ("", "", "", false)
def tyJx8e188 : Nat → FieldType := fun k => match k with
  | _ => .int
abbrev wsJx8e1880 : List Cond := u_ws RJx8e188 TJx8e188 0
theorem nmJx8e188 : ∀ a, a < 0 → ∀ b, b < 0 → a ≠ b → (TJx8e188 a).2.1 ≠ (TJx8e188 b).2.1 := by decide +kernel
theorem tyJx8e188_ok : ∀ k, k < 0 → parseFieldDescriptor (TJx8e188 k).2.2.1 = some (tyJx8e188 k) := by decide +kernel
def RJxab1ab : String := "java/lang/Iterable"
def TJxab1ab : u_T := fun k => match k with
  | _ => ("", "", "", false)
def tyJxab1ab : Nat → FieldType := fun k => match k with
  | _ => .int
abbrev wsJxab1ab0 : List Cond := u_ws RJxab1ab TJxab1ab 0
theorem nmJxab1ab : ∀ a, a < 0 → ∀ b, b < 0 → a ≠ b → (TJxab1ab a).2.1 ≠ (TJxab1ab b).2.1 := by decide +kernel
theorem tyJxab1ab_ok : ∀ k, k < 0 → parseFieldDescriptor (TJxab1ab k).2.2.1 = some (tyJxab1ab k) := by decide +kernel
def RJ9 : String := "java/lang/Math"
def TJ9 : u_T := fun k => match k with
  | _ => ("", "", "", false)
def tyJ9 : Nat → FieldType := fun k => match k with
  | _ => .int
abbrev wsJ90 : List Cond := u_ws RJ9 TJ9 0
theorem nmJ9 : ∀ a, a < 0 → ∀ b, b < 0 → a ≠ b → (TJ9 a).2.1 ≠ (TJ9 b).2.1 := by decide +kernel
theorem tyJ9_ok : ∀ k, k < 0 → parseFieldDescriptor (TJ9 k).2.2.1 = some (tyJ9 k) := by decide +kernel
abbrev cJ9_max_7cf53 : ByteArray := prog_14_method_65_code
def yJ9_max_7cf53 : MethodName := ⟨RJ9, "max", "(II)I"⟩
abbrev cJ9_min_7cf53 : ByteArray := prog_14_method_69_code
def yJ9_min_7cf53 : MethodName := ⟨RJ9, "min", "(II)I"⟩
def RJ0 : String := "java/lang/String"
def TJ0 : u_T := fun k => match k with
  | _ => ("", "", "", false)
def tyJ0 : Nat → FieldType := fun k => match k with
  | _ => .int
abbrev wsJ00 : List Cond := u_ws RJ0 TJ0 0
theorem nmJ0 : ∀ a, a < 0 → ∀ b, b < 0 → a ≠ b → (TJ0 a).2.1 ≠ (TJ0 b).2.1 := by decide +kernel
theorem tyJ0_ok : ∀ k, k < 0 → parseFieldDescriptor (TJ0 k).2.2.1 = some (tyJ0 k) := by decide +kernel
def RJ10 : String := "java/lang/System"
def TJ10 : u_T := fun k => match k with
  | _ => ("", "", "", false)
def tyJ10 : Nat → FieldType := fun k => match k with
  | _ => .int
abbrev wsJ100 : List Cond := u_ws RJ10 TJ10 0
theorem nmJ10 : ∀ a, a < 0 → ∀ b, b < 0 → a ≠ b → (TJ10 a).2.1 ≠ (TJ10 b).2.1 := by decide +kernel
theorem tyJ10_ok : ∀ k, k < 0 → parseFieldDescriptor (TJ10 k).2.2.1 = some (tyJ10 k) := by decide +kernel
def RJxa1e45 : String := "java/util/AbstractCollection"
def TJxa1e45 : u_T := fun k => match k with
  | _ => ("", "", "", false)
def tyJxa1e45 : Nat → FieldType := fun k => match k with
  | _ => .int
abbrev wsJxa1e450 : List Cond := u_ws RJxa1e45 TJxa1e45 0
theorem nmJxa1e45 : ∀ a, a < 0 → ∀ b, b < 0 → a ≠ b → (TJxa1e45 a).2.1 ≠ (TJxa1e45 b).2.1 := by decide +kernel
theorem tyJxa1e45_ok : ∀ k, k < 0 → parseFieldDescriptor (TJxa1e45 k).2.2.1 = some (tyJxa1e45 k) := by decide +kernel
abbrev cJxa1e45_init_da8c8 : ByteArray := prog_19_method_1_code
def yJxa1e45_init_da8c8 : MethodName := ⟨RJxa1e45, "<init>", "()V"⟩
def RJxc12de : String := "java/util/AbstractList"
def TJxc12de : u_T := fun k => match k with
  | _ => ("", "", "", false)
def tyJxc12de : Nat → FieldType := fun k => match k with
  | _ => .int
abbrev wsJxc12de0 : List Cond := u_ws RJxc12de TJxc12de 0
theorem nmJxc12de : ∀ a, a < 0 → ∀ b, b < 0 → a ≠ b → (TJxc12de a).2.1 ≠ (TJxc12de b).2.1 := by decide +kernel
theorem tyJxc12de_ok : ∀ k, k < 0 → parseFieldDescriptor (TJxc12de k).2.2.1 = some (tyJxc12de k) := by decide +kernel
abbrev cJxc12de_init_da8c8 : ByteArray := prog_20_method_1_code
def yJxc12de_init_da8c8 : MethodName := ⟨RJxc12de, "<init>", "()V"⟩
def RJx4a65c : String := "java/util/ArrayList"
def TJx4a65c : u_T := fun k => match k with
  | 0 => ("java/util/AbstractList", "modCount", "I", false)
  | 1 => ("java/util/ArrayList", "elementData", "[Ljava/lang/Object;", false)
  | _ => ("java/util/ArrayList", "size", "I", false)
def tyJx4a65c : Nat → FieldType := fun k => match k with
  | 0 => .int
  | 1 => .array (.object "java/lang/Object")
  | _ => .int
abbrev wsJx4a65c0 : List Cond := u_ws RJx4a65c TJx4a65c 3
theorem nmJx4a65c : ∀ a, a < 3 → ∀ b, b < 3 → a ≠ b → (TJx4a65c a).2.1 ≠ (TJx4a65c b).2.1 := by decide +kernel
theorem tyJx4a65c_ok : ∀ k, k < 3 → parseFieldDescriptor (TJx4a65c k).2.2.1 = some (tyJx4a65c k) := by decide +kernel
abbrev cJx4a65c_init_da8c8 : ByteArray := prog_21_method_2_code
def yJx4a65c_init_da8c8 : MethodName := ⟨RJx4a65c, "<init>", "()V"⟩
abbrev cJx4a65c_grow_92f84 : ByteArray := prog_21_method_6_code
def yJx4a65c_grow_92f84 : MethodName := ⟨RJx4a65c, "grow", "(I)[Ljava/lang/Object;"⟩
abbrev cJx4a65c_grow_d5877 : ByteArray := prog_21_method_7_code
def yJx4a65c_grow_d5877 : MethodName := ⟨RJx4a65c, "grow", "()[Ljava/lang/Object;"⟩
abbrev cJx4a65c_size_8abf5 : ByteArray := prog_21_method_8_code
def yJx4a65c_size_8abf5 : MethodName := ⟨RJx4a65c, "size", "()I"⟩
abbrev cJx4a65c_elementData_915e3 : ByteArray := prog_21_method_18_code
def yJx4a65c_elementData_915e3 : MethodName := ⟨RJx4a65c, "elementData", "(I)Ljava/lang/Object;"⟩
abbrev cJx4a65c_get_915e3 : ByteArray := prog_21_method_20_code
def yJx4a65c_get_915e3 : MethodName := ⟨RJx4a65c, "get", "(I)Ljava/lang/Object;"⟩
abbrev cJx4a65c_add_72be8 : ByteArray := prog_21_method_24_code
def yJx4a65c_add_72be8 : MethodName := ⟨RJx4a65c, "add", "(Ljava/lang/Object;[Ljava/lang/Object;I)V"⟩
abbrev cJx4a65c_add_9ea2d : ByteArray := prog_21_method_25_code
def yJx4a65c_add_9ea2d : MethodName := ⟨RJx4a65c, "add", "(Ljava/lang/Object;)Z"⟩
def RJ7 : String := "java/util/Arrays"
def TJ7 : u_T := fun k => match k with
  | _ => ("", "", "", false)
def tyJ7 : Nat → FieldType := fun k => match k with
  | _ => .int
abbrev wsJ70 : List Cond := u_ws RJ7 TJ7 0
theorem nmJ7 : ∀ a, a < 0 → ∀ b, b < 0 → a ≠ b → (TJ7 a).2.1 ≠ (TJ7 b).2.1 := by decide +kernel
theorem tyJ7_ok : ∀ k, k < 0 → parseFieldDescriptor (TJ7 k).2.2.1 = some (tyJ7 k) := by decide +kernel
abbrev cJ7_copyOf_1904c : ByteArray := prog_22_method_119_code
def yJ7_copyOf_1904c : MethodName := ⟨RJ7, "copyOf", "([Ljava/lang/Object;I)[Ljava/lang/Object;"⟩
abbrev cJ7_copyOf_6403c : ByteArray := prog_22_method_120_code
def yJ7_copyOf_6403c : MethodName := ⟨RJ7, "copyOf", "([Ljava/lang/Object;ILjava/lang/Class;)[Ljava/lang/Object;"⟩
def RJx5ef63 : String := "java/util/Collection"
def TJx5ef63 : u_T := fun k => match k with
  | _ => ("", "", "", false)
def tyJx5ef63 : Nat → FieldType := fun k => match k with
  | _ => .int
abbrev wsJx5ef630 : List Cond := u_ws RJx5ef63 TJx5ef63 0
theorem nmJx5ef63 : ∀ a, a < 0 → ∀ b, b < 0 → a ≠ b → (TJx5ef63 a).2.1 ≠ (TJx5ef63 b).2.1 := by decide +kernel
theorem tyJx5ef63_ok : ∀ k, k < 0 → parseFieldDescriptor (TJx5ef63 k).2.2.1 = some (tyJx5ef63 k) := by decide +kernel
def RJxbd725 : String := "java/util/List"
def TJxbd725 : u_T := fun k => match k with
  | _ => ("", "", "", false)
def tyJxbd725 : Nat → FieldType := fun k => match k with
  | _ => .int
abbrev wsJxbd7250 : List Cond := u_ws RJxbd725 TJxbd725 0
theorem nmJxbd725 : ∀ a, a < 0 → ∀ b, b < 0 → a ≠ b → (TJxbd725 a).2.1 ≠ (TJxbd725 b).2.1 := by decide +kernel
theorem tyJxbd725_ok : ∀ k, k < 0 → parseFieldDescriptor (TJxbd725 k).2.2.1 = some (tyJxbd725 k) := by decide +kernel
def RJ15 : String := "java/util/Objects"
def TJ15 : u_T := fun k => match k with
  | _ => ("", "", "", false)
def tyJ15 : Nat → FieldType := fun k => match k with
  | _ => .int
abbrev wsJ150 : List Cond := u_ws RJ15 TJ15 0
theorem nmJ15 : ∀ a, a < 0 → ∀ b, b < 0 → a ≠ b → (TJ15 a).2.1 ≠ (TJ15 b).2.1 := by decide +kernel
theorem tyJ15_ok : ∀ k, k < 0 → parseFieldDescriptor (TJ15 k).2.2.1 = some (tyJ15 k) := by decide +kernel
abbrev cJ15_checkIndex_7cf53 : ByteArray := prog_25_method_17_code
def yJ15_checkIndex_7cf53 : MethodName := ⟨RJ15, "checkIndex", "(II)I"⟩
def RJxf0a74 : String := "java/util/RandomAccess"
def TJxf0a74 : u_T := fun k => match k with
  | _ => ("", "", "", false)
def tyJxf0a74 : Nat → FieldType := fun k => match k with
  | _ => .int
abbrev wsJxf0a740 : List Cond := u_ws RJxf0a74 TJxf0a74 0
theorem nmJxf0a74 : ∀ a, a < 0 → ∀ b, b < 0 → a ≠ b → (TJxf0a74 a).2.1 ≠ (TJxf0a74 b).2.1 := by decide +kernel
theorem tyJxf0a74_ok : ∀ k, k < 0 → parseFieldDescriptor (TJxf0a74 k).2.2.1 = some (tyJxf0a74 k) := by decide +kernel
def RJxa66e6 : String := "java/util/SequencedCollection"
def TJxa66e6 : u_T := fun k => match k with
  | _ => ("", "", "", false)
def tyJxa66e6 : Nat → FieldType := fun k => match k with
  | _ => .int
abbrev wsJxa66e60 : List Cond := u_ws RJxa66e6 TJxa66e6 0
theorem nmJxa66e6 : ∀ a, a < 0 → ∀ b, b < 0 → a ≠ b → (TJxa66e6 a).2.1 ≠ (TJxa66e6 b).2.1 := by decide +kernel
theorem tyJxa66e6_ok : ∀ k, k < 0 → parseFieldDescriptor (TJxa66e6 k).2.2.1 = some (tyJxa66e6 k) := by decide +kernel
def RJ8 : String := "jdk/internal/util/ArraysSupport"
def TJ8 : u_T := fun k => match k with
  | _ => ("", "", "", false)
def tyJ8 : Nat → FieldType := fun k => match k with
  | _ => .int
abbrev wsJ80 : List Cond := u_ws RJ8 TJ8 0
theorem nmJ8 : ∀ a, a < 0 → ∀ b, b < 0 → a ≠ b → (TJ8 a).2.1 ≠ (TJ8 b).2.1 := by decide +kernel
theorem tyJ8_ok : ∀ k, k < 0 → parseFieldDescriptor (TJ8 k).2.2.1 = some (tyJ8 k) := by decide +kernel
abbrev cJ8_newLength_cabcc : ByteArray := prog_28_method_27_code
def yJ8_newLength_cabcc : MethodName := ⟨RJ8, "newLength", "(III)I"⟩
abbrev cJ8_hugeLength_7cf53 : ByteArray := prog_28_method_28_code
def yJ8_hugeLength_7cf53 : MethodName := ⟨RJ8, "hugeLength", "(II)I"⟩
def RJ3 : String := "jdk/internal/util/Preconditions"
def TJ3 : u_T := fun k => match k with
  | _ => ("", "", "", false)
def tyJ3 : Nat → FieldType := fun k => match k with
  | _ => .int
abbrev wsJ30 : List Cond := u_ws RJ3 TJ3 0
theorem nmJ3 : ∀ a, a < 0 → ∀ b, b < 0 → a ≠ b → (TJ3 a).2.1 ≠ (TJ3 b).2.1 := by decide +kernel
theorem tyJ3_ok : ∀ k, k < 0 → parseFieldDescriptor (TJ3 k).2.2.1 = some (tyJ3 k) := by decide +kernel
abbrev cJ3_checkIndex_8e157 : ByteArray := prog_29_method_11_code
def yJ3_checkIndex_8e157 : MethodName := ⟨RJ3, "checkIndex", "(IILjava/util/function/BiFunction;)I"⟩
def RL : String := "ClauseShopLaw"
abbrev cL_cell : ByteArray := method_2_code
def yL_cell : MethodName := ⟨RL, "cell", "([II)I"⟩
abbrev cL_low : ByteArray := method_3_code
def yL_low : MethodName := ⟨RL, "low", "(II)I"⟩
abbrev cL_issue : ByteArray := method_4_code
def yL_issue : MethodName := ⟨RL, "issue", "(LClauseShop;IIIII)I"⟩
abbrev cL_relate : ByteArray := method_5_code
def yL_relate : MethodName := ⟨RL, "relate", "(LClauseShop;III)I"⟩
abbrev cL_latest : ByteArray := method_6_code
def yL_latest : MethodName := ⟨RL, "latest", "(LClauseShop;I)I"⟩
abbrev cL_begin : ByteArray := method_7_code
def yL_begin : MethodName := ⟨RL, "begin", "(LClauseShop;)I"⟩
abbrev cL_mark : ByteArray := method_8_code
def yL_mark : MethodName := ⟨RL, "mark", "(LClauseShop;IIII)I"⟩
abbrev cL_renew : ByteArray := method_9_code
def yL_renew : MethodName := ⟨RL, "renew", "(LClauseShop;III)I"⟩
abbrev cL_version : ByteArray := method_10_code
def yL_version : MethodName := ⟨RL, "version", "(LClauseShop;II)I"⟩
abbrev cL_offered : ByteArray := method_11_code
def yL_offered : MethodName := ⟨RL, "offered", "(LClauseShop;I)I"⟩
abbrev cL_whyNot : ByteArray := method_12_code
def yL_whyNot : MethodName := ⟨RL, "whyNot", "(LClauseShop;I)I"⟩
abbrev cL_sign : ByteArray := method_13_code
def yL_sign : MethodName := ⟨RL, "sign", "(LClauseShop;II)I"⟩
abbrev cL_pass : ByteArray := method_14_code
def yL_pass : MethodName := ⟨RL, "pass", "(LClauseShop;I)I"⟩
abbrev cL_state : ByteArray := method_15_code
def yL_state : MethodName := ⟨RL, "state", "(LClauseShop;I)I"⟩
abbrev cL_day : ByteArray := method_16_code
def yL_day : MethodName := ⟨RL, "day", "(LClauseShop;I)I"⟩
abbrev cL_perform : ByteArray := method_17_code
def yL_perform : MethodName := ⟨RL, "perform", "(LClauseShop;I)I"⟩
abbrev cL_notice : ByteArray := method_18_code
def yL_notice : MethodName := ⟨RL, "notice", "(LClauseShop;I)I"⟩
abbrev cL_settle : ByteArray := method_19_code
def yL_settle : MethodName := ⟨RL, "settle", "(LClauseShop;I)I"⟩
abbrev cL_owes : ByteArray := method_20_code
def yL_owes : MethodName := ⟨RL, "owes", "(LClauseShop;II)I"⟩
abbrev cL_writes : ByteArray := method_21_code
def yL_writes : MethodName := ⟨RL, "writes", "(LClauseShop;III[I[I[I)Z"⟩
abbrev cL_reason : ByteArray := method_22_code
def yL_reason : MethodName := ⟨RL, "reason", "([I[I[II)I"⟩
abbrev cL_drafts : ByteArray := method_23_code
def yL_drafts : MethodName := ⟨RL, "drafts", "(LClauseShop;III[I[I[I[I[I[I[I[I)Z"⟩
abbrev cL_breached : ByteArray := method_24_code
def yL_breached : MethodName := ⟨RL, "breached", "([I[II)I"⟩
abbrev cL_isSuspended : ByteArray := method_25_code
def yL_isSuspended : MethodName := ⟨RL, "isSuspended", "([I[II)Z"⟩
abbrev cL_passes : ByteArray := method_26_code
def yL_passes : MethodName := ⟨RL, "passes", "(I[I[I[I)I"⟩
abbrev cL_works : ByteArray := method_27_code
def yL_works : MethodName := ⟨RL, "works", "(LClauseShop;III[I[I[I)Z"⟩
abbrev cL_isTold : ByteArray := method_28_code
def yL_isTold : MethodName := ⟨RL, "isTold", "(LClauseShop;I[I[I[I[I[I[I[I)Z"⟩
abbrev cL_law : ByteArray := code
def yL_law : MethodName := ⟨RL, "law", "([I)Z"⟩
def wsX0_init : List Cond := .code yX0_init cX0_init 1 none :: ([.methodLink RX0 3 objectInit, .instanceMethod objectInit, .code objectInit ⟨#[0xb1]⟩ 1 none, .classLink RX0 9 RX2, .fieldLink RX0 11 "ClauseShop$Contract" "items" "[LClauseShop$Version;", .classLink RX0 17 "[[I", .arrayClass .int, .fieldLink RX0 19 "ClauseShop$Contract" "marks" "[[I", .arrayClass .boolean, .fieldLink RX0 22 "ClauseShop$Contract" "signed" "[Z", .fieldLink RX0 26 "ClauseShop$Contract" "breaches" "[I", .fieldLink RX0 30 "ClauseShop$Contract" "penalties" "[I"] ++ wsX00)
def wsX0_isDraft : List Cond := .code yX0_isDraft cX0_isDraft 1 (some .boolean) :: ([.fieldLink RX0 22 "ClauseShop$Contract" "signed" "[Z"] ++ wsX00)
def wsX0_loseSignatures : List Cond := .code yX0_loseSignatures cX0_loseSignatures 1 none :: ([.fieldLink RX0 22 "ClauseShop$Contract" "signed" "[Z"] ++ wsX00)
def wsX0_bringIn : List Cond := .code yX0_bringIn cX0_bringIn 4 none :: ([.fieldLink RX0 11 "ClauseShop$Contract" "items" "[LClauseShop$Version;", .fieldLink RX0 19 "ClauseShop$Contract" "marks" "[[I", .methodLink RX0 33 yX0_loseSignatures, .instanceMethod yX0_loseSignatures, .selects RX0 yX0_loseSignatures yX0_loseSignatures, .initialized RX0, .code yX0_loseSignatures cX0_loseSignatures 1 none, .fieldLink RX0 22 "ClauseShop$Contract" "signed" "[Z"] ++ wsX00)
def wsX0_changeMark : List Cond := .code yX0_changeMark cX0_changeMark 4 none :: ([.fieldLink RX0 19 "ClauseShop$Contract" "marks" "[[I", .fieldLink RX0 11 "ClauseShop$Contract" "items" "[LClauseShop$Version;", .methodLink RX0 33 yX0_loseSignatures, .instanceMethod yX0_loseSignatures, .selects RX0 yX0_loseSignatures yX0_loseSignatures, .initialized RX0, .code yX0_loseSignatures cX0_loseSignatures 1 none, .fieldLink RX0 22 "ClauseShop$Contract" "signed" "[Z"] ++ wsX00)
def wsX0_clauseSet : List Cond := .code yX0_clauseSet cX0_clauseSet 3 (some .int) :: ([.fieldLink RX0 11 "ClauseShop$Contract" "items" "[LClauseShop$Version;"] ++ wsX00)
def wsX0_isAgreed : List Cond := .code yX0_isAgreed cX0_isAgreed 2 (some .boolean) :: ([.fieldLink RX0 11 "ClauseShop$Contract" "items" "[LClauseShop$Version;", .fieldLink RX0 19 "ClauseShop$Contract" "marks" "[[I"] ++ wsX00)
def wsX1_init : List Cond := .code yX1_init cX1_init 4 none :: ([.methodLink RX1 3 objectInit, .instanceMethod objectInit, .code objectInit ⟨#[0xb1]⟩ 1 none, .fieldLink RX1 9 "ClauseShop$Duty" "state" "I", .fieldLink RX1 15 "ClauseShop$Duty" "contract" "LClauseShop$Contract;", .fieldLink RX1 19 "ClauseShop$Duty" "version" "LClauseShop$Version;", .fieldLink RX1 23 "ClauseShop$Duty" "day" "I"] ++ wsX10)
def wsX1_canBeDone : List Cond := .code yX1_canBeDone cX1_canBeDone 1 (some .boolean) :: ([.fieldLink RX1 9 "ClauseShop$Duty" "state" "I"] ++ wsX10)
def wsX1_isHeldUp : List Cond := .code yX1_isHeldUp cX1_isHeldUp 1 (some .boolean) :: ([.fieldLink RX1 15 "ClauseShop$Duty" "contract" "LClauseShop$Contract;", .fieldLink RX1 30 "ClauseShop$Contract" "breaches" "[I", .fieldLink RX1 19 "ClauseShop$Duty" "version" "LClauseShop$Version;", .fieldLink RX1 36 "ClauseShop$Version" "obligor" "I", .methodLink RX1 26 yX1_canBeDone, .instanceMethod yX1_canBeDone, .selects RX1 yX1_canBeDone yX1_canBeDone, .initialized RX1, .code yX1_canBeDone cX1_canBeDone 1 (some .boolean), .fieldLink RX1 9 "ClauseShop$Duty" "state" "I"] ++ wsX10 ++ wsX00 ++ wsX20)
def wsX1_move : List Cond := .code yX1_move cX1_move 3 none :: ([.fieldLink RX1 9 "ClauseShop$Duty" "state" "I", .fieldLink RX1 23 "ClauseShop$Duty" "day" "I"] ++ wsX10)
def wsX1_countBreach : List Cond := .code yX1_countBreach cX1_countBreach 2 none :: ([.fieldLink RX1 15 "ClauseShop$Duty" "contract" "LClauseShop$Contract;", .fieldLink RX1 30 "ClauseShop$Contract" "breaches" "[I", .fieldLink RX1 19 "ClauseShop$Duty" "version" "LClauseShop$Version;", .fieldLink RX1 36 "ClauseShop$Version" "obligor" "I", .fieldLink RX1 41 "ClauseShop$Contract" "penalties" "[I", .fieldLink RX1 44 "ClauseShop$Version" "penalty" "I"] ++ wsX10 ++ wsX00 ++ wsX20)
def wsX2_init : List Cond := .code yX2_init cX2_init 6 none :: ([.methodLink RX2 1 objectInit, .instanceMethod objectInit, .code objectInit ⟨#[0xb1]⟩ 1 none, .fieldLink RX2 7 "ClauseShop$Version" "number" "I", .fieldLink RX2 13 "ClauseShop$Version" "obligor" "I", .fieldLink RX2 16 "ClauseShop$Version" "days" "I", .fieldLink RX2 19 "ClauseShop$Version" "cure" "I", .fieldLink RX2 22 "ClauseShop$Version" "penalty" "I"] ++ wsX20)
def wsJxa1e45_init_da8c8 : List Cond := .code yJxa1e45_init_da8c8 cJxa1e45_init_da8c8 1 none :: ([.methodLink RJxa1e45 1 objectInit, .instanceMethod objectInit, .code objectInit ⟨#[0xb1]⟩ 1 none])
def wsJxc12de_init_da8c8 : List Cond := .code yJxc12de_init_da8c8 cJxc12de_init_da8c8 1 none :: ([.fieldLink RJxc12de 7 "java/util/AbstractList" "modCount" "I", .methodLink RJxc12de 1 yJxa1e45_init_da8c8, .instanceMethod yJxa1e45_init_da8c8, .initialized RJxa1e45, .code yJxa1e45_init_da8c8 cJxa1e45_init_da8c8 1 none, .methodLink RJxa1e45 1 objectInit, .instanceMethod objectInit, .code objectInit ⟨#[0xb1]⟩ 1 none] ++ wsJx4a65c0)
def wsJx4a65c_init_da8c8 : List Cond := .code yJx4a65c_init_da8c8 cJx4a65c_init_da8c8 1 none :: ([.fieldLink RJx4a65c 39 "java/util/ArrayList" "DEFAULTCAPACITY_EMPTY_ELEMENTDATA" "[Ljava/lang/Object;", .fieldLink RJx4a65c 9 "java/util/ArrayList" "elementData" "[Ljava/lang/Object;", .methodLink RJx4a65c 1 yJxc12de_init_da8c8, .instanceMethod yJxc12de_init_da8c8, .initialized RJxc12de, .code yJxc12de_init_da8c8 cJxc12de_init_da8c8 1 none, .fieldLink RJxc12de 7 "java/util/AbstractList" "modCount" "I", .methodLink RJxc12de 1 yJxa1e45_init_da8c8, .instanceMethod yJxa1e45_init_da8c8, .initialized RJxa1e45, .code yJxa1e45_init_da8c8 cJxa1e45_init_da8c8 1 none, .methodLink RJxa1e45 1 objectInit, .instanceMethod objectInit, .code objectInit ⟨#[0xb1]⟩ 1 none] ++ wsJx4a65c0)
def wsX3_init_r1 : List Cond := [Cond.methodLink RX3 3 objectInit, Cond.instanceMethod objectInit, Cond.code objectInit ⟨#[0xb1]⟩ 1 none, Cond.classLink RX3 9 RX2, Cond.fieldLink RX3 11 "ClauseShop" "newest" "[LClauseShop$Version;", Cond.arrayClass .int, Cond.fieldLink RX3 15 "ClauseShop" "needs" "[I", Cond.fieldLink RX3 19 "ClauseShop" "forbids" "[I", Cond.classLink RX3 22 RJx4a65c, Cond.instantiable RJx4a65c 3, Cond.initialized RJx4a65c, Cond.fieldLink RX3 25 "ClauseShop" "contracts" "Ljava/util/ArrayList;", Cond.fieldLink RX3 29 "ClauseShop" "dutyList" "Ljava/util/ArrayList;", Cond.fieldLink RX3 32 "ClauseShop" "today" "I", Cond.methodLink RX3 24 yJx4a65c_init_da8c8, Cond.instanceMethod yJx4a65c_init_da8c8, Cond.code yJx4a65c_init_da8c8 cJx4a65c_init_da8c8 1 none, Cond.fieldLink RJx4a65c 39 "java/util/ArrayList" "DEFAULTCAPACITY_EMPTY_ELEMENTDATA" "[Ljava/lang/Object;", Cond.fieldLink RJx4a65c 9 "java/util/ArrayList" "elementData" "[Ljava/lang/Object;", Cond.methodLink RJx4a65c 1 yJxc12de_init_da8c8, Cond.instanceMethod yJxc12de_init_da8c8, Cond.initialized RJxc12de, Cond.code yJxc12de_init_da8c8 cJxc12de_init_da8c8 1 none, Cond.fieldLink RJxc12de 7 "java/util/AbstractList" "modCount" "I"]
def wsX3_init_r2 : List Cond := [Cond.methodLink RJxc12de 1 yJxa1e45_init_da8c8, Cond.instanceMethod yJxa1e45_init_da8c8, Cond.initialized RJxa1e45, Cond.code yJxa1e45_init_da8c8 cJxa1e45_init_da8c8 1 none, Cond.methodLink RJxa1e45 1 objectInit]
def wsX3_init : List Cond := .code yX3_init cX3_init 1 none :: ((wsX3_init_r1 ++ wsX3_init_r2) ++ wsX30 ++ wsJx4a65c0)
def wsX3_isWithin : List Cond := .code yX3_isWithin cX3_isWithin 3 (some .boolean) :: ([])
def wsX3_checkClause : List Cond := .code yX3_checkClause cX3_checkClause 1 none :: ([.classLink RX3 47 "java/lang/IllegalArgumentException", .initialized "java/lang/IllegalArgumentException", .methodLink RX3 43 yX3_isWithin, .static yX3_isWithin, .initialized RX3, .code yX3_isWithin cX3_isWithin 3 (some .boolean)] ++ (vx_atS RX3 51 "java/lang/IllegalArgumentException" ["java/lang/RuntimeException", "java/lang/Exception"]).filter goodWord)
def wsX3_checkSide : List Cond := .code yX3_checkSide cX3_checkSide 1 none :: ([.classLink RX3 47 "java/lang/IllegalArgumentException", .initialized "java/lang/IllegalArgumentException", .methodLink RX3 43 yX3_isWithin, .static yX3_isWithin, .initialized RX3, .code yX3_isWithin cX3_isWithin 3 (some .boolean)] ++ (vx_atS RX3 51 "java/lang/IllegalArgumentException" ["java/lang/RuntimeException", "java/lang/Exception"]).filter goodWord)
def wsX3_numberOf : List Cond := .code yX3_numberOf cX3_numberOf 1 (some .int) :: ([.fieldLink RX3 215 "ClauseShop$Version" "number" "I"] ++ wsX20)
def wsX3_newestNumber : List Cond := .code yX3_newestNumber cX3_newestNumber 2 (some .int) :: ([.fieldLink RX3 11 "ClauseShop" "newest" "[LClauseShop$Version;", .methodLink RX3 218 yX3_numberOf, .static yX3_numberOf, .initialized RX3, .code yX3_numberOf cX3_numberOf 1 (some .int), .fieldLink RX3 215 "ClauseShop$Version" "number" "I"] ++ wsX30 ++ wsX20)
def wsX3_issue_r1 : List Cond := [Cond.classLink RX3 47 "java/lang/IllegalArgumentException", Cond.initialized "java/lang/IllegalArgumentException", Cond.classLink RX3 58 "java/lang/IllegalStateException", Cond.initialized "java/lang/IllegalStateException", Cond.fieldLink RX3 11 "ClauseShop" "newest" "[LClauseShop$Version;", Cond.classLink RX3 9 RX2, Cond.instantiable RX2 5, Cond.initialized RX2, Cond.methodLink RX3 36 yX3_checkClause, Cond.static yX3_checkClause, Cond.initialized RX3, Cond.code yX3_checkClause cX3_checkClause 1 none, Cond.methodLink RX3 43 yX3_isWithin, Cond.static yX3_isWithin, Cond.code yX3_isWithin cX3_isWithin 3 (some .boolean), Cond.methodLink RX3 40 yX3_checkSide, Cond.static yX3_checkSide, Cond.code yX3_checkSide cX3_checkSide 1 none, Cond.methodLink RX3 54 yX3_newestNumber, Cond.instanceMethod yX3_newestNumber, Cond.selects RX3 yX3_newestNumber yX3_newestNumber, Cond.code yX3_newestNumber cX3_newestNumber 2 (some .int), Cond.methodLink RX3 218 yX3_numberOf, Cond.static yX3_numberOf]
def wsX3_issue_r2 : List Cond := [Cond.code yX3_numberOf cX3_numberOf 1 (some .int), Cond.fieldLink RX3 215 "ClauseShop$Version" "number" "I", Cond.methodLink RX3 63 yX2_init, Cond.instanceMethod yX2_init, Cond.code yX2_init cX2_init 6 none, Cond.methodLink RX2 1 objectInit, Cond.instanceMethod objectInit, Cond.code objectInit ⟨#[0xb1]⟩ 1 none, Cond.fieldLink RX2 7 "ClauseShop$Version" "number" "I", Cond.fieldLink RX2 13 "ClauseShop$Version" "obligor" "I", Cond.fieldLink RX2 16 "ClauseShop$Version" "days" "I", Cond.fieldLink RX2 19 "ClauseShop$Version" "cure" "I", Cond.fieldLink RX2 22 "ClauseShop$Version" "penalty" "I"]
def wsX3_issue : List Cond := .code yX3_issue cX3_issue 7 (some .int) :: ((wsX3_issue_r1 ++ wsX3_issue_r2) ++ wsX30 ++ wsX20 ++ (vx_atS RX3 51 "java/lang/IllegalArgumentException" ["java/lang/RuntimeException", "java/lang/Exception"]).filter goodWord ++ (vx_atS RX3 62 "java/lang/IllegalStateException" ["java/lang/RuntimeException", "java/lang/Exception"]).filter goodWord)
def wsX3_checkOtherClauses : List Cond := .code yX3_checkOtherClauses cX3_checkOtherClauses 2 none :: ([.classLink RX3 47 "java/lang/IllegalArgumentException", .initialized "java/lang/IllegalArgumentException", .methodLink RX3 43 yX3_isWithin, .static yX3_isWithin, .initialized RX3, .code yX3_isWithin cX3_isWithin 3 (some .boolean)] ++ (vx_atS RX3 51 "java/lang/IllegalArgumentException" ["java/lang/RuntimeException", "java/lang/Exception"]).filter goodWord)
def wsX3_relate : List Cond := .code yX3_relate cX3_relate 4 none :: ([.fieldLink RX3 15 "ClauseShop" "needs" "[I", .fieldLink RX3 19 "ClauseShop" "forbids" "[I", .methodLink RX3 36 yX3_checkClause, .static yX3_checkClause, .initialized RX3, .code yX3_checkClause cX3_checkClause 1 none, .classLink RX3 47 "java/lang/IllegalArgumentException", .initialized "java/lang/IllegalArgumentException", .methodLink RX3 43 yX3_isWithin, .static yX3_isWithin, .code yX3_isWithin cX3_isWithin 3 (some .boolean), .methodLink RX3 66 yX3_checkOtherClauses, .static yX3_checkOtherClauses, .code yX3_checkOtherClauses cX3_checkOtherClauses 2 none] ++ wsX30 ++ (vx_atS RX3 51 "java/lang/IllegalArgumentException" ["java/lang/RuntimeException", "java/lang/Exception"]).filter goodWord)
def wsX3_latest : List Cond := .code yX3_latest cX3_latest 2 (some .int) :: ([.methodLink RX3 36 yX3_checkClause, .static yX3_checkClause, .initialized RX3, .code yX3_checkClause cX3_checkClause 1 none, .classLink RX3 47 "java/lang/IllegalArgumentException", .initialized "java/lang/IllegalArgumentException", .methodLink RX3 43 yX3_isWithin, .static yX3_isWithin, .code yX3_isWithin cX3_isWithin 3 (some .boolean), .methodLink RX3 54 yX3_newestNumber, .instanceMethod yX3_newestNumber, .selects RX3 yX3_newestNumber yX3_newestNumber, .code yX3_newestNumber cX3_newestNumber 2 (some .int), .fieldLink RX3 11 "ClauseShop" "newest" "[LClauseShop$Version;", .methodLink RX3 218 yX3_numberOf, .static yX3_numberOf, .code yX3_numberOf cX3_numberOf 1 (some .int), .fieldLink RX3 215 "ClauseShop$Version" "number" "I"] ++ wsX30 ++ wsX20 ++ (vx_atS RX3 51 "java/lang/IllegalArgumentException" ["java/lang/RuntimeException", "java/lang/Exception"]).filter goodWord)
def wsJx4a65c_size_8abf5 : List Cond := .code yJx4a65c_size_8abf5 cJx4a65c_size_8abf5 1 (some .int) :: ([.fieldLink RJx4a65c 48 "java/util/ArrayList" "size" "I"] ++ wsJx4a65c0)
def wsJ8_hugeLength_7cf53 : List Cond := .code yJ8_hugeLength_7cf53 cJ8_hugeLength_7cf53 3 (some .int) :: ([.constant RJ8 200 (2147483639)])
def wsJ8_newLength_cabcc : List Cond := .code yJ8_newLength_cabcc cJ8_newLength_cabcc 4 (some .int) :: ([.methodLink RJ8 194 Lib.Math.max.name, .static Lib.Math.max.name, .initialized "java/lang/Math", .code Lib.Math.max.name Lib.Math.max.code 2 (some .int), .constant RJ8 200 (2147483639), .methodLink RJ8 201 yJ8_hugeLength_7cf53, .static yJ8_hugeLength_7cf53, .initialized RJ8, .code yJ8_hugeLength_7cf53 cJ8_hugeLength_7cf53 3 (some .int)])
def wsJ7_copyOf_6403c : List Cond := .code yJ7_copyOf_6403c cJ7_copyOf_6403c 4 (some (.array (.object "java/lang/Object"))) :: ([.classLink RJ7 110 "[Ljava/lang/Object;", .classLink RJ7 2 "java/lang/Object", .methodLink RJ7 304 Lib.Math.min.name, .static Lib.Math.min.name, .initialized "java/lang/Math", .code Lib.Math.min.name Lib.Math.min.code 2 (some .int), .methodLink RJ7 150 arraycopyName, .native arraycopyName, .static arraycopyName, .initialized "java/lang/System"])
def wsJ7_copyOf_1904c : List Cond := .code yJ7_copyOf_1904c cJ7_copyOf_1904c 2 (some (.array (.object "java/lang/Object"))) :: ([.methodLink RJ7 86 ⟨"java/lang/Object", "getClass", "()Ljava/lang/Class;"⟩, .selects "[Ljava/lang/Object;" ⟨"java/lang/Object", "getClass", "()Ljava/lang/Class;"⟩ ⟨"java/lang/Object", "getClass", "()Ljava/lang/Class;"⟩, .instanceMethod ⟨"java/lang/Object", "getClass", "()Ljava/lang/Class;"⟩, .native ⟨"java/lang/Object", "getClass", "()Ljava/lang/Class;"⟩, .methodLink RJ7 300 yJ7_copyOf_6403c, .static yJ7_copyOf_6403c, .initialized RJ7, .code yJ7_copyOf_6403c cJ7_copyOf_6403c 4 (some (.array (.object "java/lang/Object"))), .classLink RJ7 110 "[Ljava/lang/Object;", .classLink RJ7 2 "java/lang/Object", .methodLink RJ7 304 Lib.Math.min.name, .static Lib.Math.min.name, .initialized "java/lang/Math", .code Lib.Math.min.name Lib.Math.min.code 2 (some .int), .methodLink RJ7 150 arraycopyName, .native arraycopyName, .static arraycopyName, .initialized "java/lang/System"])
def wsJx4a65c_grow_92f84_r1 : List Cond := [Cond.fieldLink RJx4a65c 9 "java/util/ArrayList" "elementData" "[Ljava/lang/Object;", Cond.fieldLink RJx4a65c 39 "java/util/ArrayList" "DEFAULTCAPACITY_EMPTY_ELEMENTDATA" "[Ljava/lang/Object;", Cond.methodLink RJx4a65c 79 Lib.Math.max.name, Cond.static Lib.Math.max.name, Cond.initialized "java/lang/Math", Cond.code Lib.Math.max.name Lib.Math.max.code 2 (some .int), Cond.classLink RJx4a65c 7 "java/lang/Object", Cond.methodLink RJx4a65c 73 yJ8_newLength_cabcc, Cond.static yJ8_newLength_cabcc, Cond.initialized RJ8, Cond.code yJ8_newLength_cabcc cJ8_newLength_cabcc 4 (some .int), Cond.methodLink RJ8 194 Lib.Math.max.name, Cond.constant RJ8 200 (2147483639), Cond.methodLink RJ8 201 yJ8_hugeLength_7cf53, Cond.static yJ8_hugeLength_7cf53, Cond.code yJ8_hugeLength_7cf53 cJ8_hugeLength_7cf53 3 (some .int), Cond.methodLink RJx4a65c 66 yJ7_copyOf_1904c, Cond.static yJ7_copyOf_1904c, Cond.initialized RJ7, Cond.code yJ7_copyOf_1904c cJ7_copyOf_1904c 2 (some (.array (.object "java/lang/Object"))), Cond.methodLink RJ7 86 ⟨"java/lang/Object", "getClass", "()Ljava/lang/Class;"⟩, Cond.selects "[Ljava/lang/Object;" ⟨"java/lang/Object", "getClass", "()Ljava/lang/Class;"⟩ ⟨"java/lang/Object", "getClass", "()Ljava/lang/Class;"⟩, Cond.instanceMethod ⟨"java/lang/Object", "getClass", "()Ljava/lang/Class;"⟩, Cond.native ⟨"java/lang/Object", "getClass", "()Ljava/lang/Class;"⟩]
def wsJx4a65c_grow_92f84_r2 : List Cond := [Cond.methodLink RJ7 300 yJ7_copyOf_6403c, Cond.static yJ7_copyOf_6403c, Cond.code yJ7_copyOf_6403c cJ7_copyOf_6403c 4 (some (.array (.object "java/lang/Object"))), Cond.classLink RJ7 110 "[Ljava/lang/Object;", Cond.classLink RJ7 2 "java/lang/Object", Cond.methodLink RJ7 304 Lib.Math.min.name, Cond.static Lib.Math.min.name, Cond.code Lib.Math.min.name Lib.Math.min.code 2 (some .int), Cond.methodLink RJ7 150 arraycopyName, Cond.native arraycopyName, Cond.static arraycopyName, Cond.initialized "java/lang/System"]
def wsJx4a65c_grow_92f84 : List Cond := .code yJx4a65c_grow_92f84 cJx4a65c_grow_92f84 4 (some (.array (.object "java/lang/Object"))) :: ((wsJx4a65c_grow_92f84_r1 ++ wsJx4a65c_grow_92f84_r2) ++ wsJx4a65c0)
def wsJx4a65c_grow_d5877_r1 : List Cond := [Cond.fieldLink RJx4a65c 48 "java/util/ArrayList" "size" "I", Cond.methodLink RJx4a65c 69 yJx4a65c_grow_92f84, Cond.instanceMethod yJx4a65c_grow_92f84, Cond.selects RJx4a65c yJx4a65c_grow_92f84 yJx4a65c_grow_92f84, Cond.initialized RJx4a65c, Cond.code yJx4a65c_grow_92f84 cJx4a65c_grow_92f84 4 (some (.array (.object "java/lang/Object"))), Cond.fieldLink RJx4a65c 9 "java/util/ArrayList" "elementData" "[Ljava/lang/Object;", Cond.fieldLink RJx4a65c 39 "java/util/ArrayList" "DEFAULTCAPACITY_EMPTY_ELEMENTDATA" "[Ljava/lang/Object;", Cond.methodLink RJx4a65c 79 Lib.Math.max.name, Cond.static Lib.Math.max.name, Cond.initialized "java/lang/Math", Cond.code Lib.Math.max.name Lib.Math.max.code 2 (some .int), Cond.classLink RJx4a65c 7 "java/lang/Object", Cond.methodLink RJx4a65c 73 yJ8_newLength_cabcc, Cond.static yJ8_newLength_cabcc, Cond.initialized RJ8, Cond.code yJ8_newLength_cabcc cJ8_newLength_cabcc 4 (some .int), Cond.methodLink RJ8 194 Lib.Math.max.name, Cond.constant RJ8 200 (2147483639), Cond.methodLink RJ8 201 yJ8_hugeLength_7cf53, Cond.static yJ8_hugeLength_7cf53, Cond.code yJ8_hugeLength_7cf53 cJ8_hugeLength_7cf53 3 (some .int), Cond.methodLink RJx4a65c 66 yJ7_copyOf_1904c, Cond.static yJ7_copyOf_1904c]
def wsJx4a65c_grow_d5877_r2 : List Cond := [Cond.initialized RJ7, Cond.code yJ7_copyOf_1904c cJ7_copyOf_1904c 2 (some (.array (.object "java/lang/Object"))), Cond.methodLink RJ7 86 ⟨"java/lang/Object", "getClass", "()Ljava/lang/Class;"⟩, Cond.selects "[Ljava/lang/Object;" ⟨"java/lang/Object", "getClass", "()Ljava/lang/Class;"⟩ ⟨"java/lang/Object", "getClass", "()Ljava/lang/Class;"⟩, Cond.instanceMethod ⟨"java/lang/Object", "getClass", "()Ljava/lang/Class;"⟩, Cond.native ⟨"java/lang/Object", "getClass", "()Ljava/lang/Class;"⟩, Cond.methodLink RJ7 300 yJ7_copyOf_6403c, Cond.static yJ7_copyOf_6403c, Cond.code yJ7_copyOf_6403c cJ7_copyOf_6403c 4 (some (.array (.object "java/lang/Object"))), Cond.classLink RJ7 110 "[Ljava/lang/Object;", Cond.classLink RJ7 2 "java/lang/Object", Cond.methodLink RJ7 304 Lib.Math.min.name, Cond.static Lib.Math.min.name, Cond.code Lib.Math.min.name Lib.Math.min.code 2 (some .int), Cond.methodLink RJ7 150 arraycopyName, Cond.native arraycopyName, Cond.static arraycopyName, Cond.initialized "java/lang/System"]
def wsJx4a65c_grow_d5877 : List Cond := .code yJx4a65c_grow_d5877 cJx4a65c_grow_d5877 1 (some (.array (.object "java/lang/Object"))) :: ((wsJx4a65c_grow_d5877_r1 ++ wsJx4a65c_grow_d5877_r2) ++ wsJx4a65c0)
def wsJx4a65c_add_72be8_r1 : List Cond := [Cond.fieldLink RJx4a65c 48 "java/util/ArrayList" "size" "I", Cond.methodLink RJx4a65c 129 yJx4a65c_grow_d5877, Cond.instanceMethod yJx4a65c_grow_d5877, Cond.selects RJx4a65c yJx4a65c_grow_d5877 yJx4a65c_grow_d5877, Cond.initialized RJx4a65c, Cond.code yJx4a65c_grow_d5877 cJx4a65c_grow_d5877 1 (some (.array (.object "java/lang/Object"))), Cond.methodLink RJx4a65c 69 yJx4a65c_grow_92f84, Cond.instanceMethod yJx4a65c_grow_92f84, Cond.selects RJx4a65c yJx4a65c_grow_92f84 yJx4a65c_grow_92f84, Cond.code yJx4a65c_grow_92f84 cJx4a65c_grow_92f84 4 (some (.array (.object "java/lang/Object"))), Cond.fieldLink RJx4a65c 9 "java/util/ArrayList" "elementData" "[Ljava/lang/Object;", Cond.fieldLink RJx4a65c 39 "java/util/ArrayList" "DEFAULTCAPACITY_EMPTY_ELEMENTDATA" "[Ljava/lang/Object;", Cond.methodLink RJx4a65c 79 Lib.Math.max.name, Cond.static Lib.Math.max.name, Cond.initialized "java/lang/Math", Cond.code Lib.Math.max.name Lib.Math.max.code 2 (some .int), Cond.classLink RJx4a65c 7 "java/lang/Object", Cond.methodLink RJx4a65c 73 yJ8_newLength_cabcc, Cond.static yJ8_newLength_cabcc, Cond.initialized RJ8, Cond.code yJ8_newLength_cabcc cJ8_newLength_cabcc 4 (some .int), Cond.methodLink RJ8 194 Lib.Math.max.name, Cond.constant RJ8 200 (2147483639), Cond.methodLink RJ8 201 yJ8_hugeLength_7cf53]
def wsJx4a65c_add_72be8_r2 : List Cond := [Cond.static yJ8_hugeLength_7cf53, Cond.code yJ8_hugeLength_7cf53 cJ8_hugeLength_7cf53 3 (some .int), Cond.methodLink RJx4a65c 66 yJ7_copyOf_1904c, Cond.static yJ7_copyOf_1904c, Cond.initialized RJ7, Cond.code yJ7_copyOf_1904c cJ7_copyOf_1904c 2 (some (.array (.object "java/lang/Object"))), Cond.methodLink RJ7 86 ⟨"java/lang/Object", "getClass", "()Ljava/lang/Class;"⟩, Cond.selects "[Ljava/lang/Object;" ⟨"java/lang/Object", "getClass", "()Ljava/lang/Class;"⟩ ⟨"java/lang/Object", "getClass", "()Ljava/lang/Class;"⟩, Cond.instanceMethod ⟨"java/lang/Object", "getClass", "()Ljava/lang/Class;"⟩, Cond.native ⟨"java/lang/Object", "getClass", "()Ljava/lang/Class;"⟩, Cond.methodLink RJ7 300 yJ7_copyOf_6403c, Cond.static yJ7_copyOf_6403c, Cond.code yJ7_copyOf_6403c cJ7_copyOf_6403c 4 (some (.array (.object "java/lang/Object"))), Cond.classLink RJ7 110 "[Ljava/lang/Object;", Cond.classLink RJ7 2 "java/lang/Object", Cond.methodLink RJ7 304 Lib.Math.min.name, Cond.static Lib.Math.min.name, Cond.code Lib.Math.min.name Lib.Math.min.code 2 (some .int), Cond.methodLink RJ7 150 arraycopyName, Cond.native arraycopyName, Cond.static arraycopyName, Cond.initialized "java/lang/System"]
def wsJx4a65c_add_72be8 : List Cond := .code yJx4a65c_add_72be8 cJx4a65c_add_72be8 4 none :: ((wsJx4a65c_add_72be8_r1 ++ wsJx4a65c_add_72be8_r2) ++ wsJx4a65c0)
def wsJx4a65c_add_9ea2d_r1 : List Cond := [Cond.fieldLink RJx4a65c 63 "java/util/ArrayList" "modCount" "I", Cond.sameField "java/util/ArrayList" "java/util/AbstractList" "modCount" "I", Cond.fieldLink RJx4a65c 9 "java/util/ArrayList" "elementData" "[Ljava/lang/Object;", Cond.fieldLink RJx4a65c 48 "java/util/ArrayList" "size" "I", Cond.methodLink RJx4a65c 131 yJx4a65c_add_72be8, Cond.instanceMethod yJx4a65c_add_72be8, Cond.selects RJx4a65c yJx4a65c_add_72be8 yJx4a65c_add_72be8, Cond.initialized RJx4a65c, Cond.code yJx4a65c_add_72be8 cJx4a65c_add_72be8 4 none, Cond.methodLink RJx4a65c 129 yJx4a65c_grow_d5877, Cond.instanceMethod yJx4a65c_grow_d5877, Cond.selects RJx4a65c yJx4a65c_grow_d5877 yJx4a65c_grow_d5877, Cond.code yJx4a65c_grow_d5877 cJx4a65c_grow_d5877 1 (some (.array (.object "java/lang/Object"))), Cond.methodLink RJx4a65c 69 yJx4a65c_grow_92f84, Cond.instanceMethod yJx4a65c_grow_92f84, Cond.selects RJx4a65c yJx4a65c_grow_92f84 yJx4a65c_grow_92f84, Cond.code yJx4a65c_grow_92f84 cJx4a65c_grow_92f84 4 (some (.array (.object "java/lang/Object"))), Cond.fieldLink RJx4a65c 39 "java/util/ArrayList" "DEFAULTCAPACITY_EMPTY_ELEMENTDATA" "[Ljava/lang/Object;", Cond.methodLink RJx4a65c 79 Lib.Math.max.name, Cond.static Lib.Math.max.name, Cond.initialized "java/lang/Math", Cond.code Lib.Math.max.name Lib.Math.max.code 2 (some .int), Cond.classLink RJx4a65c 7 "java/lang/Object", Cond.methodLink RJx4a65c 73 yJ8_newLength_cabcc]
def wsJx4a65c_add_9ea2d_r2 : List Cond := [Cond.static yJ8_newLength_cabcc, Cond.initialized RJ8, Cond.code yJ8_newLength_cabcc cJ8_newLength_cabcc 4 (some .int), Cond.methodLink RJ8 194 Lib.Math.max.name, Cond.constant RJ8 200 (2147483639), Cond.methodLink RJ8 201 yJ8_hugeLength_7cf53, Cond.static yJ8_hugeLength_7cf53, Cond.code yJ8_hugeLength_7cf53 cJ8_hugeLength_7cf53 3 (some .int), Cond.methodLink RJx4a65c 66 yJ7_copyOf_1904c, Cond.static yJ7_copyOf_1904c, Cond.initialized RJ7, Cond.code yJ7_copyOf_1904c cJ7_copyOf_1904c 2 (some (.array (.object "java/lang/Object"))), Cond.methodLink RJ7 86 ⟨"java/lang/Object", "getClass", "()Ljava/lang/Class;"⟩, Cond.selects "[Ljava/lang/Object;" ⟨"java/lang/Object", "getClass", "()Ljava/lang/Class;"⟩ ⟨"java/lang/Object", "getClass", "()Ljava/lang/Class;"⟩, Cond.instanceMethod ⟨"java/lang/Object", "getClass", "()Ljava/lang/Class;"⟩, Cond.native ⟨"java/lang/Object", "getClass", "()Ljava/lang/Class;"⟩, Cond.methodLink RJ7 300 yJ7_copyOf_6403c, Cond.static yJ7_copyOf_6403c, Cond.code yJ7_copyOf_6403c cJ7_copyOf_6403c 4 (some (.array (.object "java/lang/Object"))), Cond.classLink RJ7 110 "[Ljava/lang/Object;", Cond.classLink RJ7 2 "java/lang/Object", Cond.methodLink RJ7 304 Lib.Math.min.name, Cond.static Lib.Math.min.name, Cond.code Lib.Math.min.name Lib.Math.min.code 2 (some .int)]
def wsJx4a65c_add_9ea2d_r3 : List Cond := [Cond.methodLink RJ7 150 arraycopyName, Cond.native arraycopyName, Cond.static arraycopyName, Cond.initialized "java/lang/System"]
def wsJx4a65c_add_9ea2d : List Cond := .code yJx4a65c_add_9ea2d cJx4a65c_add_9ea2d 2 (some .boolean) :: ((wsJx4a65c_add_9ea2d_r1 ++ (wsJx4a65c_add_9ea2d_r2 ++ wsJx4a65c_add_9ea2d_r3)) ++ wsJx4a65c0)
def wsX3_begin_r1 : List Cond := [Cond.classLink RX3 58 "java/lang/IllegalStateException", Cond.initialized "java/lang/IllegalStateException", Cond.fieldLink RX3 25 "ClauseShop" "contracts" "Ljava/util/ArrayList;", Cond.classLink RX3 76 RX0, Cond.instantiable RX0 5, Cond.initialized RX0, Cond.methodLink RX3 70 yJx4a65c_size_8abf5, Cond.instanceMethod yJx4a65c_size_8abf5, Cond.selects RJx4a65c yJx4a65c_size_8abf5 yJx4a65c_size_8abf5, Cond.initialized RJx4a65c, Cond.code yJx4a65c_size_8abf5 cJx4a65c_size_8abf5 1 (some .int), Cond.fieldLink RJx4a65c 48 "java/util/ArrayList" "size" "I", Cond.instanceMethod yX0_init, Cond.code yX0_init cX0_init 1 none, Cond.methodLink RX0 3 objectInit, Cond.instanceMethod objectInit, Cond.code objectInit ⟨#[0xb1]⟩ 1 none, Cond.classLink RX0 9 RX2, Cond.fieldLink RX0 11 "ClauseShop$Contract" "items" "[LClauseShop$Version;", Cond.classLink RX0 17 "[[I", Cond.arrayClass .int, Cond.fieldLink RX0 19 "ClauseShop$Contract" "marks" "[[I", Cond.arrayClass .boolean, Cond.fieldLink RX0 22 "ClauseShop$Contract" "signed" "[Z"]
def wsX3_begin_r2 : List Cond := [Cond.fieldLink RX0 26 "ClauseShop$Contract" "breaches" "[I", Cond.fieldLink RX0 30 "ClauseShop$Contract" "penalties" "[I", Cond.methodLink RX3 79 yJx4a65c_add_9ea2d, Cond.instanceMethod yJx4a65c_add_9ea2d, Cond.selects RJx4a65c yJx4a65c_add_9ea2d yJx4a65c_add_9ea2d, Cond.code yJx4a65c_add_9ea2d cJx4a65c_add_9ea2d 2 (some .boolean), Cond.fieldLink RJx4a65c 63 "java/util/ArrayList" "modCount" "I", Cond.sameField "java/util/ArrayList" "java/util/AbstractList" "modCount" "I", Cond.fieldLink RJx4a65c 9 "java/util/ArrayList" "elementData" "[Ljava/lang/Object;", Cond.methodLink RJx4a65c 131 yJx4a65c_add_72be8, Cond.instanceMethod yJx4a65c_add_72be8, Cond.selects RJx4a65c yJx4a65c_add_72be8 yJx4a65c_add_72be8, Cond.code yJx4a65c_add_72be8 cJx4a65c_add_72be8 4 none, Cond.methodLink RJx4a65c 129 yJx4a65c_grow_d5877, Cond.instanceMethod yJx4a65c_grow_d5877, Cond.selects RJx4a65c yJx4a65c_grow_d5877 yJx4a65c_grow_d5877, Cond.code yJx4a65c_grow_d5877 cJx4a65c_grow_d5877 1 (some (.array (.object "java/lang/Object"))), Cond.methodLink RJx4a65c 69 yJx4a65c_grow_92f84, Cond.instanceMethod yJx4a65c_grow_92f84, Cond.selects RJx4a65c yJx4a65c_grow_92f84 yJx4a65c_grow_92f84, Cond.code yJx4a65c_grow_92f84 cJx4a65c_grow_92f84 4 (some (.array (.object "java/lang/Object"))), Cond.fieldLink RJx4a65c 39 "java/util/ArrayList" "DEFAULTCAPACITY_EMPTY_ELEMENTDATA" "[Ljava/lang/Object;", Cond.methodLink RJx4a65c 79 Lib.Math.max.name, Cond.static Lib.Math.max.name]
def wsX3_begin_r3 : List Cond := [Cond.initialized "java/lang/Math", Cond.code Lib.Math.max.name Lib.Math.max.code 2 (some .int), Cond.classLink RJx4a65c 7 "java/lang/Object", Cond.methodLink RJx4a65c 73 yJ8_newLength_cabcc, Cond.static yJ8_newLength_cabcc, Cond.initialized RJ8, Cond.code yJ8_newLength_cabcc cJ8_newLength_cabcc 4 (some .int), Cond.methodLink RJ8 194 Lib.Math.max.name, Cond.constant RJ8 200 (2147483639), Cond.methodLink RJ8 201 yJ8_hugeLength_7cf53, Cond.static yJ8_hugeLength_7cf53, Cond.code yJ8_hugeLength_7cf53 cJ8_hugeLength_7cf53 3 (some .int), Cond.methodLink RJx4a65c 66 yJ7_copyOf_1904c, Cond.static yJ7_copyOf_1904c, Cond.initialized RJ7, Cond.code yJ7_copyOf_1904c cJ7_copyOf_1904c 2 (some (.array (.object "java/lang/Object"))), Cond.methodLink RJ7 86 ⟨"java/lang/Object", "getClass", "()Ljava/lang/Class;"⟩, Cond.selects "[Ljava/lang/Object;" ⟨"java/lang/Object", "getClass", "()Ljava/lang/Class;"⟩ ⟨"java/lang/Object", "getClass", "()Ljava/lang/Class;"⟩, Cond.instanceMethod ⟨"java/lang/Object", "getClass", "()Ljava/lang/Class;"⟩, Cond.native ⟨"java/lang/Object", "getClass", "()Ljava/lang/Class;"⟩, Cond.methodLink RJ7 300 yJ7_copyOf_6403c, Cond.static yJ7_copyOf_6403c, Cond.code yJ7_copyOf_6403c cJ7_copyOf_6403c 4 (some (.array (.object "java/lang/Object"))), Cond.classLink RJ7 110 "[Ljava/lang/Object;"]
def wsX3_begin_r4 : List Cond := [Cond.classLink RJ7 2 "java/lang/Object", Cond.methodLink RJ7 304 Lib.Math.min.name, Cond.static Lib.Math.min.name, Cond.code Lib.Math.min.name Lib.Math.min.code 2 (some .int), Cond.methodLink RJ7 150 arraycopyName, Cond.native arraycopyName, Cond.static arraycopyName, Cond.initialized "java/lang/System"]
def wsX3_begin : List Cond := .code yX3_begin cX3_begin 2 (some .int) :: ((wsX3_begin_r1 ++ (wsX3_begin_r2 ++ (wsX3_begin_r3 ++ wsX3_begin_r4))) ++ wsX30 ++ wsX00 ++ wsJx4a65c0 ++ (vx_atS RX3 62 "java/lang/IllegalStateException" ["java/lang/RuntimeException", "java/lang/Exception"]).filter goodWord)
def wsJ3_checkIndex_8e157 : List Cond := .code yJ3_checkIndex_8e157 cJ3_checkIndex_8e157 3 (some .int) :: ([])
def wsJ15_checkIndex_7cf53 : List Cond := .code yJ15_checkIndex_7cf53 cJ15_checkIndex_7cf53 2 (some .int) :: ([.methodLink RJ15 105 yJ3_checkIndex_8e157, .static yJ3_checkIndex_8e157, .initialized RJ3, .code yJ3_checkIndex_8e157 cJ3_checkIndex_8e157 3 (some .int)])
def wsJx4a65c_elementData_915e3 : List Cond := .code yJx4a65c_elementData_915e3 cJx4a65c_elementData_915e3 2 (some (.object "java/lang/Object")) :: ([.fieldLink RJx4a65c 9 "java/util/ArrayList" "elementData" "[Ljava/lang/Object;"] ++ wsJx4a65c0)
def wsJx4a65c_get_915e3 : List Cond := .code yJx4a65c_get_915e3 cJx4a65c_get_915e3 2 (some (.object "java/lang/Object")) :: ([.fieldLink RJx4a65c 48 "java/util/ArrayList" "size" "I", .methodLink RJx4a65c 118 yJ15_checkIndex_7cf53, .static yJ15_checkIndex_7cf53, .initialized RJ15, .code yJ15_checkIndex_7cf53 cJ15_checkIndex_7cf53 2 (some .int), .methodLink RJ15 105 yJ3_checkIndex_8e157, .static yJ3_checkIndex_8e157, .initialized RJ3, .code yJ3_checkIndex_8e157 cJ3_checkIndex_8e157 3 (some .int), .methodLink RJx4a65c 123 yJx4a65c_elementData_915e3, .instanceMethod yJx4a65c_elementData_915e3, .selects RJx4a65c yJx4a65c_elementData_915e3 yJx4a65c_elementData_915e3, .initialized RJx4a65c, .code yJx4a65c_elementData_915e3 cJx4a65c_elementData_915e3 2 (some (.object "java/lang/Object")), .fieldLink RJx4a65c 9 "java/util/ArrayList" "elementData" "[Ljava/lang/Object;"] ++ wsJx4a65c0)
def wsX3_contractAt_r1 : List Cond := [Cond.classLink RX3 204 "java/lang/IndexOutOfBoundsException", Cond.initialized "java/lang/IndexOutOfBoundsException", Cond.fieldLink RX3 25 "ClauseShop" "contracts" "Ljava/util/ArrayList;", Cond.classLink RX3 76 "ClauseShop$Contract", Cond.methodLink RX3 70 yJx4a65c_size_8abf5, Cond.instanceMethod yJx4a65c_size_8abf5, Cond.selects RJx4a65c yJx4a65c_size_8abf5 yJx4a65c_size_8abf5, Cond.initialized RJx4a65c, Cond.code yJx4a65c_size_8abf5 cJx4a65c_size_8abf5 1 (some .int), Cond.fieldLink RJx4a65c 48 "java/util/ArrayList" "size" "I", Cond.methodLink RX3 43 yX3_isWithin, Cond.static yX3_isWithin, Cond.initialized RX3, Cond.code yX3_isWithin cX3_isWithin 3 (some .boolean), Cond.methodLink RX3 209 yJx4a65c_get_915e3, Cond.instanceMethod yJx4a65c_get_915e3, Cond.selects RJx4a65c yJx4a65c_get_915e3 yJx4a65c_get_915e3, Cond.code yJx4a65c_get_915e3 cJx4a65c_get_915e3 2 (some (.object "java/lang/Object")), Cond.methodLink RJx4a65c 118 yJ15_checkIndex_7cf53, Cond.static yJ15_checkIndex_7cf53, Cond.initialized RJ15, Cond.code yJ15_checkIndex_7cf53 cJ15_checkIndex_7cf53 2 (some .int), Cond.methodLink RJ15 105 yJ3_checkIndex_8e157, Cond.static yJ3_checkIndex_8e157]
def wsX3_contractAt_r2 : List Cond := [Cond.initialized RJ3, Cond.code yJ3_checkIndex_8e157 cJ3_checkIndex_8e157 3 (some .int), Cond.methodLink RJx4a65c 123 yJx4a65c_elementData_915e3, Cond.instanceMethod yJx4a65c_elementData_915e3, Cond.selects RJx4a65c yJx4a65c_elementData_915e3 yJx4a65c_elementData_915e3, Cond.code yJx4a65c_elementData_915e3 cJx4a65c_elementData_915e3 2 (some (.object "java/lang/Object")), Cond.fieldLink RJx4a65c 9 "java/util/ArrayList" "elementData" "[Ljava/lang/Object;"]
def wsX3_contractAt : List Cond := .code yX3_contractAt cX3_contractAt 2 (some (.object "ClauseShop$Contract")) :: ((wsX3_contractAt_r1 ++ wsX3_contractAt_r2) ++ wsX30 ++ wsJx4a65c0 ++ (vx_atS RX3 208 "java/lang/IndexOutOfBoundsException" ["java/lang/RuntimeException", "java/lang/Exception"]).filter goodWord)
def wsX3_checkDraft : List Cond := .code yX3_checkDraft cX3_checkDraft 1 none :: ([.classLink RX3 58 "java/lang/IllegalStateException", .initialized "java/lang/IllegalStateException", .methodLink RX3 120 yX0_isDraft, .instanceMethod yX0_isDraft, .selects RX0 yX0_isDraft yX0_isDraft, .initialized RX0, .code yX0_isDraft cX0_isDraft 1 (some .boolean), .fieldLink RX0 22 "ClauseShop$Contract" "signed" "[Z"] ++ wsX00 ++ (vx_atS RX3 62 "java/lang/IllegalStateException" ["java/lang/RuntimeException", "java/lang/Exception"]).filter goodWord)
def wsX3_mark_r1 : List Cond := [Cond.classLink RX3 47 "java/lang/IllegalArgumentException", Cond.initialized "java/lang/IllegalArgumentException", Cond.classLink RX3 58 "java/lang/IllegalStateException", Cond.initialized "java/lang/IllegalStateException", Cond.fieldLink RX3 93 "ClauseShop$Contract" "items" "[LClauseShop$Version;", Cond.fieldLink RX3 11 "ClauseShop" "newest" "[LClauseShop$Version;", Cond.fieldLink RX3 102 "ClauseShop$Contract" "marks" "[[I", Cond.methodLink RX3 83 yX3_contractAt, Cond.instanceMethod yX3_contractAt, Cond.selects RX3 yX3_contractAt yX3_contractAt, Cond.initialized RX3, Cond.code yX3_contractAt cX3_contractAt 2 (some (.object "ClauseShop$Contract")), Cond.classLink RX3 204 "java/lang/IndexOutOfBoundsException", Cond.initialized "java/lang/IndexOutOfBoundsException", Cond.fieldLink RX3 25 "ClauseShop" "contracts" "Ljava/util/ArrayList;", Cond.classLink RX3 76 "ClauseShop$Contract", Cond.methodLink RX3 70 yJx4a65c_size_8abf5, Cond.instanceMethod yJx4a65c_size_8abf5, Cond.selects RJx4a65c yJx4a65c_size_8abf5 yJx4a65c_size_8abf5, Cond.initialized RJx4a65c, Cond.code yJx4a65c_size_8abf5 cJx4a65c_size_8abf5 1 (some .int), Cond.fieldLink RJx4a65c 48 "java/util/ArrayList" "size" "I", Cond.methodLink RX3 43 yX3_isWithin, Cond.static yX3_isWithin]
def wsX3_mark_r2 : List Cond := [Cond.code yX3_isWithin cX3_isWithin 3 (some .boolean), Cond.methodLink RX3 209 yJx4a65c_get_915e3, Cond.instanceMethod yJx4a65c_get_915e3, Cond.selects RJx4a65c yJx4a65c_get_915e3 yJx4a65c_get_915e3, Cond.code yJx4a65c_get_915e3 cJx4a65c_get_915e3 2 (some (.object "java/lang/Object")), Cond.methodLink RJx4a65c 118 yJ15_checkIndex_7cf53, Cond.static yJ15_checkIndex_7cf53, Cond.initialized RJ15, Cond.code yJ15_checkIndex_7cf53 cJ15_checkIndex_7cf53 2 (some .int), Cond.methodLink RJ15 105 yJ3_checkIndex_8e157, Cond.static yJ3_checkIndex_8e157, Cond.initialized RJ3, Cond.code yJ3_checkIndex_8e157 cJ3_checkIndex_8e157 3 (some .int), Cond.methodLink RJx4a65c 123 yJx4a65c_elementData_915e3, Cond.instanceMethod yJx4a65c_elementData_915e3, Cond.selects RJx4a65c yJx4a65c_elementData_915e3 yJx4a65c_elementData_915e3, Cond.code yJx4a65c_elementData_915e3 cJx4a65c_elementData_915e3 2 (some (.object "java/lang/Object")), Cond.fieldLink RJx4a65c 9 "java/util/ArrayList" "elementData" "[Ljava/lang/Object;", Cond.methodLink RX3 40 yX3_checkSide, Cond.static yX3_checkSide, Cond.code yX3_checkSide cX3_checkSide 1 none, Cond.methodLink RX3 36 yX3_checkClause, Cond.static yX3_checkClause, Cond.code yX3_checkClause cX3_checkClause 1 none]
def wsX3_mark_r3 : List Cond := [Cond.methodLink RX3 89 yX3_checkDraft, Cond.static yX3_checkDraft, Cond.code yX3_checkDraft cX3_checkDraft 1 none, Cond.methodLink RX3 120 yX0_isDraft, Cond.instanceMethod yX0_isDraft, Cond.selects RX0 yX0_isDraft yX0_isDraft, Cond.initialized RX0, Cond.code yX0_isDraft cX0_isDraft 1 (some .boolean), Cond.fieldLink RX0 22 "ClauseShop$Contract" "signed" "[Z", Cond.methodLink RX3 98 yX0_bringIn, Cond.instanceMethod yX0_bringIn, Cond.selects RX0 yX0_bringIn yX0_bringIn, Cond.code yX0_bringIn cX0_bringIn 4 none, Cond.fieldLink RX0 11 "ClauseShop$Contract" "items" "[LClauseShop$Version;", Cond.fieldLink RX0 19 "ClauseShop$Contract" "marks" "[[I", Cond.methodLink RX0 33 yX0_loseSignatures, Cond.instanceMethod yX0_loseSignatures, Cond.selects RX0 yX0_loseSignatures yX0_loseSignatures, Cond.code yX0_loseSignatures cX0_loseSignatures 1 none, Cond.methodLink RX3 106 yX0_changeMark, Cond.instanceMethod yX0_changeMark, Cond.selects RX0 yX0_changeMark yX0_changeMark, Cond.code yX0_changeMark cX0_changeMark 4 none]
def wsX3_mark : List Cond := .code yX3_mark cX3_mark 7 (some .int) :: ((wsX3_mark_r1 ++ (wsX3_mark_r2 ++ wsX3_mark_r3)) ++ wsX00 ++ wsX30 ++ wsJx4a65c0 ++ (vx_atS RX3 51 "java/lang/IllegalArgumentException" ["java/lang/RuntimeException", "java/lang/Exception"]).filter goodWord ++ (vx_atS RX3 62 "java/lang/IllegalStateException" ["java/lang/RuntimeException", "java/lang/Exception"]).filter goodWord ++ (vx_atS RX3 208 "java/lang/IndexOutOfBoundsException" ["java/lang/RuntimeException", "java/lang/Exception"]).filter goodWord)
def wsX3_itemNumber : List Cond := .code yX3_itemNumber cX3_itemNumber 2 (some .int) :: ([.fieldLink RX3 93 "ClauseShop$Contract" "items" "[LClauseShop$Version;", .methodLink RX3 218 yX3_numberOf, .static yX3_numberOf, .initialized RX3, .code yX3_numberOf cX3_numberOf 1 (some .int), .fieldLink RX3 215 "ClauseShop$Version" "number" "I"] ++ wsX00 ++ wsX20)
def wsX3_hasLaterVersion : List Cond := .code yX3_hasLaterVersion cX3_hasLaterVersion 3 (some .boolean) :: ([.fieldLink RX3 93 "ClauseShop$Contract" "items" "[LClauseShop$Version;", .methodLink RX3 116 yX3_itemNumber, .static yX3_itemNumber, .initialized RX3, .code yX3_itemNumber cX3_itemNumber 2 (some .int), .methodLink RX3 218 yX3_numberOf, .static yX3_numberOf, .code yX3_numberOf cX3_numberOf 1 (some .int), .fieldLink RX3 215 "ClauseShop$Version" "number" "I", .methodLink RX3 54 yX3_newestNumber, .instanceMethod yX3_newestNumber, .selects RX3 yX3_newestNumber yX3_newestNumber, .code yX3_newestNumber cX3_newestNumber 2 (some .int), .fieldLink RX3 11 "ClauseShop" "newest" "[LClauseShop$Version;"] ++ wsX00 ++ wsX20 ++ wsX30)
def wsX3_renew_r1 : List Cond := [Cond.classLink RX3 58 "java/lang/IllegalStateException", Cond.initialized "java/lang/IllegalStateException", Cond.fieldLink RX3 11 "ClauseShop" "newest" "[LClauseShop$Version;", Cond.methodLink RX3 83 yX3_contractAt, Cond.instanceMethod yX3_contractAt, Cond.selects RX3 yX3_contractAt yX3_contractAt, Cond.initialized RX3, Cond.code yX3_contractAt cX3_contractAt 2 (some (.object "ClauseShop$Contract")), Cond.classLink RX3 204 "java/lang/IndexOutOfBoundsException", Cond.initialized "java/lang/IndexOutOfBoundsException", Cond.fieldLink RX3 25 "ClauseShop" "contracts" "Ljava/util/ArrayList;", Cond.classLink RX3 76 "ClauseShop$Contract", Cond.methodLink RX3 70 yJx4a65c_size_8abf5, Cond.instanceMethod yJx4a65c_size_8abf5, Cond.selects RJx4a65c yJx4a65c_size_8abf5 yJx4a65c_size_8abf5, Cond.initialized RJx4a65c, Cond.code yJx4a65c_size_8abf5 cJx4a65c_size_8abf5 1 (some .int), Cond.fieldLink RJx4a65c 48 "java/util/ArrayList" "size" "I", Cond.methodLink RX3 43 yX3_isWithin, Cond.static yX3_isWithin, Cond.code yX3_isWithin cX3_isWithin 3 (some .boolean), Cond.methodLink RX3 209 yJx4a65c_get_915e3, Cond.instanceMethod yJx4a65c_get_915e3, Cond.selects RJx4a65c yJx4a65c_get_915e3 yJx4a65c_get_915e3]
def wsX3_renew_r2 : List Cond := [Cond.code yJx4a65c_get_915e3 cJx4a65c_get_915e3 2 (some (.object "java/lang/Object")), Cond.methodLink RJx4a65c 118 yJ15_checkIndex_7cf53, Cond.static yJ15_checkIndex_7cf53, Cond.initialized RJ15, Cond.code yJ15_checkIndex_7cf53 cJ15_checkIndex_7cf53 2 (some .int), Cond.methodLink RJ15 105 yJ3_checkIndex_8e157, Cond.static yJ3_checkIndex_8e157, Cond.initialized RJ3, Cond.code yJ3_checkIndex_8e157 cJ3_checkIndex_8e157 3 (some .int), Cond.methodLink RJx4a65c 123 yJx4a65c_elementData_915e3, Cond.instanceMethod yJx4a65c_elementData_915e3, Cond.selects RJx4a65c yJx4a65c_elementData_915e3 yJx4a65c_elementData_915e3, Cond.code yJx4a65c_elementData_915e3 cJx4a65c_elementData_915e3 2 (some (.object "java/lang/Object")), Cond.fieldLink RJx4a65c 9 "java/util/ArrayList" "elementData" "[Ljava/lang/Object;", Cond.methodLink RX3 40 yX3_checkSide, Cond.static yX3_checkSide, Cond.code yX3_checkSide cX3_checkSide 1 none, Cond.classLink RX3 47 "java/lang/IllegalArgumentException", Cond.initialized "java/lang/IllegalArgumentException", Cond.methodLink RX3 36 yX3_checkClause, Cond.static yX3_checkClause, Cond.code yX3_checkClause cX3_checkClause 1 none, Cond.methodLink RX3 89 yX3_checkDraft, Cond.static yX3_checkDraft]
def wsX3_renew_r3 : List Cond := [Cond.code yX3_checkDraft cX3_checkDraft 1 none, Cond.methodLink RX3 120 yX0_isDraft, Cond.instanceMethod yX0_isDraft, Cond.selects RX0 yX0_isDraft yX0_isDraft, Cond.initialized RX0, Cond.code yX0_isDraft cX0_isDraft 1 (some .boolean), Cond.fieldLink RX0 22 "ClauseShop$Contract" "signed" "[Z", Cond.methodLink RX3 110 yX3_hasLaterVersion, Cond.instanceMethod yX3_hasLaterVersion, Cond.selects RX3 yX3_hasLaterVersion yX3_hasLaterVersion, Cond.code yX3_hasLaterVersion cX3_hasLaterVersion 3 (some .boolean), Cond.fieldLink RX3 93 "ClauseShop$Contract" "items" "[LClauseShop$Version;", Cond.methodLink RX3 116 yX3_itemNumber, Cond.static yX3_itemNumber, Cond.code yX3_itemNumber cX3_itemNumber 2 (some .int), Cond.methodLink RX3 218 yX3_numberOf, Cond.static yX3_numberOf, Cond.code yX3_numberOf cX3_numberOf 1 (some .int), Cond.fieldLink RX3 215 "ClauseShop$Version" "number" "I", Cond.methodLink RX3 54 yX3_newestNumber, Cond.instanceMethod yX3_newestNumber, Cond.selects RX3 yX3_newestNumber yX3_newestNumber, Cond.code yX3_newestNumber cX3_newestNumber 2 (some .int), Cond.methodLink RX3 98 yX0_bringIn]
def wsX3_renew_r4 : List Cond := [Cond.instanceMethod yX0_bringIn, Cond.selects RX0 yX0_bringIn yX0_bringIn, Cond.code yX0_bringIn cX0_bringIn 4 none, Cond.fieldLink RX0 11 "ClauseShop$Contract" "items" "[LClauseShop$Version;", Cond.fieldLink RX0 19 "ClauseShop$Contract" "marks" "[[I", Cond.methodLink RX0 33 yX0_loseSignatures, Cond.instanceMethod yX0_loseSignatures, Cond.selects RX0 yX0_loseSignatures yX0_loseSignatures, Cond.code yX0_loseSignatures cX0_loseSignatures 1 none]
def wsX3_renew : List Cond := .code yX3_renew cX3_renew 6 (some .int) :: ((wsX3_renew_r1 ++ (wsX3_renew_r2 ++ (wsX3_renew_r3 ++ wsX3_renew_r4))) ++ wsX30 ++ wsJx4a65c0 ++ wsX00 ++ wsX20 ++ (vx_atS RX3 62 "java/lang/IllegalStateException" ["java/lang/RuntimeException", "java/lang/Exception"]).filter goodWord ++ (vx_atS RX3 208 "java/lang/IndexOutOfBoundsException" ["java/lang/RuntimeException", "java/lang/Exception"]).filter goodWord ++ (vx_atS RX3 51 "java/lang/IllegalArgumentException" ["java/lang/RuntimeException", "java/lang/Exception"]).filter goodWord)
def wsX3_version_r1 : List Cond := [Cond.methodLink RX3 83 yX3_contractAt, Cond.instanceMethod yX3_contractAt, Cond.selects RX3 yX3_contractAt yX3_contractAt, Cond.initialized RX3, Cond.code yX3_contractAt cX3_contractAt 2 (some (.object "ClauseShop$Contract")), Cond.classLink RX3 204 "java/lang/IndexOutOfBoundsException", Cond.initialized "java/lang/IndexOutOfBoundsException", Cond.fieldLink RX3 25 "ClauseShop" "contracts" "Ljava/util/ArrayList;", Cond.classLink RX3 76 "ClauseShop$Contract", Cond.methodLink RX3 70 yJx4a65c_size_8abf5, Cond.instanceMethod yJx4a65c_size_8abf5, Cond.selects RJx4a65c yJx4a65c_size_8abf5 yJx4a65c_size_8abf5, Cond.initialized RJx4a65c, Cond.code yJx4a65c_size_8abf5 cJx4a65c_size_8abf5 1 (some .int), Cond.fieldLink RJx4a65c 48 "java/util/ArrayList" "size" "I", Cond.methodLink RX3 43 yX3_isWithin, Cond.static yX3_isWithin, Cond.code yX3_isWithin cX3_isWithin 3 (some .boolean), Cond.methodLink RX3 209 yJx4a65c_get_915e3, Cond.instanceMethod yJx4a65c_get_915e3, Cond.selects RJx4a65c yJx4a65c_get_915e3 yJx4a65c_get_915e3, Cond.code yJx4a65c_get_915e3 cJx4a65c_get_915e3 2 (some (.object "java/lang/Object")), Cond.methodLink RJx4a65c 118 yJ15_checkIndex_7cf53, Cond.static yJ15_checkIndex_7cf53]
def wsX3_version_r2 : List Cond := [Cond.initialized RJ15, Cond.code yJ15_checkIndex_7cf53 cJ15_checkIndex_7cf53 2 (some .int), Cond.methodLink RJ15 105 yJ3_checkIndex_8e157, Cond.static yJ3_checkIndex_8e157, Cond.initialized RJ3, Cond.code yJ3_checkIndex_8e157 cJ3_checkIndex_8e157 3 (some .int), Cond.methodLink RJx4a65c 123 yJx4a65c_elementData_915e3, Cond.instanceMethod yJx4a65c_elementData_915e3, Cond.selects RJx4a65c yJx4a65c_elementData_915e3 yJx4a65c_elementData_915e3, Cond.code yJx4a65c_elementData_915e3 cJx4a65c_elementData_915e3 2 (some (.object "java/lang/Object")), Cond.fieldLink RJx4a65c 9 "java/util/ArrayList" "elementData" "[Ljava/lang/Object;", Cond.methodLink RX3 36 yX3_checkClause, Cond.static yX3_checkClause, Cond.code yX3_checkClause cX3_checkClause 1 none, Cond.classLink RX3 47 "java/lang/IllegalArgumentException", Cond.initialized "java/lang/IllegalArgumentException", Cond.methodLink RX3 116 yX3_itemNumber, Cond.static yX3_itemNumber, Cond.code yX3_itemNumber cX3_itemNumber 2 (some .int), Cond.fieldLink RX3 93 "ClauseShop$Contract" "items" "[LClauseShop$Version;", Cond.methodLink RX3 218 yX3_numberOf, Cond.static yX3_numberOf, Cond.code yX3_numberOf cX3_numberOf 1 (some .int), Cond.fieldLink RX3 215 "ClauseShop$Version" "number" "I"]
def wsX3_version : List Cond := .code yX3_version cX3_version 4 (some .int) :: ((wsX3_version_r1 ++ wsX3_version_r2) ++ wsX30 ++ wsJx4a65c0 ++ wsX00 ++ wsX20 ++ (vx_atS RX3 208 "java/lang/IndexOutOfBoundsException" ["java/lang/RuntimeException", "java/lang/Exception"]).filter goodWord ++ (vx_atS RX3 51 "java/lang/IllegalArgumentException" ["java/lang/RuntimeException", "java/lang/Exception"]).filter goodWord)
def wsX3_offered_r1 : List Cond := [Cond.methodLink RX3 83 yX3_contractAt, Cond.instanceMethod yX3_contractAt, Cond.selects RX3 yX3_contractAt yX3_contractAt, Cond.initialized RX3, Cond.code yX3_contractAt cX3_contractAt 2 (some (.object "ClauseShop$Contract")), Cond.classLink RX3 204 "java/lang/IndexOutOfBoundsException", Cond.initialized "java/lang/IndexOutOfBoundsException", Cond.fieldLink RX3 25 "ClauseShop" "contracts" "Ljava/util/ArrayList;", Cond.classLink RX3 76 "ClauseShop$Contract", Cond.methodLink RX3 70 yJx4a65c_size_8abf5, Cond.instanceMethod yJx4a65c_size_8abf5, Cond.selects RJx4a65c yJx4a65c_size_8abf5 yJx4a65c_size_8abf5, Cond.initialized RJx4a65c, Cond.code yJx4a65c_size_8abf5 cJx4a65c_size_8abf5 1 (some .int), Cond.fieldLink RJx4a65c 48 "java/util/ArrayList" "size" "I", Cond.methodLink RX3 43 yX3_isWithin, Cond.static yX3_isWithin, Cond.code yX3_isWithin cX3_isWithin 3 (some .boolean), Cond.methodLink RX3 209 yJx4a65c_get_915e3, Cond.instanceMethod yJx4a65c_get_915e3, Cond.selects RJx4a65c yJx4a65c_get_915e3 yJx4a65c_get_915e3, Cond.code yJx4a65c_get_915e3 cJx4a65c_get_915e3 2 (some (.object "java/lang/Object")), Cond.methodLink RJx4a65c 118 yJ15_checkIndex_7cf53, Cond.static yJ15_checkIndex_7cf53]
def wsX3_offered_r2 : List Cond := [Cond.initialized RJ15, Cond.code yJ15_checkIndex_7cf53 cJ15_checkIndex_7cf53 2 (some .int), Cond.methodLink RJ15 105 yJ3_checkIndex_8e157, Cond.static yJ3_checkIndex_8e157, Cond.initialized RJ3, Cond.code yJ3_checkIndex_8e157 cJ3_checkIndex_8e157 3 (some .int), Cond.methodLink RJx4a65c 123 yJx4a65c_elementData_915e3, Cond.instanceMethod yJx4a65c_elementData_915e3, Cond.selects RJx4a65c yJx4a65c_elementData_915e3 yJx4a65c_elementData_915e3, Cond.code yJx4a65c_elementData_915e3 cJx4a65c_elementData_915e3 2 (some (.object "java/lang/Object")), Cond.fieldLink RJx4a65c 9 "java/util/ArrayList" "elementData" "[Ljava/lang/Object;", Cond.methodLink RX3 120 yX0_isDraft, Cond.instanceMethod yX0_isDraft, Cond.selects RX0 yX0_isDraft yX0_isDraft, Cond.initialized RX0, Cond.code yX0_isDraft cX0_isDraft 1 (some .boolean), Cond.fieldLink RX0 22 "ClauseShop$Contract" "signed" "[Z", Cond.methodLink RX3 110 yX3_hasLaterVersion, Cond.instanceMethod yX3_hasLaterVersion, Cond.selects RX3 yX3_hasLaterVersion yX3_hasLaterVersion, Cond.code yX3_hasLaterVersion cX3_hasLaterVersion 3 (some .boolean), Cond.fieldLink RX3 93 "ClauseShop$Contract" "items" "[LClauseShop$Version;", Cond.methodLink RX3 116 yX3_itemNumber, Cond.static yX3_itemNumber]
def wsX3_offered_r3 : List Cond := [Cond.code yX3_itemNumber cX3_itemNumber 2 (some .int), Cond.methodLink RX3 218 yX3_numberOf, Cond.static yX3_numberOf, Cond.code yX3_numberOf cX3_numberOf 1 (some .int), Cond.fieldLink RX3 215 "ClauseShop$Version" "number" "I", Cond.methodLink RX3 54 yX3_newestNumber, Cond.instanceMethod yX3_newestNumber, Cond.selects RX3 yX3_newestNumber yX3_newestNumber, Cond.code yX3_newestNumber cX3_newestNumber 2 (some .int), Cond.fieldLink RX3 11 "ClauseShop" "newest" "[LClauseShop$Version;"]
def wsX3_offered : List Cond := .code yX3_offered cX3_offered 5 (some .int) :: ((wsX3_offered_r1 ++ (wsX3_offered_r2 ++ wsX3_offered_r3)) ++ wsX30 ++ wsJx4a65c0 ++ wsX00 ++ wsX20 ++ (vx_atS RX3 208 "java/lang/IndexOutOfBoundsException" ["java/lang/RuntimeException", "java/lang/Exception"]).filter goodWord)
def wsX3_unionOver : List Cond := .code yX3_unionOver cX3_unionOver 4 (some .int) :: ([])
def wsX3_obstacle : List Cond := .code yX3_obstacle cX3_obstacle 3 (some .int) :: ([.fieldLink RX3 15 "ClauseShop" "needs" "[I", .fieldLink RX3 19 "ClauseShop" "forbids" "[I", .methodLink RX3 222 yX0_clauseSet, .instanceMethod yX0_clauseSet, .selects RX0 yX0_clauseSet yX0_clauseSet, .initialized RX0, .code yX0_clauseSet cX0_clauseSet 3 (some .int), .fieldLink RX0 11 "ClauseShop$Contract" "items" "[LClauseShop$Version;", .methodLink RX3 120 yX0_isDraft, .instanceMethod yX0_isDraft, .selects RX0 yX0_isDraft yX0_isDraft, .code yX0_isDraft cX0_isDraft 1 (some .boolean), .fieldLink RX0 22 "ClauseShop$Contract" "signed" "[Z", .methodLink RX3 225 yX0_isAgreed, .instanceMethod yX0_isAgreed, .selects RX0 yX0_isAgreed yX0_isAgreed, .code yX0_isAgreed cX0_isAgreed 2 (some .boolean), .fieldLink RX0 19 "ClauseShop$Contract" "marks" "[[I", .methodLink RX3 228 yX3_unionOver, .static yX3_unionOver, .initialized RX3, .code yX3_unionOver cX3_unionOver 4 (some .int)] ++ wsX30 ++ wsX00)
def wsX3_whyNot_r1 : List Cond := [Cond.methodLink RX3 83 yX3_contractAt, Cond.instanceMethod yX3_contractAt, Cond.selects RX3 yX3_contractAt yX3_contractAt, Cond.initialized RX3, Cond.code yX3_contractAt cX3_contractAt 2 (some (.object "ClauseShop$Contract")), Cond.classLink RX3 204 "java/lang/IndexOutOfBoundsException", Cond.initialized "java/lang/IndexOutOfBoundsException", Cond.fieldLink RX3 25 "ClauseShop" "contracts" "Ljava/util/ArrayList;", Cond.classLink RX3 76 "ClauseShop$Contract", Cond.methodLink RX3 70 yJx4a65c_size_8abf5, Cond.instanceMethod yJx4a65c_size_8abf5, Cond.selects RJx4a65c yJx4a65c_size_8abf5 yJx4a65c_size_8abf5, Cond.initialized RJx4a65c, Cond.code yJx4a65c_size_8abf5 cJx4a65c_size_8abf5 1 (some .int), Cond.fieldLink RJx4a65c 48 "java/util/ArrayList" "size" "I", Cond.methodLink RX3 43 yX3_isWithin, Cond.static yX3_isWithin, Cond.code yX3_isWithin cX3_isWithin 3 (some .boolean), Cond.methodLink RX3 209 yJx4a65c_get_915e3, Cond.instanceMethod yJx4a65c_get_915e3, Cond.selects RJx4a65c yJx4a65c_get_915e3 yJx4a65c_get_915e3, Cond.code yJx4a65c_get_915e3 cJx4a65c_get_915e3 2 (some (.object "java/lang/Object")), Cond.methodLink RJx4a65c 118 yJ15_checkIndex_7cf53, Cond.static yJ15_checkIndex_7cf53]
def wsX3_whyNot_r2 : List Cond := [Cond.initialized RJ15, Cond.code yJ15_checkIndex_7cf53 cJ15_checkIndex_7cf53 2 (some .int), Cond.methodLink RJ15 105 yJ3_checkIndex_8e157, Cond.static yJ3_checkIndex_8e157, Cond.initialized RJ3, Cond.code yJ3_checkIndex_8e157 cJ3_checkIndex_8e157 3 (some .int), Cond.methodLink RJx4a65c 123 yJx4a65c_elementData_915e3, Cond.instanceMethod yJx4a65c_elementData_915e3, Cond.selects RJx4a65c yJx4a65c_elementData_915e3 yJx4a65c_elementData_915e3, Cond.code yJx4a65c_elementData_915e3 cJx4a65c_elementData_915e3 2 (some (.object "java/lang/Object")), Cond.fieldLink RJx4a65c 9 "java/util/ArrayList" "elementData" "[Ljava/lang/Object;", Cond.methodLink RX3 124 yX3_obstacle, Cond.instanceMethod yX3_obstacle, Cond.selects RX3 yX3_obstacle yX3_obstacle, Cond.code yX3_obstacle cX3_obstacle 3 (some .int), Cond.fieldLink RX3 15 "ClauseShop" "needs" "[I", Cond.fieldLink RX3 19 "ClauseShop" "forbids" "[I", Cond.methodLink RX3 222 yX0_clauseSet, Cond.instanceMethod yX0_clauseSet, Cond.selects RX0 yX0_clauseSet yX0_clauseSet, Cond.initialized RX0, Cond.code yX0_clauseSet cX0_clauseSet 3 (some .int), Cond.fieldLink RX0 11 "ClauseShop$Contract" "items" "[LClauseShop$Version;", Cond.methodLink RX3 120 yX0_isDraft]
def wsX3_whyNot_r3 : List Cond := [Cond.instanceMethod yX0_isDraft, Cond.selects RX0 yX0_isDraft yX0_isDraft, Cond.code yX0_isDraft cX0_isDraft 1 (some .boolean), Cond.fieldLink RX0 22 "ClauseShop$Contract" "signed" "[Z", Cond.methodLink RX3 225 yX0_isAgreed, Cond.instanceMethod yX0_isAgreed, Cond.selects RX0 yX0_isAgreed yX0_isAgreed, Cond.code yX0_isAgreed cX0_isAgreed 2 (some .boolean), Cond.fieldLink RX0 19 "ClauseShop$Contract" "marks" "[[I", Cond.methodLink RX3 228 yX3_unionOver, Cond.static yX3_unionOver, Cond.code yX3_unionOver cX3_unionOver 4 (some .int)]
def wsX3_whyNot : List Cond := .code yX3_whyNot cX3_whyNot 2 (some .int) :: ((wsX3_whyNot_r1 ++ (wsX3_whyNot_r2 ++ wsX3_whyNot_r3)) ++ wsX30 ++ wsJx4a65c0 ++ wsX00 ++ (vx_atS RX3 208 "java/lang/IndexOutOfBoundsException" ["java/lang/RuntimeException", "java/lang/Exception"]).filter goodWord)
def wsX3_makeDuties_r1 : List Cond := [Cond.fieldLink RX3 93 "ClauseShop$Contract" "items" "[LClauseShop$Version;", Cond.fieldLink RX3 29 "ClauseShop" "dutyList" "Ljava/util/ArrayList;", Cond.classLink RX3 152 RX1, Cond.instantiable RX1 4, Cond.initialized RX1, Cond.fieldLink RX3 32 "ClauseShop" "today" "I", Cond.fieldLink RX3 232 "ClauseShop$Version" "days" "I", Cond.methodLink RX3 235 yX1_init, Cond.instanceMethod yX1_init, Cond.code yX1_init cX1_init 4 none, Cond.methodLink RX1 3 objectInit, Cond.instanceMethod objectInit, Cond.code objectInit ⟨#[0xb1]⟩ 1 none, Cond.fieldLink RX1 9 "ClauseShop$Duty" "state" "I", Cond.fieldLink RX1 15 "ClauseShop$Duty" "contract" "LClauseShop$Contract;", Cond.fieldLink RX1 19 "ClauseShop$Duty" "version" "LClauseShop$Version;", Cond.fieldLink RX1 23 "ClauseShop$Duty" "day" "I", Cond.methodLink RX3 79 yJx4a65c_add_9ea2d, Cond.instanceMethod yJx4a65c_add_9ea2d, Cond.selects RJx4a65c yJx4a65c_add_9ea2d yJx4a65c_add_9ea2d, Cond.initialized RJx4a65c, Cond.code yJx4a65c_add_9ea2d cJx4a65c_add_9ea2d 2 (some .boolean), Cond.fieldLink RJx4a65c 63 "java/util/ArrayList" "modCount" "I", Cond.sameField "java/util/ArrayList" "java/util/AbstractList" "modCount" "I"]
def wsX3_makeDuties_r2 : List Cond := [Cond.fieldLink RJx4a65c 9 "java/util/ArrayList" "elementData" "[Ljava/lang/Object;", Cond.fieldLink RJx4a65c 48 "java/util/ArrayList" "size" "I", Cond.methodLink RJx4a65c 131 yJx4a65c_add_72be8, Cond.instanceMethod yJx4a65c_add_72be8, Cond.selects RJx4a65c yJx4a65c_add_72be8 yJx4a65c_add_72be8, Cond.code yJx4a65c_add_72be8 cJx4a65c_add_72be8 4 none, Cond.methodLink RJx4a65c 129 yJx4a65c_grow_d5877, Cond.instanceMethod yJx4a65c_grow_d5877, Cond.selects RJx4a65c yJx4a65c_grow_d5877 yJx4a65c_grow_d5877, Cond.code yJx4a65c_grow_d5877 cJx4a65c_grow_d5877 1 (some (.array (.object "java/lang/Object"))), Cond.methodLink RJx4a65c 69 yJx4a65c_grow_92f84, Cond.instanceMethod yJx4a65c_grow_92f84, Cond.selects RJx4a65c yJx4a65c_grow_92f84 yJx4a65c_grow_92f84, Cond.code yJx4a65c_grow_92f84 cJx4a65c_grow_92f84 4 (some (.array (.object "java/lang/Object"))), Cond.fieldLink RJx4a65c 39 "java/util/ArrayList" "DEFAULTCAPACITY_EMPTY_ELEMENTDATA" "[Ljava/lang/Object;", Cond.methodLink RJx4a65c 79 Lib.Math.max.name, Cond.static Lib.Math.max.name, Cond.initialized "java/lang/Math", Cond.code Lib.Math.max.name Lib.Math.max.code 2 (some .int), Cond.classLink RJx4a65c 7 "java/lang/Object", Cond.methodLink RJx4a65c 73 yJ8_newLength_cabcc, Cond.static yJ8_newLength_cabcc, Cond.initialized RJ8, Cond.code yJ8_newLength_cabcc cJ8_newLength_cabcc 4 (some .int)]
def wsX3_makeDuties_r3 : List Cond := [Cond.methodLink RJ8 194 Lib.Math.max.name, Cond.constant RJ8 200 (2147483639), Cond.methodLink RJ8 201 yJ8_hugeLength_7cf53, Cond.static yJ8_hugeLength_7cf53, Cond.code yJ8_hugeLength_7cf53 cJ8_hugeLength_7cf53 3 (some .int), Cond.methodLink RJx4a65c 66 yJ7_copyOf_1904c, Cond.static yJ7_copyOf_1904c, Cond.initialized RJ7, Cond.code yJ7_copyOf_1904c cJ7_copyOf_1904c 2 (some (.array (.object "java/lang/Object"))), Cond.methodLink RJ7 86 ⟨"java/lang/Object", "getClass", "()Ljava/lang/Class;"⟩, Cond.selects "[Ljava/lang/Object;" ⟨"java/lang/Object", "getClass", "()Ljava/lang/Class;"⟩ ⟨"java/lang/Object", "getClass", "()Ljava/lang/Class;"⟩, Cond.instanceMethod ⟨"java/lang/Object", "getClass", "()Ljava/lang/Class;"⟩, Cond.native ⟨"java/lang/Object", "getClass", "()Ljava/lang/Class;"⟩, Cond.methodLink RJ7 300 yJ7_copyOf_6403c, Cond.static yJ7_copyOf_6403c, Cond.code yJ7_copyOf_6403c cJ7_copyOf_6403c 4 (some (.array (.object "java/lang/Object"))), Cond.classLink RJ7 110 "[Ljava/lang/Object;", Cond.classLink RJ7 2 "java/lang/Object", Cond.methodLink RJ7 304 Lib.Math.min.name, Cond.static Lib.Math.min.name, Cond.code Lib.Math.min.name Lib.Math.min.code 2 (some .int), Cond.methodLink RJ7 150 arraycopyName, Cond.native arraycopyName, Cond.static arraycopyName]
def wsX3_makeDuties_r4 : List Cond := [Cond.initialized "java/lang/System"]
def wsX3_makeDuties : List Cond := .code yX3_makeDuties cX3_makeDuties 5 (some .int) :: ((wsX3_makeDuties_r1 ++ (wsX3_makeDuties_r2 ++ (wsX3_makeDuties_r3 ++ wsX3_makeDuties_r4))) ++ wsX00 ++ wsX30 ++ wsX10 ++ wsX20 ++ wsJx4a65c0)
def wsX3_sign_r1 : List Cond := [Cond.classLink RX3 58 "java/lang/IllegalStateException", Cond.initialized "java/lang/IllegalStateException", Cond.fieldLink RX3 128 "ClauseShop$Contract" "signed" "[Z", Cond.methodLink RX3 83 yX3_contractAt, Cond.instanceMethod yX3_contractAt, Cond.selects RX3 yX3_contractAt yX3_contractAt, Cond.initialized RX3, Cond.code yX3_contractAt cX3_contractAt 2 (some (.object "ClauseShop$Contract")), Cond.classLink RX3 204 "java/lang/IndexOutOfBoundsException", Cond.initialized "java/lang/IndexOutOfBoundsException", Cond.fieldLink RX3 25 "ClauseShop" "contracts" "Ljava/util/ArrayList;", Cond.classLink RX3 76 "ClauseShop$Contract", Cond.methodLink RX3 70 yJx4a65c_size_8abf5, Cond.instanceMethod yJx4a65c_size_8abf5, Cond.selects RJx4a65c yJx4a65c_size_8abf5 yJx4a65c_size_8abf5, Cond.initialized RJx4a65c, Cond.code yJx4a65c_size_8abf5 cJx4a65c_size_8abf5 1 (some .int), Cond.fieldLink RJx4a65c 48 "java/util/ArrayList" "size" "I", Cond.methodLink RX3 43 yX3_isWithin, Cond.static yX3_isWithin, Cond.code yX3_isWithin cX3_isWithin 3 (some .boolean), Cond.methodLink RX3 209 yJx4a65c_get_915e3, Cond.instanceMethod yJx4a65c_get_915e3, Cond.selects RJx4a65c yJx4a65c_get_915e3 yJx4a65c_get_915e3]
def wsX3_sign_r2 : List Cond := [Cond.code yJx4a65c_get_915e3 cJx4a65c_get_915e3 2 (some (.object "java/lang/Object")), Cond.methodLink RJx4a65c 118 yJ15_checkIndex_7cf53, Cond.static yJ15_checkIndex_7cf53, Cond.initialized RJ15, Cond.code yJ15_checkIndex_7cf53 cJ15_checkIndex_7cf53 2 (some .int), Cond.methodLink RJ15 105 yJ3_checkIndex_8e157, Cond.static yJ3_checkIndex_8e157, Cond.initialized RJ3, Cond.code yJ3_checkIndex_8e157 cJ3_checkIndex_8e157 3 (some .int), Cond.methodLink RJx4a65c 123 yJx4a65c_elementData_915e3, Cond.instanceMethod yJx4a65c_elementData_915e3, Cond.selects RJx4a65c yJx4a65c_elementData_915e3 yJx4a65c_elementData_915e3, Cond.code yJx4a65c_elementData_915e3 cJx4a65c_elementData_915e3 2 (some (.object "java/lang/Object")), Cond.fieldLink RJx4a65c 9 "java/util/ArrayList" "elementData" "[Ljava/lang/Object;", Cond.methodLink RX3 40 yX3_checkSide, Cond.static yX3_checkSide, Cond.code yX3_checkSide cX3_checkSide 1 none, Cond.classLink RX3 47 "java/lang/IllegalArgumentException", Cond.initialized "java/lang/IllegalArgumentException", Cond.methodLink RX3 124 yX3_obstacle, Cond.instanceMethod yX3_obstacle, Cond.selects RX3 yX3_obstacle yX3_obstacle, Cond.code yX3_obstacle cX3_obstacle 3 (some .int), Cond.fieldLink RX3 15 "ClauseShop" "needs" "[I"]
def wsX3_sign_r3 : List Cond := [Cond.fieldLink RX3 19 "ClauseShop" "forbids" "[I", Cond.methodLink RX3 222 yX0_clauseSet, Cond.instanceMethod yX0_clauseSet, Cond.selects RX0 yX0_clauseSet yX0_clauseSet, Cond.initialized RX0, Cond.code yX0_clauseSet cX0_clauseSet 3 (some .int), Cond.fieldLink RX0 11 "ClauseShop$Contract" "items" "[LClauseShop$Version;", Cond.methodLink RX3 120 yX0_isDraft, Cond.instanceMethod yX0_isDraft, Cond.selects RX0 yX0_isDraft yX0_isDraft, Cond.code yX0_isDraft cX0_isDraft 1 (some .boolean), Cond.fieldLink RX0 22 "ClauseShop$Contract" "signed" "[Z", Cond.methodLink RX3 225 yX0_isAgreed, Cond.instanceMethod yX0_isAgreed, Cond.selects RX0 yX0_isAgreed yX0_isAgreed, Cond.code yX0_isAgreed cX0_isAgreed 2 (some .boolean), Cond.fieldLink RX0 19 "ClauseShop$Contract" "marks" "[[I", Cond.methodLink RX3 228 yX3_unionOver, Cond.static yX3_unionOver, Cond.code yX3_unionOver cX3_unionOver 4 (some .int), Cond.methodLink RX3 134 yX3_makeDuties, Cond.instanceMethod yX3_makeDuties, Cond.selects RX3 yX3_makeDuties yX3_makeDuties, Cond.code yX3_makeDuties cX3_makeDuties 5 (some .int)]
def wsX3_sign_r4 : List Cond := [Cond.fieldLink RX3 93 "ClauseShop$Contract" "items" "[LClauseShop$Version;", Cond.fieldLink RX3 29 "ClauseShop" "dutyList" "Ljava/util/ArrayList;", Cond.classLink RX3 152 RX1, Cond.instantiable RX1 4, Cond.initialized RX1, Cond.fieldLink RX3 32 "ClauseShop" "today" "I", Cond.fieldLink RX3 232 "ClauseShop$Version" "days" "I", Cond.methodLink RX3 235 yX1_init, Cond.instanceMethod yX1_init, Cond.code yX1_init cX1_init 4 none, Cond.methodLink RX1 3 objectInit, Cond.instanceMethod objectInit, Cond.code objectInit ⟨#[0xb1]⟩ 1 none, Cond.fieldLink RX1 9 "ClauseShop$Duty" "state" "I", Cond.fieldLink RX1 15 "ClauseShop$Duty" "contract" "LClauseShop$Contract;", Cond.fieldLink RX1 19 "ClauseShop$Duty" "version" "LClauseShop$Version;", Cond.fieldLink RX1 23 "ClauseShop$Duty" "day" "I", Cond.methodLink RX3 79 yJx4a65c_add_9ea2d, Cond.instanceMethod yJx4a65c_add_9ea2d, Cond.selects RJx4a65c yJx4a65c_add_9ea2d yJx4a65c_add_9ea2d, Cond.code yJx4a65c_add_9ea2d cJx4a65c_add_9ea2d 2 (some .boolean), Cond.fieldLink RJx4a65c 63 "java/util/ArrayList" "modCount" "I", Cond.sameField "java/util/ArrayList" "java/util/AbstractList" "modCount" "I", Cond.methodLink RJx4a65c 131 yJx4a65c_add_72be8]
def wsX3_sign_r5 : List Cond := [Cond.instanceMethod yJx4a65c_add_72be8, Cond.selects RJx4a65c yJx4a65c_add_72be8 yJx4a65c_add_72be8, Cond.code yJx4a65c_add_72be8 cJx4a65c_add_72be8 4 none, Cond.methodLink RJx4a65c 129 yJx4a65c_grow_d5877, Cond.instanceMethod yJx4a65c_grow_d5877, Cond.selects RJx4a65c yJx4a65c_grow_d5877 yJx4a65c_grow_d5877, Cond.code yJx4a65c_grow_d5877 cJx4a65c_grow_d5877 1 (some (.array (.object "java/lang/Object"))), Cond.methodLink RJx4a65c 69 yJx4a65c_grow_92f84, Cond.instanceMethod yJx4a65c_grow_92f84, Cond.selects RJx4a65c yJx4a65c_grow_92f84 yJx4a65c_grow_92f84, Cond.code yJx4a65c_grow_92f84 cJx4a65c_grow_92f84 4 (some (.array (.object "java/lang/Object"))), Cond.fieldLink RJx4a65c 39 "java/util/ArrayList" "DEFAULTCAPACITY_EMPTY_ELEMENTDATA" "[Ljava/lang/Object;", Cond.methodLink RJx4a65c 79 Lib.Math.max.name, Cond.static Lib.Math.max.name, Cond.initialized "java/lang/Math", Cond.code Lib.Math.max.name Lib.Math.max.code 2 (some .int), Cond.classLink RJx4a65c 7 "java/lang/Object", Cond.methodLink RJx4a65c 73 yJ8_newLength_cabcc, Cond.static yJ8_newLength_cabcc, Cond.initialized RJ8, Cond.code yJ8_newLength_cabcc cJ8_newLength_cabcc 4 (some .int), Cond.methodLink RJ8 194 Lib.Math.max.name, Cond.constant RJ8 200 (2147483639), Cond.methodLink RJ8 201 yJ8_hugeLength_7cf53]
def wsX3_sign_r6 : List Cond := [Cond.static yJ8_hugeLength_7cf53, Cond.code yJ8_hugeLength_7cf53 cJ8_hugeLength_7cf53 3 (some .int), Cond.methodLink RJx4a65c 66 yJ7_copyOf_1904c, Cond.static yJ7_copyOf_1904c, Cond.initialized RJ7, Cond.code yJ7_copyOf_1904c cJ7_copyOf_1904c 2 (some (.array (.object "java/lang/Object"))), Cond.methodLink RJ7 86 ⟨"java/lang/Object", "getClass", "()Ljava/lang/Class;"⟩, Cond.selects "[Ljava/lang/Object;" ⟨"java/lang/Object", "getClass", "()Ljava/lang/Class;"⟩ ⟨"java/lang/Object", "getClass", "()Ljava/lang/Class;"⟩, Cond.instanceMethod ⟨"java/lang/Object", "getClass", "()Ljava/lang/Class;"⟩, Cond.native ⟨"java/lang/Object", "getClass", "()Ljava/lang/Class;"⟩, Cond.methodLink RJ7 300 yJ7_copyOf_6403c, Cond.static yJ7_copyOf_6403c, Cond.code yJ7_copyOf_6403c cJ7_copyOf_6403c 4 (some (.array (.object "java/lang/Object"))), Cond.classLink RJ7 110 "[Ljava/lang/Object;", Cond.classLink RJ7 2 "java/lang/Object", Cond.methodLink RJ7 304 Lib.Math.min.name, Cond.static Lib.Math.min.name, Cond.code Lib.Math.min.name Lib.Math.min.code 2 (some .int), Cond.methodLink RJ7 150 arraycopyName, Cond.native arraycopyName, Cond.static arraycopyName, Cond.initialized "java/lang/System"]
def wsX3_sign : List Cond := .code yX3_sign cX3_sign 4 (some .int) :: ((wsX3_sign_r1 ++ (wsX3_sign_r2 ++ (wsX3_sign_r3 ++ (wsX3_sign_r4 ++ (wsX3_sign_r5 ++ wsX3_sign_r6))))) ++ wsX00 ++ wsX30 ++ wsJx4a65c0 ++ wsX10 ++ wsX20 ++ (vx_atS RX3 62 "java/lang/IllegalStateException" ["java/lang/RuntimeException", "java/lang/Exception"]).filter goodWord ++ (vx_atS RX3 208 "java/lang/IndexOutOfBoundsException" ["java/lang/RuntimeException", "java/lang/Exception"]).filter goodWord ++ (vx_atS RX3 51 "java/lang/IllegalArgumentException" ["java/lang/RuntimeException", "java/lang/Exception"]).filter goodWord)
def wsX3_putOffHeldUpDuties_r1 : List Cond := [Cond.fieldLink RX3 29 "ClauseShop" "dutyList" "Ljava/util/ArrayList;", Cond.classLink RX3 152 "ClauseShop$Duty", Cond.fieldLink RX3 156 "ClauseShop$Duty" "day" "I", Cond.methodLink RX3 70 yJx4a65c_size_8abf5, Cond.instanceMethod yJx4a65c_size_8abf5, Cond.selects RJx4a65c yJx4a65c_size_8abf5 yJx4a65c_size_8abf5, Cond.initialized RJx4a65c, Cond.code yJx4a65c_size_8abf5 cJx4a65c_size_8abf5 1 (some .int), Cond.fieldLink RJx4a65c 48 "java/util/ArrayList" "size" "I", Cond.methodLink RX3 209 yJx4a65c_get_915e3, Cond.instanceMethod yJx4a65c_get_915e3, Cond.selects RJx4a65c yJx4a65c_get_915e3 yJx4a65c_get_915e3, Cond.code yJx4a65c_get_915e3 cJx4a65c_get_915e3 2 (some (.object "java/lang/Object")), Cond.methodLink RJx4a65c 118 yJ15_checkIndex_7cf53, Cond.static yJ15_checkIndex_7cf53, Cond.initialized RJ15, Cond.code yJ15_checkIndex_7cf53 cJ15_checkIndex_7cf53 2 (some .int), Cond.methodLink RJ15 105 yJ3_checkIndex_8e157, Cond.static yJ3_checkIndex_8e157, Cond.initialized RJ3, Cond.code yJ3_checkIndex_8e157 cJ3_checkIndex_8e157 3 (some .int), Cond.methodLink RJx4a65c 123 yJx4a65c_elementData_915e3, Cond.instanceMethod yJx4a65c_elementData_915e3, Cond.selects RJx4a65c yJx4a65c_elementData_915e3 yJx4a65c_elementData_915e3]
def wsX3_putOffHeldUpDuties_r2 : List Cond := [Cond.code yJx4a65c_elementData_915e3 cJx4a65c_elementData_915e3 2 (some (.object "java/lang/Object")), Cond.fieldLink RJx4a65c 9 "java/util/ArrayList" "elementData" "[Ljava/lang/Object;", Cond.methodLink RX3 159 yX1_isHeldUp, Cond.instanceMethod yX1_isHeldUp, Cond.selects RX1 yX1_isHeldUp yX1_isHeldUp, Cond.initialized RX1, Cond.code yX1_isHeldUp cX1_isHeldUp 1 (some .boolean), Cond.fieldLink RX1 15 "ClauseShop$Duty" "contract" "LClauseShop$Contract;", Cond.fieldLink RX1 30 "ClauseShop$Contract" "breaches" "[I", Cond.fieldLink RX1 19 "ClauseShop$Duty" "version" "LClauseShop$Version;", Cond.fieldLink RX1 36 "ClauseShop$Version" "obligor" "I", Cond.methodLink RX1 26 yX1_canBeDone, Cond.instanceMethod yX1_canBeDone, Cond.selects RX1 yX1_canBeDone yX1_canBeDone, Cond.code yX1_canBeDone cX1_canBeDone 1 (some .boolean), Cond.fieldLink RX1 9 "ClauseShop$Duty" "state" "I"]
def wsX3_putOffHeldUpDuties : List Cond := .code yX3_putOffHeldUpDuties cX3_putOffHeldUpDuties 3 none :: ((wsX3_putOffHeldUpDuties_r1 ++ wsX3_putOffHeldUpDuties_r2) ++ wsX30 ++ wsX10 ++ wsJx4a65c0 ++ wsX00 ++ wsX20)
def wsX3_breachUncuredDuties_r1 : List Cond := [Cond.fieldLink RX3 29 "ClauseShop" "dutyList" "Ljava/util/ArrayList;", Cond.classLink RX3 152 "ClauseShop$Duty", Cond.fieldLink RX3 151 "ClauseShop$Duty" "state" "I", Cond.fieldLink RX3 32 "ClauseShop" "today" "I", Cond.fieldLink RX3 156 "ClauseShop$Duty" "day" "I", Cond.methodLink RX3 70 yJx4a65c_size_8abf5, Cond.instanceMethod yJx4a65c_size_8abf5, Cond.selects RJx4a65c yJx4a65c_size_8abf5 yJx4a65c_size_8abf5, Cond.initialized RJx4a65c, Cond.code yJx4a65c_size_8abf5 cJx4a65c_size_8abf5 1 (some .int), Cond.fieldLink RJx4a65c 48 "java/util/ArrayList" "size" "I", Cond.methodLink RX3 209 yJx4a65c_get_915e3, Cond.instanceMethod yJx4a65c_get_915e3, Cond.selects RJx4a65c yJx4a65c_get_915e3 yJx4a65c_get_915e3, Cond.code yJx4a65c_get_915e3 cJx4a65c_get_915e3 2 (some (.object "java/lang/Object")), Cond.methodLink RJx4a65c 118 yJ15_checkIndex_7cf53, Cond.static yJ15_checkIndex_7cf53, Cond.initialized RJ15, Cond.code yJ15_checkIndex_7cf53 cJ15_checkIndex_7cf53 2 (some .int), Cond.methodLink RJ15 105 yJ3_checkIndex_8e157, Cond.static yJ3_checkIndex_8e157, Cond.initialized RJ3, Cond.code yJ3_checkIndex_8e157 cJ3_checkIndex_8e157 3 (some .int), Cond.methodLink RJx4a65c 123 yJx4a65c_elementData_915e3]
def wsX3_breachUncuredDuties_r2 : List Cond := [Cond.instanceMethod yJx4a65c_elementData_915e3, Cond.selects RJx4a65c yJx4a65c_elementData_915e3 yJx4a65c_elementData_915e3, Cond.code yJx4a65c_elementData_915e3 cJx4a65c_elementData_915e3 2 (some (.object "java/lang/Object")), Cond.fieldLink RJx4a65c 9 "java/util/ArrayList" "elementData" "[Ljava/lang/Object;", Cond.methodLink RX3 167 yX1_move, Cond.instanceMethod yX1_move, Cond.selects RX1 yX1_move yX1_move, Cond.initialized RX1, Cond.code yX1_move cX1_move 3 none, Cond.fieldLink RX1 9 "ClauseShop$Duty" "state" "I", Cond.fieldLink RX1 23 "ClauseShop$Duty" "day" "I", Cond.methodLink RX3 181 yX1_countBreach, Cond.instanceMethod yX1_countBreach, Cond.selects RX1 yX1_countBreach yX1_countBreach, Cond.code yX1_countBreach cX1_countBreach 2 none, Cond.fieldLink RX1 15 "ClauseShop$Duty" "contract" "LClauseShop$Contract;", Cond.fieldLink RX1 30 "ClauseShop$Contract" "breaches" "[I", Cond.fieldLink RX1 19 "ClauseShop$Duty" "version" "LClauseShop$Version;", Cond.fieldLink RX1 36 "ClauseShop$Version" "obligor" "I", Cond.fieldLink RX1 41 "ClauseShop$Contract" "penalties" "[I", Cond.fieldLink RX1 44 "ClauseShop$Version" "penalty" "I"]
def wsX3_breachUncuredDuties : List Cond := .code yX3_breachUncuredDuties cX3_breachUncuredDuties 4 (some .int) :: ((wsX3_breachUncuredDuties_r1 ++ wsX3_breachUncuredDuties_r2) ++ wsX30 ++ wsX10 ++ wsJx4a65c0 ++ wsX00 ++ wsX20)
def wsX3_pass_r1 : List Cond := [Cond.classLink RX3 47 "java/lang/IllegalArgumentException", Cond.initialized "java/lang/IllegalArgumentException", Cond.classLink RX3 58 "java/lang/IllegalStateException", Cond.initialized "java/lang/IllegalStateException", Cond.fieldLink RX3 32 "ClauseShop" "today" "I", Cond.methodLink RX3 43 yX3_isWithin, Cond.static yX3_isWithin, Cond.initialized RX3, Cond.code yX3_isWithin cX3_isWithin 3 (some .boolean), Cond.methodLink RX3 141 yX3_putOffHeldUpDuties, Cond.instanceMethod yX3_putOffHeldUpDuties, Cond.selects RX3 yX3_putOffHeldUpDuties yX3_putOffHeldUpDuties, Cond.code yX3_putOffHeldUpDuties cX3_putOffHeldUpDuties 3 none, Cond.fieldLink RX3 29 "ClauseShop" "dutyList" "Ljava/util/ArrayList;", Cond.classLink RX3 152 "ClauseShop$Duty", Cond.fieldLink RX3 156 "ClauseShop$Duty" "day" "I", Cond.methodLink RX3 70 yJx4a65c_size_8abf5, Cond.instanceMethod yJx4a65c_size_8abf5, Cond.selects RJx4a65c yJx4a65c_size_8abf5 yJx4a65c_size_8abf5, Cond.initialized RJx4a65c, Cond.code yJx4a65c_size_8abf5 cJx4a65c_size_8abf5 1 (some .int), Cond.fieldLink RJx4a65c 48 "java/util/ArrayList" "size" "I", Cond.methodLink RX3 209 yJx4a65c_get_915e3, Cond.instanceMethod yJx4a65c_get_915e3]
def wsX3_pass_r2 : List Cond := [Cond.selects RJx4a65c yJx4a65c_get_915e3 yJx4a65c_get_915e3, Cond.code yJx4a65c_get_915e3 cJx4a65c_get_915e3 2 (some (.object "java/lang/Object")), Cond.methodLink RJx4a65c 118 yJ15_checkIndex_7cf53, Cond.static yJ15_checkIndex_7cf53, Cond.initialized RJ15, Cond.code yJ15_checkIndex_7cf53 cJ15_checkIndex_7cf53 2 (some .int), Cond.methodLink RJ15 105 yJ3_checkIndex_8e157, Cond.static yJ3_checkIndex_8e157, Cond.initialized RJ3, Cond.code yJ3_checkIndex_8e157 cJ3_checkIndex_8e157 3 (some .int), Cond.methodLink RJx4a65c 123 yJx4a65c_elementData_915e3, Cond.instanceMethod yJx4a65c_elementData_915e3, Cond.selects RJx4a65c yJx4a65c_elementData_915e3 yJx4a65c_elementData_915e3, Cond.code yJx4a65c_elementData_915e3 cJx4a65c_elementData_915e3 2 (some (.object "java/lang/Object")), Cond.fieldLink RJx4a65c 9 "java/util/ArrayList" "elementData" "[Ljava/lang/Object;", Cond.methodLink RX3 159 yX1_isHeldUp, Cond.instanceMethod yX1_isHeldUp, Cond.selects RX1 yX1_isHeldUp yX1_isHeldUp, Cond.initialized RX1, Cond.code yX1_isHeldUp cX1_isHeldUp 1 (some .boolean), Cond.fieldLink RX1 15 "ClauseShop$Duty" "contract" "LClauseShop$Contract;", Cond.fieldLink RX1 30 "ClauseShop$Contract" "breaches" "[I", Cond.fieldLink RX1 19 "ClauseShop$Duty" "version" "LClauseShop$Version;", Cond.fieldLink RX1 36 "ClauseShop$Version" "obligor" "I"]
def wsX3_pass_r3 : List Cond := [Cond.methodLink RX1 26 yX1_canBeDone, Cond.instanceMethod yX1_canBeDone, Cond.selects RX1 yX1_canBeDone yX1_canBeDone, Cond.code yX1_canBeDone cX1_canBeDone 1 (some .boolean), Cond.fieldLink RX1 9 "ClauseShop$Duty" "state" "I", Cond.methodLink RX3 144 yX3_breachUncuredDuties, Cond.instanceMethod yX3_breachUncuredDuties, Cond.selects RX3 yX3_breachUncuredDuties yX3_breachUncuredDuties, Cond.code yX3_breachUncuredDuties cX3_breachUncuredDuties 4 (some .int), Cond.fieldLink RX3 151 "ClauseShop$Duty" "state" "I", Cond.methodLink RX3 167 yX1_move, Cond.instanceMethod yX1_move, Cond.selects RX1 yX1_move yX1_move, Cond.code yX1_move cX1_move 3 none, Cond.fieldLink RX1 23 "ClauseShop$Duty" "day" "I", Cond.methodLink RX3 181 yX1_countBreach, Cond.instanceMethod yX1_countBreach, Cond.selects RX1 yX1_countBreach yX1_countBreach, Cond.code yX1_countBreach cX1_countBreach 2 none, Cond.fieldLink RX1 41 "ClauseShop$Contract" "penalties" "[I", Cond.fieldLink RX1 44 "ClauseShop$Version" "penalty" "I"]
def wsX3_pass : List Cond := .code yX3_pass cX3_pass 4 (some .int) :: ((wsX3_pass_r1 ++ (wsX3_pass_r2 ++ wsX3_pass_r3)) ++ wsX30 ++ wsX10 ++ wsJx4a65c0 ++ wsX00 ++ wsX20 ++ (vx_atS RX3 51 "java/lang/IllegalArgumentException" ["java/lang/RuntimeException", "java/lang/Exception"]).filter goodWord ++ (vx_atS RX3 62 "java/lang/IllegalStateException" ["java/lang/RuntimeException", "java/lang/Exception"]).filter goodWord)
def wsX3_duties : List Cond := .code yX3_duties cX3_duties 1 (some .int) :: ([.fieldLink RX3 29 "ClauseShop" "dutyList" "Ljava/util/ArrayList;", .methodLink RX3 70 yJx4a65c_size_8abf5, .instanceMethod yJx4a65c_size_8abf5, .selects RJx4a65c yJx4a65c_size_8abf5 yJx4a65c_size_8abf5, .initialized RJx4a65c, .code yJx4a65c_size_8abf5 cJx4a65c_size_8abf5 1 (some .int), .fieldLink RJx4a65c 48 "java/util/ArrayList" "size" "I"] ++ wsX30 ++ wsJx4a65c0)
def wsX3_dutyAt_r1 : List Cond := [Cond.classLink RX3 204 "java/lang/IndexOutOfBoundsException", Cond.initialized "java/lang/IndexOutOfBoundsException", Cond.fieldLink RX3 29 "ClauseShop" "dutyList" "Ljava/util/ArrayList;", Cond.classLink RX3 152 "ClauseShop$Duty", Cond.methodLink RX3 70 yJx4a65c_size_8abf5, Cond.instanceMethod yJx4a65c_size_8abf5, Cond.selects RJx4a65c yJx4a65c_size_8abf5 yJx4a65c_size_8abf5, Cond.initialized RJx4a65c, Cond.code yJx4a65c_size_8abf5 cJx4a65c_size_8abf5 1 (some .int), Cond.fieldLink RJx4a65c 48 "java/util/ArrayList" "size" "I", Cond.methodLink RX3 43 yX3_isWithin, Cond.static yX3_isWithin, Cond.initialized RX3, Cond.code yX3_isWithin cX3_isWithin 3 (some .boolean), Cond.methodLink RX3 209 yJx4a65c_get_915e3, Cond.instanceMethod yJx4a65c_get_915e3, Cond.selects RJx4a65c yJx4a65c_get_915e3 yJx4a65c_get_915e3, Cond.code yJx4a65c_get_915e3 cJx4a65c_get_915e3 2 (some (.object "java/lang/Object")), Cond.methodLink RJx4a65c 118 yJ15_checkIndex_7cf53, Cond.static yJ15_checkIndex_7cf53, Cond.initialized RJ15, Cond.code yJ15_checkIndex_7cf53 cJ15_checkIndex_7cf53 2 (some .int), Cond.methodLink RJ15 105 yJ3_checkIndex_8e157, Cond.static yJ3_checkIndex_8e157]
def wsX3_dutyAt_r2 : List Cond := [Cond.initialized RJ3, Cond.code yJ3_checkIndex_8e157 cJ3_checkIndex_8e157 3 (some .int), Cond.methodLink RJx4a65c 123 yJx4a65c_elementData_915e3, Cond.instanceMethod yJx4a65c_elementData_915e3, Cond.selects RJx4a65c yJx4a65c_elementData_915e3 yJx4a65c_elementData_915e3, Cond.code yJx4a65c_elementData_915e3 cJx4a65c_elementData_915e3 2 (some (.object "java/lang/Object")), Cond.fieldLink RJx4a65c 9 "java/util/ArrayList" "elementData" "[Ljava/lang/Object;"]
def wsX3_dutyAt : List Cond := .code yX3_dutyAt cX3_dutyAt 2 (some (.object "ClauseShop$Duty")) :: ((wsX3_dutyAt_r1 ++ wsX3_dutyAt_r2) ++ wsX30 ++ wsJx4a65c0 ++ (vx_atS RX3 208 "java/lang/IndexOutOfBoundsException" ["java/lang/RuntimeException", "java/lang/Exception"]).filter goodWord)
def wsX3_state_r1 : List Cond := [Cond.fieldLink RX3 151 "ClauseShop$Duty" "state" "I", Cond.methodLink RX3 147 yX3_dutyAt, Cond.instanceMethod yX3_dutyAt, Cond.selects RX3 yX3_dutyAt yX3_dutyAt, Cond.initialized RX3, Cond.code yX3_dutyAt cX3_dutyAt 2 (some (.object "ClauseShop$Duty")), Cond.classLink RX3 204 "java/lang/IndexOutOfBoundsException", Cond.initialized "java/lang/IndexOutOfBoundsException", Cond.fieldLink RX3 29 "ClauseShop" "dutyList" "Ljava/util/ArrayList;", Cond.classLink RX3 152 "ClauseShop$Duty", Cond.methodLink RX3 70 yJx4a65c_size_8abf5, Cond.instanceMethod yJx4a65c_size_8abf5, Cond.selects RJx4a65c yJx4a65c_size_8abf5 yJx4a65c_size_8abf5, Cond.initialized RJx4a65c, Cond.code yJx4a65c_size_8abf5 cJx4a65c_size_8abf5 1 (some .int), Cond.fieldLink RJx4a65c 48 "java/util/ArrayList" "size" "I", Cond.methodLink RX3 43 yX3_isWithin, Cond.static yX3_isWithin, Cond.code yX3_isWithin cX3_isWithin 3 (some .boolean), Cond.methodLink RX3 209 yJx4a65c_get_915e3, Cond.instanceMethod yJx4a65c_get_915e3, Cond.selects RJx4a65c yJx4a65c_get_915e3 yJx4a65c_get_915e3, Cond.code yJx4a65c_get_915e3 cJx4a65c_get_915e3 2 (some (.object "java/lang/Object")), Cond.methodLink RJx4a65c 118 yJ15_checkIndex_7cf53]
def wsX3_state_r2 : List Cond := [Cond.static yJ15_checkIndex_7cf53, Cond.initialized RJ15, Cond.code yJ15_checkIndex_7cf53 cJ15_checkIndex_7cf53 2 (some .int), Cond.methodLink RJ15 105 yJ3_checkIndex_8e157, Cond.static yJ3_checkIndex_8e157, Cond.initialized RJ3, Cond.code yJ3_checkIndex_8e157 cJ3_checkIndex_8e157 3 (some .int), Cond.methodLink RJx4a65c 123 yJx4a65c_elementData_915e3, Cond.instanceMethod yJx4a65c_elementData_915e3, Cond.selects RJx4a65c yJx4a65c_elementData_915e3 yJx4a65c_elementData_915e3, Cond.code yJx4a65c_elementData_915e3 cJx4a65c_elementData_915e3 2 (some (.object "java/lang/Object")), Cond.fieldLink RJx4a65c 9 "java/util/ArrayList" "elementData" "[Ljava/lang/Object;"]
def wsX3_state : List Cond := .code yX3_state cX3_state 2 (some .int) :: ((wsX3_state_r1 ++ wsX3_state_r2) ++ wsX10 ++ wsX30 ++ wsJx4a65c0 ++ (vx_atS RX3 208 "java/lang/IndexOutOfBoundsException" ["java/lang/RuntimeException", "java/lang/Exception"]).filter goodWord)
def wsX3_day_r1 : List Cond := [Cond.fieldLink RX3 156 "ClauseShop$Duty" "day" "I", Cond.methodLink RX3 147 yX3_dutyAt, Cond.instanceMethod yX3_dutyAt, Cond.selects RX3 yX3_dutyAt yX3_dutyAt, Cond.initialized RX3, Cond.code yX3_dutyAt cX3_dutyAt 2 (some (.object "ClauseShop$Duty")), Cond.classLink RX3 204 "java/lang/IndexOutOfBoundsException", Cond.initialized "java/lang/IndexOutOfBoundsException", Cond.fieldLink RX3 29 "ClauseShop" "dutyList" "Ljava/util/ArrayList;", Cond.classLink RX3 152 "ClauseShop$Duty", Cond.methodLink RX3 70 yJx4a65c_size_8abf5, Cond.instanceMethod yJx4a65c_size_8abf5, Cond.selects RJx4a65c yJx4a65c_size_8abf5 yJx4a65c_size_8abf5, Cond.initialized RJx4a65c, Cond.code yJx4a65c_size_8abf5 cJx4a65c_size_8abf5 1 (some .int), Cond.fieldLink RJx4a65c 48 "java/util/ArrayList" "size" "I", Cond.methodLink RX3 43 yX3_isWithin, Cond.static yX3_isWithin, Cond.code yX3_isWithin cX3_isWithin 3 (some .boolean), Cond.methodLink RX3 209 yJx4a65c_get_915e3, Cond.instanceMethod yJx4a65c_get_915e3, Cond.selects RJx4a65c yJx4a65c_get_915e3 yJx4a65c_get_915e3, Cond.code yJx4a65c_get_915e3 cJx4a65c_get_915e3 2 (some (.object "java/lang/Object")), Cond.methodLink RJx4a65c 118 yJ15_checkIndex_7cf53]
def wsX3_day_r2 : List Cond := [Cond.static yJ15_checkIndex_7cf53, Cond.initialized RJ15, Cond.code yJ15_checkIndex_7cf53 cJ15_checkIndex_7cf53 2 (some .int), Cond.methodLink RJ15 105 yJ3_checkIndex_8e157, Cond.static yJ3_checkIndex_8e157, Cond.initialized RJ3, Cond.code yJ3_checkIndex_8e157 cJ3_checkIndex_8e157 3 (some .int), Cond.methodLink RJx4a65c 123 yJx4a65c_elementData_915e3, Cond.instanceMethod yJx4a65c_elementData_915e3, Cond.selects RJx4a65c yJx4a65c_elementData_915e3 yJx4a65c_elementData_915e3, Cond.code yJx4a65c_elementData_915e3 cJx4a65c_elementData_915e3 2 (some (.object "java/lang/Object")), Cond.fieldLink RJx4a65c 9 "java/util/ArrayList" "elementData" "[Ljava/lang/Object;"]
def wsX3_day : List Cond := .code yX3_day cX3_day 2 (some .int) :: ((wsX3_day_r1 ++ wsX3_day_r2) ++ wsX10 ++ wsX30 ++ wsJx4a65c0 ++ (vx_atS RX3 208 "java/lang/IndexOutOfBoundsException" ["java/lang/RuntimeException", "java/lang/Exception"]).filter goodWord)
def wsX3_isSuspended_r1 : List Cond := [Cond.methodLink RX3 147 yX3_dutyAt, Cond.instanceMethod yX3_dutyAt, Cond.selects RX3 yX3_dutyAt yX3_dutyAt, Cond.initialized RX3, Cond.code yX3_dutyAt cX3_dutyAt 2 (some (.object "ClauseShop$Duty")), Cond.classLink RX3 204 "java/lang/IndexOutOfBoundsException", Cond.initialized "java/lang/IndexOutOfBoundsException", Cond.fieldLink RX3 29 "ClauseShop" "dutyList" "Ljava/util/ArrayList;", Cond.classLink RX3 152 "ClauseShop$Duty", Cond.methodLink RX3 70 yJx4a65c_size_8abf5, Cond.instanceMethod yJx4a65c_size_8abf5, Cond.selects RJx4a65c yJx4a65c_size_8abf5 yJx4a65c_size_8abf5, Cond.initialized RJx4a65c, Cond.code yJx4a65c_size_8abf5 cJx4a65c_size_8abf5 1 (some .int), Cond.fieldLink RJx4a65c 48 "java/util/ArrayList" "size" "I", Cond.methodLink RX3 43 yX3_isWithin, Cond.static yX3_isWithin, Cond.code yX3_isWithin cX3_isWithin 3 (some .boolean), Cond.methodLink RX3 209 yJx4a65c_get_915e3, Cond.instanceMethod yJx4a65c_get_915e3, Cond.selects RJx4a65c yJx4a65c_get_915e3 yJx4a65c_get_915e3, Cond.code yJx4a65c_get_915e3 cJx4a65c_get_915e3 2 (some (.object "java/lang/Object")), Cond.methodLink RJx4a65c 118 yJ15_checkIndex_7cf53, Cond.static yJ15_checkIndex_7cf53]
def wsX3_isSuspended_r2 : List Cond := [Cond.initialized RJ15, Cond.code yJ15_checkIndex_7cf53 cJ15_checkIndex_7cf53 2 (some .int), Cond.methodLink RJ15 105 yJ3_checkIndex_8e157, Cond.static yJ3_checkIndex_8e157, Cond.initialized RJ3, Cond.code yJ3_checkIndex_8e157 cJ3_checkIndex_8e157 3 (some .int), Cond.methodLink RJx4a65c 123 yJx4a65c_elementData_915e3, Cond.instanceMethod yJx4a65c_elementData_915e3, Cond.selects RJx4a65c yJx4a65c_elementData_915e3 yJx4a65c_elementData_915e3, Cond.code yJx4a65c_elementData_915e3 cJx4a65c_elementData_915e3 2 (some (.object "java/lang/Object")), Cond.fieldLink RJx4a65c 9 "java/util/ArrayList" "elementData" "[Ljava/lang/Object;", Cond.methodLink RX3 159 yX1_isHeldUp, Cond.instanceMethod yX1_isHeldUp, Cond.selects RX1 yX1_isHeldUp yX1_isHeldUp, Cond.initialized RX1, Cond.code yX1_isHeldUp cX1_isHeldUp 1 (some .boolean), Cond.fieldLink RX1 15 "ClauseShop$Duty" "contract" "LClauseShop$Contract;", Cond.fieldLink RX1 30 "ClauseShop$Contract" "breaches" "[I", Cond.fieldLink RX1 19 "ClauseShop$Duty" "version" "LClauseShop$Version;", Cond.fieldLink RX1 36 "ClauseShop$Version" "obligor" "I", Cond.methodLink RX1 26 yX1_canBeDone, Cond.instanceMethod yX1_canBeDone, Cond.selects RX1 yX1_canBeDone yX1_canBeDone, Cond.code yX1_canBeDone cX1_canBeDone 1 (some .boolean)]
def wsX3_isSuspended_r3 : List Cond := [Cond.fieldLink RX1 9 "ClauseShop$Duty" "state" "I"]
def wsX3_isSuspended : List Cond := .code yX3_isSuspended cX3_isSuspended 2 (some .boolean) :: ((wsX3_isSuspended_r1 ++ (wsX3_isSuspended_r2 ++ wsX3_isSuspended_r3)) ++ wsX30 ++ wsJx4a65c0 ++ wsX10 ++ wsX00 ++ wsX20 ++ (vx_atS RX3 208 "java/lang/IndexOutOfBoundsException" ["java/lang/RuntimeException", "java/lang/Exception"]).filter goodWord)
def wsX3_perform_r1 : List Cond := [Cond.classLink RX3 58 "java/lang/IllegalStateException", Cond.initialized "java/lang/IllegalStateException", Cond.fieldLink RX3 151 "ClauseShop$Duty" "state" "I", Cond.fieldLink RX3 32 "ClauseShop" "today" "I", Cond.fieldLink RX3 156 "ClauseShop$Duty" "day" "I", Cond.methodLink RX3 147 yX3_dutyAt, Cond.instanceMethod yX3_dutyAt, Cond.selects RX3 yX3_dutyAt yX3_dutyAt, Cond.initialized RX3, Cond.code yX3_dutyAt cX3_dutyAt 2 (some (.object "ClauseShop$Duty")), Cond.classLink RX3 204 "java/lang/IndexOutOfBoundsException", Cond.initialized "java/lang/IndexOutOfBoundsException", Cond.fieldLink RX3 29 "ClauseShop" "dutyList" "Ljava/util/ArrayList;", Cond.classLink RX3 152 "ClauseShop$Duty", Cond.methodLink RX3 70 yJx4a65c_size_8abf5, Cond.instanceMethod yJx4a65c_size_8abf5, Cond.selects RJx4a65c yJx4a65c_size_8abf5 yJx4a65c_size_8abf5, Cond.initialized RJx4a65c, Cond.code yJx4a65c_size_8abf5 cJx4a65c_size_8abf5 1 (some .int), Cond.fieldLink RJx4a65c 48 "java/util/ArrayList" "size" "I", Cond.methodLink RX3 43 yX3_isWithin, Cond.static yX3_isWithin, Cond.code yX3_isWithin cX3_isWithin 3 (some .boolean), Cond.methodLink RX3 209 yJx4a65c_get_915e3]
def wsX3_perform_r2 : List Cond := [Cond.instanceMethod yJx4a65c_get_915e3, Cond.selects RJx4a65c yJx4a65c_get_915e3 yJx4a65c_get_915e3, Cond.code yJx4a65c_get_915e3 cJx4a65c_get_915e3 2 (some (.object "java/lang/Object")), Cond.methodLink RJx4a65c 118 yJ15_checkIndex_7cf53, Cond.static yJ15_checkIndex_7cf53, Cond.initialized RJ15, Cond.code yJ15_checkIndex_7cf53 cJ15_checkIndex_7cf53 2 (some .int), Cond.methodLink RJ15 105 yJ3_checkIndex_8e157, Cond.static yJ3_checkIndex_8e157, Cond.initialized RJ3, Cond.code yJ3_checkIndex_8e157 cJ3_checkIndex_8e157 3 (some .int), Cond.methodLink RJx4a65c 123 yJx4a65c_elementData_915e3, Cond.instanceMethod yJx4a65c_elementData_915e3, Cond.selects RJx4a65c yJx4a65c_elementData_915e3 yJx4a65c_elementData_915e3, Cond.code yJx4a65c_elementData_915e3 cJx4a65c_elementData_915e3 2 (some (.object "java/lang/Object")), Cond.fieldLink RJx4a65c 9 "java/util/ArrayList" "elementData" "[Ljava/lang/Object;", Cond.methodLink RX3 162 yX1_canBeDone, Cond.instanceMethod yX1_canBeDone, Cond.selects RX1 yX1_canBeDone yX1_canBeDone, Cond.initialized RX1, Cond.code yX1_canBeDone cX1_canBeDone 1 (some .boolean), Cond.fieldLink RX1 9 "ClauseShop$Duty" "state" "I", Cond.methodLink RX3 167 yX1_move, Cond.instanceMethod yX1_move]
def wsX3_perform_r3 : List Cond := [Cond.selects RX1 yX1_move yX1_move, Cond.code yX1_move cX1_move 3 none, Cond.fieldLink RX1 23 "ClauseShop$Duty" "day" "I"]
def wsX3_perform : List Cond := .code yX3_perform cX3_perform 4 (some .boolean) :: ((wsX3_perform_r1 ++ (wsX3_perform_r2 ++ wsX3_perform_r3)) ++ wsX10 ++ wsX30 ++ wsJx4a65c0 ++ (vx_atS RX3 62 "java/lang/IllegalStateException" ["java/lang/RuntimeException", "java/lang/Exception"]).filter goodWord ++ (vx_atS RX3 208 "java/lang/IndexOutOfBoundsException" ["java/lang/RuntimeException", "java/lang/Exception"]).filter goodWord)
def wsX3_notice_r1 : List Cond := [Cond.classLink RX3 58 "java/lang/IllegalStateException", Cond.initialized "java/lang/IllegalStateException", Cond.fieldLink RX3 151 "ClauseShop$Duty" "state" "I", Cond.fieldLink RX3 32 "ClauseShop" "today" "I", Cond.fieldLink RX3 156 "ClauseShop$Duty" "day" "I", Cond.fieldLink RX3 172 "ClauseShop$Duty" "version" "LClauseShop$Version;", Cond.fieldLink RX3 176 "ClauseShop$Version" "cure" "I", Cond.methodLink RX3 147 yX3_dutyAt, Cond.instanceMethod yX3_dutyAt, Cond.selects RX3 yX3_dutyAt yX3_dutyAt, Cond.initialized RX3, Cond.code yX3_dutyAt cX3_dutyAt 2 (some (.object "ClauseShop$Duty")), Cond.classLink RX3 204 "java/lang/IndexOutOfBoundsException", Cond.initialized "java/lang/IndexOutOfBoundsException", Cond.fieldLink RX3 29 "ClauseShop" "dutyList" "Ljava/util/ArrayList;", Cond.classLink RX3 152 "ClauseShop$Duty", Cond.methodLink RX3 70 yJx4a65c_size_8abf5, Cond.instanceMethod yJx4a65c_size_8abf5, Cond.selects RJx4a65c yJx4a65c_size_8abf5 yJx4a65c_size_8abf5, Cond.initialized RJx4a65c, Cond.code yJx4a65c_size_8abf5 cJx4a65c_size_8abf5 1 (some .int), Cond.fieldLink RJx4a65c 48 "java/util/ArrayList" "size" "I", Cond.methodLink RX3 43 yX3_isWithin, Cond.static yX3_isWithin]
def wsX3_notice_r2 : List Cond := [Cond.code yX3_isWithin cX3_isWithin 3 (some .boolean), Cond.methodLink RX3 209 yJx4a65c_get_915e3, Cond.instanceMethod yJx4a65c_get_915e3, Cond.selects RJx4a65c yJx4a65c_get_915e3 yJx4a65c_get_915e3, Cond.code yJx4a65c_get_915e3 cJx4a65c_get_915e3 2 (some (.object "java/lang/Object")), Cond.methodLink RJx4a65c 118 yJ15_checkIndex_7cf53, Cond.static yJ15_checkIndex_7cf53, Cond.initialized RJ15, Cond.code yJ15_checkIndex_7cf53 cJ15_checkIndex_7cf53 2 (some .int), Cond.methodLink RJ15 105 yJ3_checkIndex_8e157, Cond.static yJ3_checkIndex_8e157, Cond.initialized RJ3, Cond.code yJ3_checkIndex_8e157 cJ3_checkIndex_8e157 3 (some .int), Cond.methodLink RJx4a65c 123 yJx4a65c_elementData_915e3, Cond.instanceMethod yJx4a65c_elementData_915e3, Cond.selects RJx4a65c yJx4a65c_elementData_915e3 yJx4a65c_elementData_915e3, Cond.code yJx4a65c_elementData_915e3 cJx4a65c_elementData_915e3 2 (some (.object "java/lang/Object")), Cond.fieldLink RJx4a65c 9 "java/util/ArrayList" "elementData" "[Ljava/lang/Object;", Cond.methodLink RX3 167 yX1_move, Cond.instanceMethod yX1_move, Cond.selects RX1 yX1_move yX1_move, Cond.initialized RX1, Cond.code yX1_move cX1_move 3 none, Cond.fieldLink RX1 9 "ClauseShop$Duty" "state" "I"]
def wsX3_notice_r3 : List Cond := [Cond.fieldLink RX1 23 "ClauseShop$Duty" "day" "I"]
def wsX3_notice : List Cond := .code yX3_notice cX3_notice 3 (some .int) :: ((wsX3_notice_r1 ++ (wsX3_notice_r2 ++ wsX3_notice_r3)) ++ wsX10 ++ wsX30 ++ wsX20 ++ wsJx4a65c0 ++ (vx_atS RX3 62 "java/lang/IllegalStateException" ["java/lang/RuntimeException", "java/lang/Exception"]).filter goodWord ++ (vx_atS RX3 208 "java/lang/IndexOutOfBoundsException" ["java/lang/RuntimeException", "java/lang/Exception"]).filter goodWord)
def wsX3_settle_r1 : List Cond := [Cond.classLink RX3 58 "java/lang/IllegalStateException", Cond.initialized "java/lang/IllegalStateException", Cond.fieldLink RX3 151 "ClauseShop$Duty" "state" "I", Cond.fieldLink RX3 32 "ClauseShop" "today" "I", Cond.fieldLink RX3 172 "ClauseShop$Duty" "version" "LClauseShop$Version;", Cond.fieldLink RX3 184 "ClauseShop$Version" "penalty" "I", Cond.methodLink RX3 147 yX3_dutyAt, Cond.instanceMethod yX3_dutyAt, Cond.selects RX3 yX3_dutyAt yX3_dutyAt, Cond.initialized RX3, Cond.code yX3_dutyAt cX3_dutyAt 2 (some (.object "ClauseShop$Duty")), Cond.classLink RX3 204 "java/lang/IndexOutOfBoundsException", Cond.initialized "java/lang/IndexOutOfBoundsException", Cond.fieldLink RX3 29 "ClauseShop" "dutyList" "Ljava/util/ArrayList;", Cond.classLink RX3 152 "ClauseShop$Duty", Cond.methodLink RX3 70 yJx4a65c_size_8abf5, Cond.instanceMethod yJx4a65c_size_8abf5, Cond.selects RJx4a65c yJx4a65c_size_8abf5 yJx4a65c_size_8abf5, Cond.initialized RJx4a65c, Cond.code yJx4a65c_size_8abf5 cJx4a65c_size_8abf5 1 (some .int), Cond.fieldLink RJx4a65c 48 "java/util/ArrayList" "size" "I", Cond.methodLink RX3 43 yX3_isWithin, Cond.static yX3_isWithin, Cond.code yX3_isWithin cX3_isWithin 3 (some .boolean)]
def wsX3_settle_r2 : List Cond := [Cond.methodLink RX3 209 yJx4a65c_get_915e3, Cond.instanceMethod yJx4a65c_get_915e3, Cond.selects RJx4a65c yJx4a65c_get_915e3 yJx4a65c_get_915e3, Cond.code yJx4a65c_get_915e3 cJx4a65c_get_915e3 2 (some (.object "java/lang/Object")), Cond.methodLink RJx4a65c 118 yJ15_checkIndex_7cf53, Cond.static yJ15_checkIndex_7cf53, Cond.initialized RJ15, Cond.code yJ15_checkIndex_7cf53 cJ15_checkIndex_7cf53 2 (some .int), Cond.methodLink RJ15 105 yJ3_checkIndex_8e157, Cond.static yJ3_checkIndex_8e157, Cond.initialized RJ3, Cond.code yJ3_checkIndex_8e157 cJ3_checkIndex_8e157 3 (some .int), Cond.methodLink RJx4a65c 123 yJx4a65c_elementData_915e3, Cond.instanceMethod yJx4a65c_elementData_915e3, Cond.selects RJx4a65c yJx4a65c_elementData_915e3 yJx4a65c_elementData_915e3, Cond.code yJx4a65c_elementData_915e3 cJx4a65c_elementData_915e3 2 (some (.object "java/lang/Object")), Cond.fieldLink RJx4a65c 9 "java/util/ArrayList" "elementData" "[Ljava/lang/Object;", Cond.methodLink RX3 167 yX1_move, Cond.instanceMethod yX1_move, Cond.selects RX1 yX1_move yX1_move, Cond.initialized RX1, Cond.code yX1_move cX1_move 3 none, Cond.fieldLink RX1 9 "ClauseShop$Duty" "state" "I", Cond.fieldLink RX1 23 "ClauseShop$Duty" "day" "I"]
def wsX3_settle_r3 : List Cond := [Cond.methodLink RX3 181 yX1_countBreach, Cond.instanceMethod yX1_countBreach, Cond.selects RX1 yX1_countBreach yX1_countBreach, Cond.code yX1_countBreach cX1_countBreach 2 none, Cond.fieldLink RX1 15 "ClauseShop$Duty" "contract" "LClauseShop$Contract;", Cond.fieldLink RX1 30 "ClauseShop$Contract" "breaches" "[I", Cond.fieldLink RX1 19 "ClauseShop$Duty" "version" "LClauseShop$Version;", Cond.fieldLink RX1 36 "ClauseShop$Version" "obligor" "I", Cond.fieldLink RX1 41 "ClauseShop$Contract" "penalties" "[I", Cond.fieldLink RX1 44 "ClauseShop$Version" "penalty" "I"]
def wsX3_settle : List Cond := .code yX3_settle cX3_settle 3 (some .int) :: ((wsX3_settle_r1 ++ (wsX3_settle_r2 ++ wsX3_settle_r3)) ++ wsX10 ++ wsX30 ++ wsX20 ++ wsJx4a65c0 ++ wsX00 ++ (vx_atS RX3 62 "java/lang/IllegalStateException" ["java/lang/RuntimeException", "java/lang/Exception"]).filter goodWord ++ (vx_atS RX3 208 "java/lang/IndexOutOfBoundsException" ["java/lang/RuntimeException", "java/lang/Exception"]).filter goodWord)
def wsX3_owes_r1 : List Cond := [Cond.fieldLink RX3 187 "ClauseShop$Contract" "penalties" "[I", Cond.methodLink RX3 190 Lib.Math.max.name, Cond.static Lib.Math.max.name, Cond.initialized "java/lang/Math", Cond.code Lib.Math.max.name Lib.Math.max.code 2 (some .int), Cond.methodLink RX3 83 yX3_contractAt, Cond.instanceMethod yX3_contractAt, Cond.selects RX3 yX3_contractAt yX3_contractAt, Cond.initialized RX3, Cond.code yX3_contractAt cX3_contractAt 2 (some (.object "ClauseShop$Contract")), Cond.classLink RX3 204 "java/lang/IndexOutOfBoundsException", Cond.initialized "java/lang/IndexOutOfBoundsException", Cond.fieldLink RX3 25 "ClauseShop" "contracts" "Ljava/util/ArrayList;", Cond.classLink RX3 76 "ClauseShop$Contract", Cond.methodLink RX3 70 yJx4a65c_size_8abf5, Cond.instanceMethod yJx4a65c_size_8abf5, Cond.selects RJx4a65c yJx4a65c_size_8abf5 yJx4a65c_size_8abf5, Cond.initialized RJx4a65c, Cond.code yJx4a65c_size_8abf5 cJx4a65c_size_8abf5 1 (some .int), Cond.fieldLink RJx4a65c 48 "java/util/ArrayList" "size" "I", Cond.methodLink RX3 43 yX3_isWithin, Cond.static yX3_isWithin, Cond.code yX3_isWithin cX3_isWithin 3 (some .boolean), Cond.methodLink RX3 209 yJx4a65c_get_915e3]
def wsX3_owes_r2 : List Cond := [Cond.instanceMethod yJx4a65c_get_915e3, Cond.selects RJx4a65c yJx4a65c_get_915e3 yJx4a65c_get_915e3, Cond.code yJx4a65c_get_915e3 cJx4a65c_get_915e3 2 (some (.object "java/lang/Object")), Cond.methodLink RJx4a65c 118 yJ15_checkIndex_7cf53, Cond.static yJ15_checkIndex_7cf53, Cond.initialized RJ15, Cond.code yJ15_checkIndex_7cf53 cJ15_checkIndex_7cf53 2 (some .int), Cond.methodLink RJ15 105 yJ3_checkIndex_8e157, Cond.static yJ3_checkIndex_8e157, Cond.initialized RJ3, Cond.code yJ3_checkIndex_8e157 cJ3_checkIndex_8e157 3 (some .int), Cond.methodLink RJx4a65c 123 yJx4a65c_elementData_915e3, Cond.instanceMethod yJx4a65c_elementData_915e3, Cond.selects RJx4a65c yJx4a65c_elementData_915e3 yJx4a65c_elementData_915e3, Cond.code yJx4a65c_elementData_915e3 cJx4a65c_elementData_915e3 2 (some (.object "java/lang/Object")), Cond.fieldLink RJx4a65c 9 "java/util/ArrayList" "elementData" "[Ljava/lang/Object;", Cond.methodLink RX3 40 yX3_checkSide, Cond.static yX3_checkSide, Cond.code yX3_checkSide cX3_checkSide 1 none, Cond.classLink RX3 47 "java/lang/IllegalArgumentException", Cond.initialized "java/lang/IllegalArgumentException"]
def wsX3_owes : List Cond := .code yX3_owes cX3_owes 4 (some .int) :: ((wsX3_owes_r1 ++ wsX3_owes_r2) ++ wsX00 ++ wsX30 ++ wsJx4a65c0 ++ (vx_atS RX3 208 "java/lang/IndexOutOfBoundsException" ["java/lang/RuntimeException", "java/lang/Exception"]).filter goodWord ++ (vx_atS RX3 51 "java/lang/IllegalArgumentException" ["java/lang/RuntimeException", "java/lang/Exception"]).filter goodWord)
def wsJ9_max_7cf53 : List Cond := .code yJ9_max_7cf53 cJ9_max_7cf53 2 (some .int) :: ([])
def wsJ9_min_7cf53 : List Cond := .code yJ9_min_7cf53 cJ9_min_7cf53 2 (some .int) :: ([])
def wsL_cell : List Cond := .code yL_cell cL_cell 2 (some .int) :: ([.constant RL 7 (1205586405)])
def wsL_low : List Cond := .code yL_low cL_low 2 (some .int) :: ([])
def wsL_issue_r1 : List Cond := [Cond.classLink RL 14 "java/lang/IllegalArgumentException", Cond.classLink RL 16 "java/lang/IllegalStateException", Cond.methodLink RL 8 yX3_issue, Cond.instanceMethod yX3_issue, Cond.selects RX3 yX3_issue yX3_issue, Cond.initialized RX3, Cond.code yX3_issue cX3_issue 7 (some .int), Cond.classLink RX3 47 "java/lang/IllegalArgumentException", Cond.initialized "java/lang/IllegalArgumentException", Cond.classLink RX3 58 "java/lang/IllegalStateException", Cond.initialized "java/lang/IllegalStateException", Cond.fieldLink RX3 11 "ClauseShop" "newest" "[LClauseShop$Version;", Cond.classLink RX3 9 RX2, Cond.instantiable RX2 5, Cond.initialized RX2, Cond.methodLink RX3 36 yX3_checkClause, Cond.static yX3_checkClause, Cond.code yX3_checkClause cX3_checkClause 1 none, Cond.methodLink RX3 43 yX3_isWithin, Cond.static yX3_isWithin, Cond.code yX3_isWithin cX3_isWithin 3 (some .boolean), Cond.methodLink RX3 40 yX3_checkSide, Cond.static yX3_checkSide, Cond.code yX3_checkSide cX3_checkSide 1 none]
def wsL_issue_r2 : List Cond := [Cond.methodLink RX3 54 yX3_newestNumber, Cond.instanceMethod yX3_newestNumber, Cond.selects RX3 yX3_newestNumber yX3_newestNumber, Cond.code yX3_newestNumber cX3_newestNumber 2 (some .int), Cond.methodLink RX3 218 yX3_numberOf, Cond.static yX3_numberOf, Cond.code yX3_numberOf cX3_numberOf 1 (some .int), Cond.fieldLink RX3 215 "ClauseShop$Version" "number" "I", Cond.methodLink RX3 63 yX2_init, Cond.instanceMethod yX2_init, Cond.code yX2_init cX2_init 6 none, Cond.methodLink RX2 1 objectInit, Cond.instanceMethod objectInit, Cond.code objectInit ⟨#[0xb1]⟩ 1 none, Cond.fieldLink RX2 7 "ClauseShop$Version" "number" "I", Cond.fieldLink RX2 13 "ClauseShop$Version" "obligor" "I", Cond.fieldLink RX2 16 "ClauseShop$Version" "days" "I", Cond.fieldLink RX2 19 "ClauseShop$Version" "cure" "I", Cond.fieldLink RX2 22 "ClauseShop$Version" "penalty" "I"]
def wsL_issue : List Cond := .codeWith yL_issue cL_issue 8 (some .int) [(0, 13, 16, 14), (0, 13, 21, 16)] :: ((wsL_issue_r1 ++ wsL_issue_r2) ++ wsX30 ++ wsX20 ++ (vx_atS RX3 51 "java/lang/IllegalArgumentException" ["java/lang/RuntimeException", "java/lang/Exception"]).filter goodWord ++ (vx_atS RX3 62 "java/lang/IllegalStateException" ["java/lang/RuntimeException", "java/lang/Exception"]).filter goodWord)
def wsL_relate : List Cond := .codeWith yL_relate cL_relate 5 (some .int) [(0, 7, 10, 14)] :: ([.classLink RL 14 "java/lang/IllegalArgumentException", .methodLink RL 18 yX3_relate, .instanceMethod yX3_relate, .selects RX3 yX3_relate yX3_relate, .initialized RX3, .code yX3_relate cX3_relate 4 none, .fieldLink RX3 15 "ClauseShop" "needs" "[I", .fieldLink RX3 19 "ClauseShop" "forbids" "[I", .methodLink RX3 36 yX3_checkClause, .static yX3_checkClause, .code yX3_checkClause cX3_checkClause 1 none, .classLink RX3 47 "java/lang/IllegalArgumentException", .initialized "java/lang/IllegalArgumentException", .methodLink RX3 43 yX3_isWithin, .static yX3_isWithin, .code yX3_isWithin cX3_isWithin 3 (some .boolean), .methodLink RX3 66 yX3_checkOtherClauses, .static yX3_checkOtherClauses, .code yX3_checkOtherClauses cX3_checkOtherClauses 2 none] ++ wsX30 ++ (vx_atS RX3 51 "java/lang/IllegalArgumentException" ["java/lang/RuntimeException", "java/lang/Exception"]).filter goodWord)
def wsL_latest : List Cond := .codeWith yL_latest cL_latest 4 (some .int) [(0, 6, 9, 14)] :: ([.classLink RL 14 "java/lang/IllegalArgumentException", .methodLink RL 22 yX3_latest, .instanceMethod yX3_latest, .selects RX3 yX3_latest yX3_latest, .initialized RX3, .code yX3_latest cX3_latest 2 (some .int), .methodLink RX3 36 yX3_checkClause, .static yX3_checkClause, .code yX3_checkClause cX3_checkClause 1 none, .classLink RX3 47 "java/lang/IllegalArgumentException", .initialized "java/lang/IllegalArgumentException", .methodLink RX3 43 yX3_isWithin, .static yX3_isWithin, .code yX3_isWithin cX3_isWithin 3 (some .boolean), .methodLink RX3 54 yX3_newestNumber, .instanceMethod yX3_newestNumber, .selects RX3 yX3_newestNumber yX3_newestNumber, .code yX3_newestNumber cX3_newestNumber 2 (some .int), .fieldLink RX3 11 "ClauseShop" "newest" "[LClauseShop$Version;", .methodLink RX3 218 yX3_numberOf, .static yX3_numberOf, .code yX3_numberOf cX3_numberOf 1 (some .int), .fieldLink RX3 215 "ClauseShop$Version" "number" "I"] ++ wsX30 ++ wsX20 ++ (vx_atS RX3 51 "java/lang/IllegalArgumentException" ["java/lang/RuntimeException", "java/lang/Exception"]).filter goodWord)
def wsL_begin_r1 : List Cond := [Cond.classLink RL 16 "java/lang/IllegalStateException", Cond.methodLink RL 26 yX3_begin, Cond.instanceMethod yX3_begin, Cond.selects RX3 yX3_begin yX3_begin, Cond.initialized RX3, Cond.code yX3_begin cX3_begin 2 (some .int), Cond.classLink RX3 58 "java/lang/IllegalStateException", Cond.initialized "java/lang/IllegalStateException", Cond.fieldLink RX3 25 "ClauseShop" "contracts" "Ljava/util/ArrayList;", Cond.classLink RX3 76 RX0, Cond.instantiable RX0 5, Cond.initialized RX0, Cond.methodLink RX3 70 yJx4a65c_size_8abf5, Cond.instanceMethod yJx4a65c_size_8abf5, Cond.selects RJx4a65c yJx4a65c_size_8abf5 yJx4a65c_size_8abf5, Cond.initialized RJx4a65c, Cond.code yJx4a65c_size_8abf5 cJx4a65c_size_8abf5 1 (some .int), Cond.fieldLink RJx4a65c 48 "java/util/ArrayList" "size" "I", Cond.instanceMethod yX0_init, Cond.code yX0_init cX0_init 1 none, Cond.methodLink RX0 3 objectInit, Cond.instanceMethod objectInit, Cond.code objectInit ⟨#[0xb1]⟩ 1 none, Cond.classLink RX0 9 RX2]
def wsL_begin_r2 : List Cond := [Cond.fieldLink RX0 11 "ClauseShop$Contract" "items" "[LClauseShop$Version;", Cond.classLink RX0 17 "[[I", Cond.arrayClass .int, Cond.fieldLink RX0 19 "ClauseShop$Contract" "marks" "[[I", Cond.arrayClass .boolean, Cond.fieldLink RX0 22 "ClauseShop$Contract" "signed" "[Z", Cond.fieldLink RX0 26 "ClauseShop$Contract" "breaches" "[I", Cond.fieldLink RX0 30 "ClauseShop$Contract" "penalties" "[I", Cond.methodLink RX3 79 yJx4a65c_add_9ea2d, Cond.instanceMethod yJx4a65c_add_9ea2d, Cond.selects RJx4a65c yJx4a65c_add_9ea2d yJx4a65c_add_9ea2d, Cond.code yJx4a65c_add_9ea2d cJx4a65c_add_9ea2d 2 (some .boolean), Cond.fieldLink RJx4a65c 63 "java/util/ArrayList" "modCount" "I", Cond.sameField "java/util/ArrayList" "java/util/AbstractList" "modCount" "I", Cond.fieldLink RJx4a65c 9 "java/util/ArrayList" "elementData" "[Ljava/lang/Object;", Cond.methodLink RJx4a65c 131 yJx4a65c_add_72be8, Cond.instanceMethod yJx4a65c_add_72be8, Cond.selects RJx4a65c yJx4a65c_add_72be8 yJx4a65c_add_72be8, Cond.code yJx4a65c_add_72be8 cJx4a65c_add_72be8 4 none, Cond.methodLink RJx4a65c 129 yJx4a65c_grow_d5877, Cond.instanceMethod yJx4a65c_grow_d5877, Cond.selects RJx4a65c yJx4a65c_grow_d5877 yJx4a65c_grow_d5877, Cond.code yJx4a65c_grow_d5877 cJx4a65c_grow_d5877 1 (some (.array (.object "java/lang/Object"))), Cond.methodLink RJx4a65c 69 yJx4a65c_grow_92f84]
def wsL_begin_r3 : List Cond := [Cond.instanceMethod yJx4a65c_grow_92f84, Cond.selects RJx4a65c yJx4a65c_grow_92f84 yJx4a65c_grow_92f84, Cond.code yJx4a65c_grow_92f84 cJx4a65c_grow_92f84 4 (some (.array (.object "java/lang/Object"))), Cond.fieldLink RJx4a65c 39 "java/util/ArrayList" "DEFAULTCAPACITY_EMPTY_ELEMENTDATA" "[Ljava/lang/Object;", Cond.methodLink RJx4a65c 79 Lib.Math.max.name, Cond.static Lib.Math.max.name, Cond.initialized "java/lang/Math", Cond.code Lib.Math.max.name Lib.Math.max.code 2 (some .int), Cond.classLink RJx4a65c 7 "java/lang/Object", Cond.methodLink RJx4a65c 73 yJ8_newLength_cabcc, Cond.static yJ8_newLength_cabcc, Cond.initialized RJ8, Cond.code yJ8_newLength_cabcc cJ8_newLength_cabcc 4 (some .int), Cond.methodLink RJ8 194 Lib.Math.max.name, Cond.constant RJ8 200 (2147483639), Cond.methodLink RJ8 201 yJ8_hugeLength_7cf53, Cond.static yJ8_hugeLength_7cf53, Cond.code yJ8_hugeLength_7cf53 cJ8_hugeLength_7cf53 3 (some .int), Cond.methodLink RJx4a65c 66 yJ7_copyOf_1904c, Cond.static yJ7_copyOf_1904c, Cond.initialized RJ7, Cond.code yJ7_copyOf_1904c cJ7_copyOf_1904c 2 (some (.array (.object "java/lang/Object"))), Cond.methodLink RJ7 86 ⟨"java/lang/Object", "getClass", "()Ljava/lang/Class;"⟩, Cond.selects "[Ljava/lang/Object;" ⟨"java/lang/Object", "getClass", "()Ljava/lang/Class;"⟩ ⟨"java/lang/Object", "getClass", "()Ljava/lang/Class;"⟩]
def wsL_begin_r4 : List Cond := [Cond.instanceMethod ⟨"java/lang/Object", "getClass", "()Ljava/lang/Class;"⟩, Cond.native ⟨"java/lang/Object", "getClass", "()Ljava/lang/Class;"⟩, Cond.methodLink RJ7 300 yJ7_copyOf_6403c, Cond.static yJ7_copyOf_6403c, Cond.code yJ7_copyOf_6403c cJ7_copyOf_6403c 4 (some (.array (.object "java/lang/Object"))), Cond.classLink RJ7 110 "[Ljava/lang/Object;", Cond.classLink RJ7 2 "java/lang/Object", Cond.methodLink RJ7 304 Lib.Math.min.name, Cond.static Lib.Math.min.name, Cond.code Lib.Math.min.name Lib.Math.min.code 2 (some .int), Cond.methodLink RJ7 150 arraycopyName, Cond.native arraycopyName, Cond.static arraycopyName, Cond.initialized "java/lang/System"]
def wsL_begin : List Cond := .codeWith yL_begin cL_begin 3 (some .int) [(0, 5, 8, 16)] :: ((wsL_begin_r1 ++ (wsL_begin_r2 ++ (wsL_begin_r3 ++ wsL_begin_r4))) ++ wsX30 ++ wsX00 ++ wsJx4a65c0 ++ (vx_atS RX3 62 "java/lang/IllegalStateException" ["java/lang/RuntimeException", "java/lang/Exception"]).filter goodWord)
def wsL_mark_r1 : List Cond := [Cond.classLink RL 34 "java/lang/IndexOutOfBoundsException", Cond.classLink RL 14 "java/lang/IllegalArgumentException", Cond.classLink RL 16 "java/lang/IllegalStateException", Cond.methodLink RL 30 yX3_mark, Cond.instanceMethod yX3_mark, Cond.selects RX3 yX3_mark yX3_mark, Cond.initialized RX3, Cond.code yX3_mark cX3_mark 7 (some .int), Cond.classLink RX3 47 "java/lang/IllegalArgumentException", Cond.initialized "java/lang/IllegalArgumentException", Cond.classLink RX3 58 "java/lang/IllegalStateException", Cond.initialized "java/lang/IllegalStateException", Cond.fieldLink RX3 93 "ClauseShop$Contract" "items" "[LClauseShop$Version;", Cond.fieldLink RX3 11 "ClauseShop" "newest" "[LClauseShop$Version;", Cond.fieldLink RX3 102 "ClauseShop$Contract" "marks" "[[I", Cond.methodLink RX3 83 yX3_contractAt, Cond.instanceMethod yX3_contractAt, Cond.selects RX3 yX3_contractAt yX3_contractAt, Cond.code yX3_contractAt cX3_contractAt 2 (some (.object "ClauseShop$Contract")), Cond.classLink RX3 204 "java/lang/IndexOutOfBoundsException", Cond.initialized "java/lang/IndexOutOfBoundsException", Cond.fieldLink RX3 25 "ClauseShop" "contracts" "Ljava/util/ArrayList;", Cond.classLink RX3 76 "ClauseShop$Contract", Cond.methodLink RX3 70 yJx4a65c_size_8abf5]
def wsL_mark_r2 : List Cond := [Cond.instanceMethod yJx4a65c_size_8abf5, Cond.selects RJx4a65c yJx4a65c_size_8abf5 yJx4a65c_size_8abf5, Cond.initialized RJx4a65c, Cond.code yJx4a65c_size_8abf5 cJx4a65c_size_8abf5 1 (some .int), Cond.fieldLink RJx4a65c 48 "java/util/ArrayList" "size" "I", Cond.methodLink RX3 43 yX3_isWithin, Cond.static yX3_isWithin, Cond.code yX3_isWithin cX3_isWithin 3 (some .boolean), Cond.methodLink RX3 209 yJx4a65c_get_915e3, Cond.instanceMethod yJx4a65c_get_915e3, Cond.selects RJx4a65c yJx4a65c_get_915e3 yJx4a65c_get_915e3, Cond.code yJx4a65c_get_915e3 cJx4a65c_get_915e3 2 (some (.object "java/lang/Object")), Cond.methodLink RJx4a65c 118 yJ15_checkIndex_7cf53, Cond.static yJ15_checkIndex_7cf53, Cond.initialized RJ15, Cond.code yJ15_checkIndex_7cf53 cJ15_checkIndex_7cf53 2 (some .int), Cond.methodLink RJ15 105 yJ3_checkIndex_8e157, Cond.static yJ3_checkIndex_8e157, Cond.initialized RJ3, Cond.code yJ3_checkIndex_8e157 cJ3_checkIndex_8e157 3 (some .int), Cond.methodLink RJx4a65c 123 yJx4a65c_elementData_915e3, Cond.instanceMethod yJx4a65c_elementData_915e3, Cond.selects RJx4a65c yJx4a65c_elementData_915e3 yJx4a65c_elementData_915e3, Cond.code yJx4a65c_elementData_915e3 cJx4a65c_elementData_915e3 2 (some (.object "java/lang/Object"))]
def wsL_mark_r3 : List Cond := [Cond.fieldLink RJx4a65c 9 "java/util/ArrayList" "elementData" "[Ljava/lang/Object;", Cond.methodLink RX3 40 yX3_checkSide, Cond.static yX3_checkSide, Cond.code yX3_checkSide cX3_checkSide 1 none, Cond.methodLink RX3 36 yX3_checkClause, Cond.static yX3_checkClause, Cond.code yX3_checkClause cX3_checkClause 1 none, Cond.methodLink RX3 89 yX3_checkDraft, Cond.static yX3_checkDraft, Cond.code yX3_checkDraft cX3_checkDraft 1 none, Cond.methodLink RX3 120 yX0_isDraft, Cond.instanceMethod yX0_isDraft, Cond.selects RX0 yX0_isDraft yX0_isDraft, Cond.initialized RX0, Cond.code yX0_isDraft cX0_isDraft 1 (some .boolean), Cond.fieldLink RX0 22 "ClauseShop$Contract" "signed" "[Z", Cond.methodLink RX3 98 yX0_bringIn, Cond.instanceMethod yX0_bringIn, Cond.selects RX0 yX0_bringIn yX0_bringIn, Cond.code yX0_bringIn cX0_bringIn 4 none, Cond.fieldLink RX0 11 "ClauseShop$Contract" "items" "[LClauseShop$Version;", Cond.fieldLink RX0 19 "ClauseShop$Contract" "marks" "[[I", Cond.methodLink RX0 33 yX0_loseSignatures, Cond.instanceMethod yX0_loseSignatures]
def wsL_mark_r4 : List Cond := [Cond.selects RX0 yX0_loseSignatures yX0_loseSignatures, Cond.code yX0_loseSignatures cX0_loseSignatures 1 none, Cond.methodLink RX3 106 yX0_changeMark, Cond.instanceMethod yX0_changeMark, Cond.selects RX0 yX0_changeMark yX0_changeMark, Cond.code yX0_changeMark cX0_changeMark 4 none]
def wsL_mark : List Cond := .codeWith yL_mark cL_mark 7 (some .int) [(0, 11, 14, 34), (0, 11, 19, 14), (0, 11, 24, 16)] :: ((wsL_mark_r1 ++ (wsL_mark_r2 ++ (wsL_mark_r3 ++ wsL_mark_r4))) ++ wsX00 ++ wsX30 ++ wsJx4a65c0 ++ (vx_atS RX3 51 "java/lang/IllegalArgumentException" ["java/lang/RuntimeException", "java/lang/Exception"]).filter goodWord ++ (vx_atS RX3 62 "java/lang/IllegalStateException" ["java/lang/RuntimeException", "java/lang/Exception"]).filter goodWord ++ (vx_atS RX3 208 "java/lang/IndexOutOfBoundsException" ["java/lang/RuntimeException", "java/lang/Exception"]).filter goodWord)
def wsL_renew_r1 : List Cond := [Cond.classLink RL 34 "java/lang/IndexOutOfBoundsException", Cond.classLink RL 14 "java/lang/IllegalArgumentException", Cond.classLink RL 16 "java/lang/IllegalStateException", Cond.methodLink RL 36 yX3_renew, Cond.instanceMethod yX3_renew, Cond.selects RX3 yX3_renew yX3_renew, Cond.initialized RX3, Cond.code yX3_renew cX3_renew 6 (some .int), Cond.classLink RX3 58 "java/lang/IllegalStateException", Cond.initialized "java/lang/IllegalStateException", Cond.fieldLink RX3 11 "ClauseShop" "newest" "[LClauseShop$Version;", Cond.methodLink RX3 83 yX3_contractAt, Cond.instanceMethod yX3_contractAt, Cond.selects RX3 yX3_contractAt yX3_contractAt, Cond.code yX3_contractAt cX3_contractAt 2 (some (.object "ClauseShop$Contract")), Cond.classLink RX3 204 "java/lang/IndexOutOfBoundsException", Cond.initialized "java/lang/IndexOutOfBoundsException", Cond.fieldLink RX3 25 "ClauseShop" "contracts" "Ljava/util/ArrayList;", Cond.classLink RX3 76 "ClauseShop$Contract", Cond.methodLink RX3 70 yJx4a65c_size_8abf5, Cond.instanceMethod yJx4a65c_size_8abf5, Cond.selects RJx4a65c yJx4a65c_size_8abf5 yJx4a65c_size_8abf5, Cond.initialized RJx4a65c, Cond.code yJx4a65c_size_8abf5 cJx4a65c_size_8abf5 1 (some .int)]
def wsL_renew_r2 : List Cond := [Cond.fieldLink RJx4a65c 48 "java/util/ArrayList" "size" "I", Cond.methodLink RX3 43 yX3_isWithin, Cond.static yX3_isWithin, Cond.code yX3_isWithin cX3_isWithin 3 (some .boolean), Cond.methodLink RX3 209 yJx4a65c_get_915e3, Cond.instanceMethod yJx4a65c_get_915e3, Cond.selects RJx4a65c yJx4a65c_get_915e3 yJx4a65c_get_915e3, Cond.code yJx4a65c_get_915e3 cJx4a65c_get_915e3 2 (some (.object "java/lang/Object")), Cond.methodLink RJx4a65c 118 yJ15_checkIndex_7cf53, Cond.static yJ15_checkIndex_7cf53, Cond.initialized RJ15, Cond.code yJ15_checkIndex_7cf53 cJ15_checkIndex_7cf53 2 (some .int), Cond.methodLink RJ15 105 yJ3_checkIndex_8e157, Cond.static yJ3_checkIndex_8e157, Cond.initialized RJ3, Cond.code yJ3_checkIndex_8e157 cJ3_checkIndex_8e157 3 (some .int), Cond.methodLink RJx4a65c 123 yJx4a65c_elementData_915e3, Cond.instanceMethod yJx4a65c_elementData_915e3, Cond.selects RJx4a65c yJx4a65c_elementData_915e3 yJx4a65c_elementData_915e3, Cond.code yJx4a65c_elementData_915e3 cJx4a65c_elementData_915e3 2 (some (.object "java/lang/Object")), Cond.fieldLink RJx4a65c 9 "java/util/ArrayList" "elementData" "[Ljava/lang/Object;", Cond.methodLink RX3 40 yX3_checkSide, Cond.static yX3_checkSide, Cond.code yX3_checkSide cX3_checkSide 1 none]
def wsL_renew_r3 : List Cond := [Cond.classLink RX3 47 "java/lang/IllegalArgumentException", Cond.initialized "java/lang/IllegalArgumentException", Cond.methodLink RX3 36 yX3_checkClause, Cond.static yX3_checkClause, Cond.code yX3_checkClause cX3_checkClause 1 none, Cond.methodLink RX3 89 yX3_checkDraft, Cond.static yX3_checkDraft, Cond.code yX3_checkDraft cX3_checkDraft 1 none, Cond.methodLink RX3 120 yX0_isDraft, Cond.instanceMethod yX0_isDraft, Cond.selects RX0 yX0_isDraft yX0_isDraft, Cond.initialized RX0, Cond.code yX0_isDraft cX0_isDraft 1 (some .boolean), Cond.fieldLink RX0 22 "ClauseShop$Contract" "signed" "[Z", Cond.methodLink RX3 110 yX3_hasLaterVersion, Cond.instanceMethod yX3_hasLaterVersion, Cond.selects RX3 yX3_hasLaterVersion yX3_hasLaterVersion, Cond.code yX3_hasLaterVersion cX3_hasLaterVersion 3 (some .boolean), Cond.fieldLink RX3 93 "ClauseShop$Contract" "items" "[LClauseShop$Version;", Cond.methodLink RX3 116 yX3_itemNumber, Cond.static yX3_itemNumber, Cond.code yX3_itemNumber cX3_itemNumber 2 (some .int), Cond.methodLink RX3 218 yX3_numberOf, Cond.static yX3_numberOf]
def wsL_renew_r4 : List Cond := [Cond.code yX3_numberOf cX3_numberOf 1 (some .int), Cond.fieldLink RX3 215 "ClauseShop$Version" "number" "I", Cond.methodLink RX3 54 yX3_newestNumber, Cond.instanceMethod yX3_newestNumber, Cond.selects RX3 yX3_newestNumber yX3_newestNumber, Cond.code yX3_newestNumber cX3_newestNumber 2 (some .int), Cond.methodLink RX3 98 yX0_bringIn, Cond.instanceMethod yX0_bringIn, Cond.selects RX0 yX0_bringIn yX0_bringIn, Cond.code yX0_bringIn cX0_bringIn 4 none, Cond.fieldLink RX0 11 "ClauseShop$Contract" "items" "[LClauseShop$Version;", Cond.fieldLink RX0 19 "ClauseShop$Contract" "marks" "[[I", Cond.methodLink RX0 33 yX0_loseSignatures, Cond.instanceMethod yX0_loseSignatures, Cond.selects RX0 yX0_loseSignatures yX0_loseSignatures, Cond.code yX0_loseSignatures cX0_loseSignatures 1 none]
def wsL_renew : List Cond := .codeWith yL_renew cL_renew 6 (some .int) [(0, 9, 12, 34), (0, 9, 17, 14), (0, 9, 22, 16)] :: ((wsL_renew_r1 ++ (wsL_renew_r2 ++ (wsL_renew_r3 ++ wsL_renew_r4))) ++ wsX30 ++ wsJx4a65c0 ++ wsX00 ++ wsX20 ++ (vx_atS RX3 62 "java/lang/IllegalStateException" ["java/lang/RuntimeException", "java/lang/Exception"]).filter goodWord ++ (vx_atS RX3 208 "java/lang/IndexOutOfBoundsException" ["java/lang/RuntimeException", "java/lang/Exception"]).filter goodWord ++ (vx_atS RX3 51 "java/lang/IllegalArgumentException" ["java/lang/RuntimeException", "java/lang/Exception"]).filter goodWord)
def wsL_version_r1 : List Cond := [Cond.classLink RL 34 "java/lang/IndexOutOfBoundsException", Cond.classLink RL 14 "java/lang/IllegalArgumentException", Cond.methodLink RL 40 yX3_version, Cond.instanceMethod yX3_version, Cond.selects RX3 yX3_version yX3_version, Cond.initialized RX3, Cond.code yX3_version cX3_version 4 (some .int), Cond.methodLink RX3 83 yX3_contractAt, Cond.instanceMethod yX3_contractAt, Cond.selects RX3 yX3_contractAt yX3_contractAt, Cond.code yX3_contractAt cX3_contractAt 2 (some (.object "ClauseShop$Contract")), Cond.classLink RX3 204 "java/lang/IndexOutOfBoundsException", Cond.initialized "java/lang/IndexOutOfBoundsException", Cond.fieldLink RX3 25 "ClauseShop" "contracts" "Ljava/util/ArrayList;", Cond.classLink RX3 76 "ClauseShop$Contract", Cond.methodLink RX3 70 yJx4a65c_size_8abf5, Cond.instanceMethod yJx4a65c_size_8abf5, Cond.selects RJx4a65c yJx4a65c_size_8abf5 yJx4a65c_size_8abf5, Cond.initialized RJx4a65c, Cond.code yJx4a65c_size_8abf5 cJx4a65c_size_8abf5 1 (some .int), Cond.fieldLink RJx4a65c 48 "java/util/ArrayList" "size" "I", Cond.methodLink RX3 43 yX3_isWithin, Cond.static yX3_isWithin, Cond.code yX3_isWithin cX3_isWithin 3 (some .boolean)]
def wsL_version_r2 : List Cond := [Cond.methodLink RX3 209 yJx4a65c_get_915e3, Cond.instanceMethod yJx4a65c_get_915e3, Cond.selects RJx4a65c yJx4a65c_get_915e3 yJx4a65c_get_915e3, Cond.code yJx4a65c_get_915e3 cJx4a65c_get_915e3 2 (some (.object "java/lang/Object")), Cond.methodLink RJx4a65c 118 yJ15_checkIndex_7cf53, Cond.static yJ15_checkIndex_7cf53, Cond.initialized RJ15, Cond.code yJ15_checkIndex_7cf53 cJ15_checkIndex_7cf53 2 (some .int), Cond.methodLink RJ15 105 yJ3_checkIndex_8e157, Cond.static yJ3_checkIndex_8e157, Cond.initialized RJ3, Cond.code yJ3_checkIndex_8e157 cJ3_checkIndex_8e157 3 (some .int), Cond.methodLink RJx4a65c 123 yJx4a65c_elementData_915e3, Cond.instanceMethod yJx4a65c_elementData_915e3, Cond.selects RJx4a65c yJx4a65c_elementData_915e3 yJx4a65c_elementData_915e3, Cond.code yJx4a65c_elementData_915e3 cJx4a65c_elementData_915e3 2 (some (.object "java/lang/Object")), Cond.fieldLink RJx4a65c 9 "java/util/ArrayList" "elementData" "[Ljava/lang/Object;", Cond.methodLink RX3 36 yX3_checkClause, Cond.static yX3_checkClause, Cond.code yX3_checkClause cX3_checkClause 1 none, Cond.classLink RX3 47 "java/lang/IllegalArgumentException", Cond.initialized "java/lang/IllegalArgumentException", Cond.methodLink RX3 116 yX3_itemNumber, Cond.static yX3_itemNumber]
def wsL_version_r3 : List Cond := [Cond.code yX3_itemNumber cX3_itemNumber 2 (some .int), Cond.fieldLink RX3 93 "ClauseShop$Contract" "items" "[LClauseShop$Version;", Cond.methodLink RX3 218 yX3_numberOf, Cond.static yX3_numberOf, Cond.code yX3_numberOf cX3_numberOf 1 (some .int), Cond.fieldLink RX3 215 "ClauseShop$Version" "number" "I"]
def wsL_version : List Cond := .codeWith yL_version cL_version 5 (some .int) [(0, 7, 10, 34), (0, 7, 15, 14)] :: ((wsL_version_r1 ++ (wsL_version_r2 ++ wsL_version_r3)) ++ wsX30 ++ wsJx4a65c0 ++ wsX00 ++ wsX20 ++ (vx_atS RX3 208 "java/lang/IndexOutOfBoundsException" ["java/lang/RuntimeException", "java/lang/Exception"]).filter goodWord ++ (vx_atS RX3 51 "java/lang/IllegalArgumentException" ["java/lang/RuntimeException", "java/lang/Exception"]).filter goodWord)
def wsL_offered_r1 : List Cond := [Cond.classLink RL 34 "java/lang/IndexOutOfBoundsException", Cond.methodLink RL 44 yX3_offered, Cond.instanceMethod yX3_offered, Cond.selects RX3 yX3_offered yX3_offered, Cond.initialized RX3, Cond.code yX3_offered cX3_offered 5 (some .int), Cond.methodLink RX3 83 yX3_contractAt, Cond.instanceMethod yX3_contractAt, Cond.selects RX3 yX3_contractAt yX3_contractAt, Cond.code yX3_contractAt cX3_contractAt 2 (some (.object "ClauseShop$Contract")), Cond.classLink RX3 204 "java/lang/IndexOutOfBoundsException", Cond.initialized "java/lang/IndexOutOfBoundsException", Cond.fieldLink RX3 25 "ClauseShop" "contracts" "Ljava/util/ArrayList;", Cond.classLink RX3 76 "ClauseShop$Contract", Cond.methodLink RX3 70 yJx4a65c_size_8abf5, Cond.instanceMethod yJx4a65c_size_8abf5, Cond.selects RJx4a65c yJx4a65c_size_8abf5 yJx4a65c_size_8abf5, Cond.initialized RJx4a65c, Cond.code yJx4a65c_size_8abf5 cJx4a65c_size_8abf5 1 (some .int), Cond.fieldLink RJx4a65c 48 "java/util/ArrayList" "size" "I", Cond.methodLink RX3 43 yX3_isWithin, Cond.static yX3_isWithin, Cond.code yX3_isWithin cX3_isWithin 3 (some .boolean), Cond.methodLink RX3 209 yJx4a65c_get_915e3]
def wsL_offered_r2 : List Cond := [Cond.instanceMethod yJx4a65c_get_915e3, Cond.selects RJx4a65c yJx4a65c_get_915e3 yJx4a65c_get_915e3, Cond.code yJx4a65c_get_915e3 cJx4a65c_get_915e3 2 (some (.object "java/lang/Object")), Cond.methodLink RJx4a65c 118 yJ15_checkIndex_7cf53, Cond.static yJ15_checkIndex_7cf53, Cond.initialized RJ15, Cond.code yJ15_checkIndex_7cf53 cJ15_checkIndex_7cf53 2 (some .int), Cond.methodLink RJ15 105 yJ3_checkIndex_8e157, Cond.static yJ3_checkIndex_8e157, Cond.initialized RJ3, Cond.code yJ3_checkIndex_8e157 cJ3_checkIndex_8e157 3 (some .int), Cond.methodLink RJx4a65c 123 yJx4a65c_elementData_915e3, Cond.instanceMethod yJx4a65c_elementData_915e3, Cond.selects RJx4a65c yJx4a65c_elementData_915e3 yJx4a65c_elementData_915e3, Cond.code yJx4a65c_elementData_915e3 cJx4a65c_elementData_915e3 2 (some (.object "java/lang/Object")), Cond.fieldLink RJx4a65c 9 "java/util/ArrayList" "elementData" "[Ljava/lang/Object;", Cond.methodLink RX3 120 yX0_isDraft, Cond.instanceMethod yX0_isDraft, Cond.selects RX0 yX0_isDraft yX0_isDraft, Cond.initialized RX0, Cond.code yX0_isDraft cX0_isDraft 1 (some .boolean), Cond.fieldLink RX0 22 "ClauseShop$Contract" "signed" "[Z", Cond.methodLink RX3 110 yX3_hasLaterVersion, Cond.instanceMethod yX3_hasLaterVersion]
def wsL_offered_r3 : List Cond := [Cond.selects RX3 yX3_hasLaterVersion yX3_hasLaterVersion, Cond.code yX3_hasLaterVersion cX3_hasLaterVersion 3 (some .boolean), Cond.fieldLink RX3 93 "ClauseShop$Contract" "items" "[LClauseShop$Version;", Cond.methodLink RX3 116 yX3_itemNumber, Cond.static yX3_itemNumber, Cond.code yX3_itemNumber cX3_itemNumber 2 (some .int), Cond.methodLink RX3 218 yX3_numberOf, Cond.static yX3_numberOf, Cond.code yX3_numberOf cX3_numberOf 1 (some .int), Cond.fieldLink RX3 215 "ClauseShop$Version" "number" "I", Cond.methodLink RX3 54 yX3_newestNumber, Cond.instanceMethod yX3_newestNumber, Cond.selects RX3 yX3_newestNumber yX3_newestNumber, Cond.code yX3_newestNumber cX3_newestNumber 2 (some .int), Cond.fieldLink RX3 11 "ClauseShop" "newest" "[LClauseShop$Version;"]
def wsL_offered : List Cond := .codeWith yL_offered cL_offered 4 (some .int) [(0, 6, 9, 34)] :: ((wsL_offered_r1 ++ (wsL_offered_r2 ++ wsL_offered_r3)) ++ wsX30 ++ wsJx4a65c0 ++ wsX00 ++ wsX20 ++ (vx_atS RX3 208 "java/lang/IndexOutOfBoundsException" ["java/lang/RuntimeException", "java/lang/Exception"]).filter goodWord)
def wsL_whyNot_r1 : List Cond := [Cond.classLink RL 34 "java/lang/IndexOutOfBoundsException", Cond.methodLink RL 47 yX3_whyNot, Cond.instanceMethod yX3_whyNot, Cond.selects RX3 yX3_whyNot yX3_whyNot, Cond.initialized RX3, Cond.code yX3_whyNot cX3_whyNot 2 (some .int), Cond.methodLink RX3 83 yX3_contractAt, Cond.instanceMethod yX3_contractAt, Cond.selects RX3 yX3_contractAt yX3_contractAt, Cond.code yX3_contractAt cX3_contractAt 2 (some (.object "ClauseShop$Contract")), Cond.classLink RX3 204 "java/lang/IndexOutOfBoundsException", Cond.initialized "java/lang/IndexOutOfBoundsException", Cond.fieldLink RX3 25 "ClauseShop" "contracts" "Ljava/util/ArrayList;", Cond.classLink RX3 76 "ClauseShop$Contract", Cond.methodLink RX3 70 yJx4a65c_size_8abf5, Cond.instanceMethod yJx4a65c_size_8abf5, Cond.selects RJx4a65c yJx4a65c_size_8abf5 yJx4a65c_size_8abf5, Cond.initialized RJx4a65c, Cond.code yJx4a65c_size_8abf5 cJx4a65c_size_8abf5 1 (some .int), Cond.fieldLink RJx4a65c 48 "java/util/ArrayList" "size" "I", Cond.methodLink RX3 43 yX3_isWithin, Cond.static yX3_isWithin, Cond.code yX3_isWithin cX3_isWithin 3 (some .boolean), Cond.methodLink RX3 209 yJx4a65c_get_915e3]
def wsL_whyNot_r2 : List Cond := [Cond.instanceMethod yJx4a65c_get_915e3, Cond.selects RJx4a65c yJx4a65c_get_915e3 yJx4a65c_get_915e3, Cond.code yJx4a65c_get_915e3 cJx4a65c_get_915e3 2 (some (.object "java/lang/Object")), Cond.methodLink RJx4a65c 118 yJ15_checkIndex_7cf53, Cond.static yJ15_checkIndex_7cf53, Cond.initialized RJ15, Cond.code yJ15_checkIndex_7cf53 cJ15_checkIndex_7cf53 2 (some .int), Cond.methodLink RJ15 105 yJ3_checkIndex_8e157, Cond.static yJ3_checkIndex_8e157, Cond.initialized RJ3, Cond.code yJ3_checkIndex_8e157 cJ3_checkIndex_8e157 3 (some .int), Cond.methodLink RJx4a65c 123 yJx4a65c_elementData_915e3, Cond.instanceMethod yJx4a65c_elementData_915e3, Cond.selects RJx4a65c yJx4a65c_elementData_915e3 yJx4a65c_elementData_915e3, Cond.code yJx4a65c_elementData_915e3 cJx4a65c_elementData_915e3 2 (some (.object "java/lang/Object")), Cond.fieldLink RJx4a65c 9 "java/util/ArrayList" "elementData" "[Ljava/lang/Object;", Cond.methodLink RX3 124 yX3_obstacle, Cond.instanceMethod yX3_obstacle, Cond.selects RX3 yX3_obstacle yX3_obstacle, Cond.code yX3_obstacle cX3_obstacle 3 (some .int), Cond.fieldLink RX3 15 "ClauseShop" "needs" "[I", Cond.fieldLink RX3 19 "ClauseShop" "forbids" "[I", Cond.methodLink RX3 222 yX0_clauseSet, Cond.instanceMethod yX0_clauseSet]
def wsL_whyNot_r3 : List Cond := [Cond.selects RX0 yX0_clauseSet yX0_clauseSet, Cond.initialized RX0, Cond.code yX0_clauseSet cX0_clauseSet 3 (some .int), Cond.fieldLink RX0 11 "ClauseShop$Contract" "items" "[LClauseShop$Version;", Cond.methodLink RX3 120 yX0_isDraft, Cond.instanceMethod yX0_isDraft, Cond.selects RX0 yX0_isDraft yX0_isDraft, Cond.code yX0_isDraft cX0_isDraft 1 (some .boolean), Cond.fieldLink RX0 22 "ClauseShop$Contract" "signed" "[Z", Cond.methodLink RX3 225 yX0_isAgreed, Cond.instanceMethod yX0_isAgreed, Cond.selects RX0 yX0_isAgreed yX0_isAgreed, Cond.code yX0_isAgreed cX0_isAgreed 2 (some .boolean), Cond.fieldLink RX0 19 "ClauseShop$Contract" "marks" "[[I", Cond.methodLink RX3 228 yX3_unionOver, Cond.static yX3_unionOver, Cond.code yX3_unionOver cX3_unionOver 4 (some .int)]
def wsL_whyNot : List Cond := .codeWith yL_whyNot cL_whyNot 4 (some .int) [(0, 6, 9, 34)] :: ((wsL_whyNot_r1 ++ (wsL_whyNot_r2 ++ wsL_whyNot_r3)) ++ wsX30 ++ wsJx4a65c0 ++ wsX00 ++ (vx_atS RX3 208 "java/lang/IndexOutOfBoundsException" ["java/lang/RuntimeException", "java/lang/Exception"]).filter goodWord)
def wsL_sign_r1 : List Cond := [Cond.classLink RL 34 "java/lang/IndexOutOfBoundsException", Cond.classLink RL 14 "java/lang/IllegalArgumentException", Cond.classLink RL 16 "java/lang/IllegalStateException", Cond.methodLink RL 50 yX3_sign, Cond.instanceMethod yX3_sign, Cond.selects RX3 yX3_sign yX3_sign, Cond.initialized RX3, Cond.code yX3_sign cX3_sign 4 (some .int), Cond.classLink RX3 58 "java/lang/IllegalStateException", Cond.initialized "java/lang/IllegalStateException", Cond.fieldLink RX3 128 "ClauseShop$Contract" "signed" "[Z", Cond.methodLink RX3 83 yX3_contractAt, Cond.instanceMethod yX3_contractAt, Cond.selects RX3 yX3_contractAt yX3_contractAt, Cond.code yX3_contractAt cX3_contractAt 2 (some (.object "ClauseShop$Contract")), Cond.classLink RX3 204 "java/lang/IndexOutOfBoundsException", Cond.initialized "java/lang/IndexOutOfBoundsException", Cond.fieldLink RX3 25 "ClauseShop" "contracts" "Ljava/util/ArrayList;", Cond.classLink RX3 76 "ClauseShop$Contract", Cond.methodLink RX3 70 yJx4a65c_size_8abf5, Cond.instanceMethod yJx4a65c_size_8abf5, Cond.selects RJx4a65c yJx4a65c_size_8abf5 yJx4a65c_size_8abf5, Cond.initialized RJx4a65c, Cond.code yJx4a65c_size_8abf5 cJx4a65c_size_8abf5 1 (some .int)]
def wsL_sign_r2 : List Cond := [Cond.fieldLink RJx4a65c 48 "java/util/ArrayList" "size" "I", Cond.methodLink RX3 43 yX3_isWithin, Cond.static yX3_isWithin, Cond.code yX3_isWithin cX3_isWithin 3 (some .boolean), Cond.methodLink RX3 209 yJx4a65c_get_915e3, Cond.instanceMethod yJx4a65c_get_915e3, Cond.selects RJx4a65c yJx4a65c_get_915e3 yJx4a65c_get_915e3, Cond.code yJx4a65c_get_915e3 cJx4a65c_get_915e3 2 (some (.object "java/lang/Object")), Cond.methodLink RJx4a65c 118 yJ15_checkIndex_7cf53, Cond.static yJ15_checkIndex_7cf53, Cond.initialized RJ15, Cond.code yJ15_checkIndex_7cf53 cJ15_checkIndex_7cf53 2 (some .int), Cond.methodLink RJ15 105 yJ3_checkIndex_8e157, Cond.static yJ3_checkIndex_8e157, Cond.initialized RJ3, Cond.code yJ3_checkIndex_8e157 cJ3_checkIndex_8e157 3 (some .int), Cond.methodLink RJx4a65c 123 yJx4a65c_elementData_915e3, Cond.instanceMethod yJx4a65c_elementData_915e3, Cond.selects RJx4a65c yJx4a65c_elementData_915e3 yJx4a65c_elementData_915e3, Cond.code yJx4a65c_elementData_915e3 cJx4a65c_elementData_915e3 2 (some (.object "java/lang/Object")), Cond.fieldLink RJx4a65c 9 "java/util/ArrayList" "elementData" "[Ljava/lang/Object;", Cond.methodLink RX3 40 yX3_checkSide, Cond.static yX3_checkSide, Cond.code yX3_checkSide cX3_checkSide 1 none]
def wsL_sign_r3 : List Cond := [Cond.classLink RX3 47 "java/lang/IllegalArgumentException", Cond.initialized "java/lang/IllegalArgumentException", Cond.methodLink RX3 124 yX3_obstacle, Cond.instanceMethod yX3_obstacle, Cond.selects RX3 yX3_obstacle yX3_obstacle, Cond.code yX3_obstacle cX3_obstacle 3 (some .int), Cond.fieldLink RX3 15 "ClauseShop" "needs" "[I", Cond.fieldLink RX3 19 "ClauseShop" "forbids" "[I", Cond.methodLink RX3 222 yX0_clauseSet, Cond.instanceMethod yX0_clauseSet, Cond.selects RX0 yX0_clauseSet yX0_clauseSet, Cond.initialized RX0, Cond.code yX0_clauseSet cX0_clauseSet 3 (some .int), Cond.fieldLink RX0 11 "ClauseShop$Contract" "items" "[LClauseShop$Version;", Cond.methodLink RX3 120 yX0_isDraft, Cond.instanceMethod yX0_isDraft, Cond.selects RX0 yX0_isDraft yX0_isDraft, Cond.code yX0_isDraft cX0_isDraft 1 (some .boolean), Cond.fieldLink RX0 22 "ClauseShop$Contract" "signed" "[Z", Cond.methodLink RX3 225 yX0_isAgreed, Cond.instanceMethod yX0_isAgreed, Cond.selects RX0 yX0_isAgreed yX0_isAgreed, Cond.code yX0_isAgreed cX0_isAgreed 2 (some .boolean), Cond.fieldLink RX0 19 "ClauseShop$Contract" "marks" "[[I"]
def wsL_sign_r4 : List Cond := [Cond.methodLink RX3 228 yX3_unionOver, Cond.static yX3_unionOver, Cond.code yX3_unionOver cX3_unionOver 4 (some .int), Cond.methodLink RX3 134 yX3_makeDuties, Cond.instanceMethod yX3_makeDuties, Cond.selects RX3 yX3_makeDuties yX3_makeDuties, Cond.code yX3_makeDuties cX3_makeDuties 5 (some .int), Cond.fieldLink RX3 93 "ClauseShop$Contract" "items" "[LClauseShop$Version;", Cond.fieldLink RX3 29 "ClauseShop" "dutyList" "Ljava/util/ArrayList;", Cond.classLink RX3 152 RX1, Cond.instantiable RX1 4, Cond.initialized RX1, Cond.fieldLink RX3 32 "ClauseShop" "today" "I", Cond.fieldLink RX3 232 "ClauseShop$Version" "days" "I", Cond.methodLink RX3 235 yX1_init, Cond.instanceMethod yX1_init, Cond.code yX1_init cX1_init 4 none, Cond.methodLink RX1 3 objectInit, Cond.instanceMethod objectInit, Cond.code objectInit ⟨#[0xb1]⟩ 1 none, Cond.fieldLink RX1 9 "ClauseShop$Duty" "state" "I", Cond.fieldLink RX1 15 "ClauseShop$Duty" "contract" "LClauseShop$Contract;", Cond.fieldLink RX1 19 "ClauseShop$Duty" "version" "LClauseShop$Version;", Cond.fieldLink RX1 23 "ClauseShop$Duty" "day" "I"]
def wsL_sign_r5 : List Cond := [Cond.methodLink RX3 79 yJx4a65c_add_9ea2d, Cond.instanceMethod yJx4a65c_add_9ea2d, Cond.selects RJx4a65c yJx4a65c_add_9ea2d yJx4a65c_add_9ea2d, Cond.code yJx4a65c_add_9ea2d cJx4a65c_add_9ea2d 2 (some .boolean), Cond.fieldLink RJx4a65c 63 "java/util/ArrayList" "modCount" "I", Cond.sameField "java/util/ArrayList" "java/util/AbstractList" "modCount" "I", Cond.methodLink RJx4a65c 131 yJx4a65c_add_72be8, Cond.instanceMethod yJx4a65c_add_72be8, Cond.selects RJx4a65c yJx4a65c_add_72be8 yJx4a65c_add_72be8, Cond.code yJx4a65c_add_72be8 cJx4a65c_add_72be8 4 none, Cond.methodLink RJx4a65c 129 yJx4a65c_grow_d5877, Cond.instanceMethod yJx4a65c_grow_d5877, Cond.selects RJx4a65c yJx4a65c_grow_d5877 yJx4a65c_grow_d5877, Cond.code yJx4a65c_grow_d5877 cJx4a65c_grow_d5877 1 (some (.array (.object "java/lang/Object"))), Cond.methodLink RJx4a65c 69 yJx4a65c_grow_92f84, Cond.instanceMethod yJx4a65c_grow_92f84, Cond.selects RJx4a65c yJx4a65c_grow_92f84 yJx4a65c_grow_92f84, Cond.code yJx4a65c_grow_92f84 cJx4a65c_grow_92f84 4 (some (.array (.object "java/lang/Object"))), Cond.fieldLink RJx4a65c 39 "java/util/ArrayList" "DEFAULTCAPACITY_EMPTY_ELEMENTDATA" "[Ljava/lang/Object;", Cond.methodLink RJx4a65c 79 Lib.Math.max.name, Cond.static Lib.Math.max.name, Cond.initialized "java/lang/Math", Cond.code Lib.Math.max.name Lib.Math.max.code 2 (some .int), Cond.classLink RJx4a65c 7 "java/lang/Object"]
def wsL_sign_r6 : List Cond := [Cond.methodLink RJx4a65c 73 yJ8_newLength_cabcc, Cond.static yJ8_newLength_cabcc, Cond.initialized RJ8, Cond.code yJ8_newLength_cabcc cJ8_newLength_cabcc 4 (some .int), Cond.methodLink RJ8 194 Lib.Math.max.name, Cond.constant RJ8 200 (2147483639), Cond.methodLink RJ8 201 yJ8_hugeLength_7cf53, Cond.static yJ8_hugeLength_7cf53, Cond.code yJ8_hugeLength_7cf53 cJ8_hugeLength_7cf53 3 (some .int), Cond.methodLink RJx4a65c 66 yJ7_copyOf_1904c, Cond.static yJ7_copyOf_1904c, Cond.initialized RJ7, Cond.code yJ7_copyOf_1904c cJ7_copyOf_1904c 2 (some (.array (.object "java/lang/Object"))), Cond.methodLink RJ7 86 ⟨"java/lang/Object", "getClass", "()Ljava/lang/Class;"⟩, Cond.selects "[Ljava/lang/Object;" ⟨"java/lang/Object", "getClass", "()Ljava/lang/Class;"⟩ ⟨"java/lang/Object", "getClass", "()Ljava/lang/Class;"⟩, Cond.instanceMethod ⟨"java/lang/Object", "getClass", "()Ljava/lang/Class;"⟩, Cond.native ⟨"java/lang/Object", "getClass", "()Ljava/lang/Class;"⟩, Cond.methodLink RJ7 300 yJ7_copyOf_6403c, Cond.static yJ7_copyOf_6403c, Cond.code yJ7_copyOf_6403c cJ7_copyOf_6403c 4 (some (.array (.object "java/lang/Object"))), Cond.classLink RJ7 110 "[Ljava/lang/Object;", Cond.classLink RJ7 2 "java/lang/Object", Cond.methodLink RJ7 304 Lib.Math.min.name, Cond.static Lib.Math.min.name]
def wsL_sign_r7 : List Cond := [Cond.code Lib.Math.min.name Lib.Math.min.code 2 (some .int), Cond.methodLink RJ7 150 arraycopyName, Cond.native arraycopyName, Cond.static arraycopyName, Cond.initialized "java/lang/System"]
def wsL_sign : List Cond := .codeWith yL_sign cL_sign 5 (some .int) [(0, 7, 10, 34), (0, 7, 15, 14), (0, 7, 20, 16)] :: ((wsL_sign_r1 ++ (wsL_sign_r2 ++ (wsL_sign_r3 ++ (wsL_sign_r4 ++ (wsL_sign_r5 ++ (wsL_sign_r6 ++ wsL_sign_r7)))))) ++ wsX00 ++ wsX30 ++ wsJx4a65c0 ++ wsX10 ++ wsX20 ++ (vx_atS RX3 62 "java/lang/IllegalStateException" ["java/lang/RuntimeException", "java/lang/Exception"]).filter goodWord ++ (vx_atS RX3 208 "java/lang/IndexOutOfBoundsException" ["java/lang/RuntimeException", "java/lang/Exception"]).filter goodWord ++ (vx_atS RX3 51 "java/lang/IllegalArgumentException" ["java/lang/RuntimeException", "java/lang/Exception"]).filter goodWord)
def wsL_pass_r1 : List Cond := [Cond.classLink RL 14 "java/lang/IllegalArgumentException", Cond.classLink RL 16 "java/lang/IllegalStateException", Cond.methodLink RL 53 yX3_pass, Cond.instanceMethod yX3_pass, Cond.selects RX3 yX3_pass yX3_pass, Cond.initialized RX3, Cond.code yX3_pass cX3_pass 4 (some .int), Cond.classLink RX3 47 "java/lang/IllegalArgumentException", Cond.initialized "java/lang/IllegalArgumentException", Cond.classLink RX3 58 "java/lang/IllegalStateException", Cond.initialized "java/lang/IllegalStateException", Cond.fieldLink RX3 32 "ClauseShop" "today" "I", Cond.methodLink RX3 43 yX3_isWithin, Cond.static yX3_isWithin, Cond.code yX3_isWithin cX3_isWithin 3 (some .boolean), Cond.methodLink RX3 141 yX3_putOffHeldUpDuties, Cond.instanceMethod yX3_putOffHeldUpDuties, Cond.selects RX3 yX3_putOffHeldUpDuties yX3_putOffHeldUpDuties, Cond.code yX3_putOffHeldUpDuties cX3_putOffHeldUpDuties 3 none, Cond.fieldLink RX3 29 "ClauseShop" "dutyList" "Ljava/util/ArrayList;", Cond.classLink RX3 152 "ClauseShop$Duty", Cond.fieldLink RX3 156 "ClauseShop$Duty" "day" "I", Cond.methodLink RX3 70 yJx4a65c_size_8abf5, Cond.instanceMethod yJx4a65c_size_8abf5]
def wsL_pass_r2 : List Cond := [Cond.selects RJx4a65c yJx4a65c_size_8abf5 yJx4a65c_size_8abf5, Cond.initialized RJx4a65c, Cond.code yJx4a65c_size_8abf5 cJx4a65c_size_8abf5 1 (some .int), Cond.fieldLink RJx4a65c 48 "java/util/ArrayList" "size" "I", Cond.methodLink RX3 209 yJx4a65c_get_915e3, Cond.instanceMethod yJx4a65c_get_915e3, Cond.selects RJx4a65c yJx4a65c_get_915e3 yJx4a65c_get_915e3, Cond.code yJx4a65c_get_915e3 cJx4a65c_get_915e3 2 (some (.object "java/lang/Object")), Cond.methodLink RJx4a65c 118 yJ15_checkIndex_7cf53, Cond.static yJ15_checkIndex_7cf53, Cond.initialized RJ15, Cond.code yJ15_checkIndex_7cf53 cJ15_checkIndex_7cf53 2 (some .int), Cond.methodLink RJ15 105 yJ3_checkIndex_8e157, Cond.static yJ3_checkIndex_8e157, Cond.initialized RJ3, Cond.code yJ3_checkIndex_8e157 cJ3_checkIndex_8e157 3 (some .int), Cond.methodLink RJx4a65c 123 yJx4a65c_elementData_915e3, Cond.instanceMethod yJx4a65c_elementData_915e3, Cond.selects RJx4a65c yJx4a65c_elementData_915e3 yJx4a65c_elementData_915e3, Cond.code yJx4a65c_elementData_915e3 cJx4a65c_elementData_915e3 2 (some (.object "java/lang/Object")), Cond.fieldLink RJx4a65c 9 "java/util/ArrayList" "elementData" "[Ljava/lang/Object;", Cond.methodLink RX3 159 yX1_isHeldUp, Cond.instanceMethod yX1_isHeldUp, Cond.selects RX1 yX1_isHeldUp yX1_isHeldUp]
def wsL_pass_r3 : List Cond := [Cond.initialized RX1, Cond.code yX1_isHeldUp cX1_isHeldUp 1 (some .boolean), Cond.fieldLink RX1 15 "ClauseShop$Duty" "contract" "LClauseShop$Contract;", Cond.fieldLink RX1 30 "ClauseShop$Contract" "breaches" "[I", Cond.fieldLink RX1 19 "ClauseShop$Duty" "version" "LClauseShop$Version;", Cond.fieldLink RX1 36 "ClauseShop$Version" "obligor" "I", Cond.methodLink RX1 26 yX1_canBeDone, Cond.instanceMethod yX1_canBeDone, Cond.selects RX1 yX1_canBeDone yX1_canBeDone, Cond.code yX1_canBeDone cX1_canBeDone 1 (some .boolean), Cond.fieldLink RX1 9 "ClauseShop$Duty" "state" "I", Cond.methodLink RX3 144 yX3_breachUncuredDuties, Cond.instanceMethod yX3_breachUncuredDuties, Cond.selects RX3 yX3_breachUncuredDuties yX3_breachUncuredDuties, Cond.code yX3_breachUncuredDuties cX3_breachUncuredDuties 4 (some .int), Cond.fieldLink RX3 151 "ClauseShop$Duty" "state" "I", Cond.methodLink RX3 167 yX1_move, Cond.instanceMethod yX1_move, Cond.selects RX1 yX1_move yX1_move, Cond.code yX1_move cX1_move 3 none, Cond.fieldLink RX1 23 "ClauseShop$Duty" "day" "I", Cond.methodLink RX3 181 yX1_countBreach, Cond.instanceMethod yX1_countBreach, Cond.selects RX1 yX1_countBreach yX1_countBreach]
def wsL_pass_r4 : List Cond := [Cond.code yX1_countBreach cX1_countBreach 2 none, Cond.fieldLink RX1 41 "ClauseShop$Contract" "penalties" "[I", Cond.fieldLink RX1 44 "ClauseShop$Version" "penalty" "I"]
def wsL_pass : List Cond := .codeWith yL_pass cL_pass 4 (some .int) [(0, 6, 9, 14), (0, 6, 13, 16)] :: ((wsL_pass_r1 ++ (wsL_pass_r2 ++ (wsL_pass_r3 ++ wsL_pass_r4))) ++ wsX30 ++ wsX10 ++ wsJx4a65c0 ++ wsX00 ++ wsX20 ++ (vx_atS RX3 51 "java/lang/IllegalArgumentException" ["java/lang/RuntimeException", "java/lang/Exception"]).filter goodWord ++ (vx_atS RX3 62 "java/lang/IllegalStateException" ["java/lang/RuntimeException", "java/lang/Exception"]).filter goodWord)
def wsL_state_r1 : List Cond := [Cond.classLink RL 34 "java/lang/IndexOutOfBoundsException", Cond.methodLink RL 56 yX3_state, Cond.instanceMethod yX3_state, Cond.selects RX3 yX3_state yX3_state, Cond.initialized RX3, Cond.code yX3_state cX3_state 2 (some .int), Cond.fieldLink RX3 151 "ClauseShop$Duty" "state" "I", Cond.methodLink RX3 147 yX3_dutyAt, Cond.instanceMethod yX3_dutyAt, Cond.selects RX3 yX3_dutyAt yX3_dutyAt, Cond.code yX3_dutyAt cX3_dutyAt 2 (some (.object "ClauseShop$Duty")), Cond.classLink RX3 204 "java/lang/IndexOutOfBoundsException", Cond.initialized "java/lang/IndexOutOfBoundsException", Cond.fieldLink RX3 29 "ClauseShop" "dutyList" "Ljava/util/ArrayList;", Cond.classLink RX3 152 "ClauseShop$Duty", Cond.methodLink RX3 70 yJx4a65c_size_8abf5, Cond.instanceMethod yJx4a65c_size_8abf5, Cond.selects RJx4a65c yJx4a65c_size_8abf5 yJx4a65c_size_8abf5, Cond.initialized RJx4a65c, Cond.code yJx4a65c_size_8abf5 cJx4a65c_size_8abf5 1 (some .int), Cond.fieldLink RJx4a65c 48 "java/util/ArrayList" "size" "I", Cond.methodLink RX3 43 yX3_isWithin, Cond.static yX3_isWithin, Cond.code yX3_isWithin cX3_isWithin 3 (some .boolean)]
def wsL_state_r2 : List Cond := [Cond.methodLink RX3 209 yJx4a65c_get_915e3, Cond.instanceMethod yJx4a65c_get_915e3, Cond.selects RJx4a65c yJx4a65c_get_915e3 yJx4a65c_get_915e3, Cond.code yJx4a65c_get_915e3 cJx4a65c_get_915e3 2 (some (.object "java/lang/Object")), Cond.methodLink RJx4a65c 118 yJ15_checkIndex_7cf53, Cond.static yJ15_checkIndex_7cf53, Cond.initialized RJ15, Cond.code yJ15_checkIndex_7cf53 cJ15_checkIndex_7cf53 2 (some .int), Cond.methodLink RJ15 105 yJ3_checkIndex_8e157, Cond.static yJ3_checkIndex_8e157, Cond.initialized RJ3, Cond.code yJ3_checkIndex_8e157 cJ3_checkIndex_8e157 3 (some .int), Cond.methodLink RJx4a65c 123 yJx4a65c_elementData_915e3, Cond.instanceMethod yJx4a65c_elementData_915e3, Cond.selects RJx4a65c yJx4a65c_elementData_915e3 yJx4a65c_elementData_915e3, Cond.code yJx4a65c_elementData_915e3 cJx4a65c_elementData_915e3 2 (some (.object "java/lang/Object")), Cond.fieldLink RJx4a65c 9 "java/util/ArrayList" "elementData" "[Ljava/lang/Object;"]
def wsL_state : List Cond := .codeWith yL_state cL_state 4 (some .int) [(0, 6, 9, 34)] :: ((wsL_state_r1 ++ wsL_state_r2) ++ wsX10 ++ wsX30 ++ wsJx4a65c0 ++ (vx_atS RX3 208 "java/lang/IndexOutOfBoundsException" ["java/lang/RuntimeException", "java/lang/Exception"]).filter goodWord)
def wsL_day_r1 : List Cond := [Cond.classLink RL 34 "java/lang/IndexOutOfBoundsException", Cond.methodLink RL 59 yX3_day, Cond.instanceMethod yX3_day, Cond.selects RX3 yX3_day yX3_day, Cond.initialized RX3, Cond.code yX3_day cX3_day 2 (some .int), Cond.fieldLink RX3 156 "ClauseShop$Duty" "day" "I", Cond.methodLink RX3 147 yX3_dutyAt, Cond.instanceMethod yX3_dutyAt, Cond.selects RX3 yX3_dutyAt yX3_dutyAt, Cond.code yX3_dutyAt cX3_dutyAt 2 (some (.object "ClauseShop$Duty")), Cond.classLink RX3 204 "java/lang/IndexOutOfBoundsException", Cond.initialized "java/lang/IndexOutOfBoundsException", Cond.fieldLink RX3 29 "ClauseShop" "dutyList" "Ljava/util/ArrayList;", Cond.classLink RX3 152 "ClauseShop$Duty", Cond.methodLink RX3 70 yJx4a65c_size_8abf5, Cond.instanceMethod yJx4a65c_size_8abf5, Cond.selects RJx4a65c yJx4a65c_size_8abf5 yJx4a65c_size_8abf5, Cond.initialized RJx4a65c, Cond.code yJx4a65c_size_8abf5 cJx4a65c_size_8abf5 1 (some .int), Cond.fieldLink RJx4a65c 48 "java/util/ArrayList" "size" "I", Cond.methodLink RX3 43 yX3_isWithin, Cond.static yX3_isWithin, Cond.code yX3_isWithin cX3_isWithin 3 (some .boolean)]
def wsL_day_r2 : List Cond := [Cond.methodLink RX3 209 yJx4a65c_get_915e3, Cond.instanceMethod yJx4a65c_get_915e3, Cond.selects RJx4a65c yJx4a65c_get_915e3 yJx4a65c_get_915e3, Cond.code yJx4a65c_get_915e3 cJx4a65c_get_915e3 2 (some (.object "java/lang/Object")), Cond.methodLink RJx4a65c 118 yJ15_checkIndex_7cf53, Cond.static yJ15_checkIndex_7cf53, Cond.initialized RJ15, Cond.code yJ15_checkIndex_7cf53 cJ15_checkIndex_7cf53 2 (some .int), Cond.methodLink RJ15 105 yJ3_checkIndex_8e157, Cond.static yJ3_checkIndex_8e157, Cond.initialized RJ3, Cond.code yJ3_checkIndex_8e157 cJ3_checkIndex_8e157 3 (some .int), Cond.methodLink RJx4a65c 123 yJx4a65c_elementData_915e3, Cond.instanceMethod yJx4a65c_elementData_915e3, Cond.selects RJx4a65c yJx4a65c_elementData_915e3 yJx4a65c_elementData_915e3, Cond.code yJx4a65c_elementData_915e3 cJx4a65c_elementData_915e3 2 (some (.object "java/lang/Object")), Cond.fieldLink RJx4a65c 9 "java/util/ArrayList" "elementData" "[Ljava/lang/Object;"]
def wsL_day : List Cond := .codeWith yL_day cL_day 4 (some .int) [(0, 6, 9, 34)] :: ((wsL_day_r1 ++ wsL_day_r2) ++ wsX10 ++ wsX30 ++ wsJx4a65c0 ++ (vx_atS RX3 208 "java/lang/IndexOutOfBoundsException" ["java/lang/RuntimeException", "java/lang/Exception"]).filter goodWord)
def wsL_perform_r1 : List Cond := [Cond.classLink RL 34 "java/lang/IndexOutOfBoundsException", Cond.classLink RL 16 "java/lang/IllegalStateException", Cond.methodLink RL 62 yX3_perform, Cond.instanceMethod yX3_perform, Cond.selects RX3 yX3_perform yX3_perform, Cond.initialized RX3, Cond.code yX3_perform cX3_perform 4 (some .boolean), Cond.classLink RX3 58 "java/lang/IllegalStateException", Cond.initialized "java/lang/IllegalStateException", Cond.fieldLink RX3 151 "ClauseShop$Duty" "state" "I", Cond.fieldLink RX3 32 "ClauseShop" "today" "I", Cond.fieldLink RX3 156 "ClauseShop$Duty" "day" "I", Cond.methodLink RX3 147 yX3_dutyAt, Cond.instanceMethod yX3_dutyAt, Cond.selects RX3 yX3_dutyAt yX3_dutyAt, Cond.code yX3_dutyAt cX3_dutyAt 2 (some (.object "ClauseShop$Duty")), Cond.classLink RX3 204 "java/lang/IndexOutOfBoundsException", Cond.initialized "java/lang/IndexOutOfBoundsException", Cond.fieldLink RX3 29 "ClauseShop" "dutyList" "Ljava/util/ArrayList;", Cond.classLink RX3 152 "ClauseShop$Duty", Cond.methodLink RX3 70 yJx4a65c_size_8abf5, Cond.instanceMethod yJx4a65c_size_8abf5, Cond.selects RJx4a65c yJx4a65c_size_8abf5 yJx4a65c_size_8abf5, Cond.initialized RJx4a65c]
def wsL_perform_r2 : List Cond := [Cond.code yJx4a65c_size_8abf5 cJx4a65c_size_8abf5 1 (some .int), Cond.fieldLink RJx4a65c 48 "java/util/ArrayList" "size" "I", Cond.methodLink RX3 43 yX3_isWithin, Cond.static yX3_isWithin, Cond.code yX3_isWithin cX3_isWithin 3 (some .boolean), Cond.methodLink RX3 209 yJx4a65c_get_915e3, Cond.instanceMethod yJx4a65c_get_915e3, Cond.selects RJx4a65c yJx4a65c_get_915e3 yJx4a65c_get_915e3, Cond.code yJx4a65c_get_915e3 cJx4a65c_get_915e3 2 (some (.object "java/lang/Object")), Cond.methodLink RJx4a65c 118 yJ15_checkIndex_7cf53, Cond.static yJ15_checkIndex_7cf53, Cond.initialized RJ15, Cond.code yJ15_checkIndex_7cf53 cJ15_checkIndex_7cf53 2 (some .int), Cond.methodLink RJ15 105 yJ3_checkIndex_8e157, Cond.static yJ3_checkIndex_8e157, Cond.initialized RJ3, Cond.code yJ3_checkIndex_8e157 cJ3_checkIndex_8e157 3 (some .int), Cond.methodLink RJx4a65c 123 yJx4a65c_elementData_915e3, Cond.instanceMethod yJx4a65c_elementData_915e3, Cond.selects RJx4a65c yJx4a65c_elementData_915e3 yJx4a65c_elementData_915e3, Cond.code yJx4a65c_elementData_915e3 cJx4a65c_elementData_915e3 2 (some (.object "java/lang/Object")), Cond.fieldLink RJx4a65c 9 "java/util/ArrayList" "elementData" "[Ljava/lang/Object;", Cond.methodLink RX3 162 yX1_canBeDone, Cond.instanceMethod yX1_canBeDone]
def wsL_perform_r3 : List Cond := [Cond.selects RX1 yX1_canBeDone yX1_canBeDone, Cond.initialized RX1, Cond.code yX1_canBeDone cX1_canBeDone 1 (some .boolean), Cond.fieldLink RX1 9 "ClauseShop$Duty" "state" "I", Cond.methodLink RX3 167 yX1_move, Cond.instanceMethod yX1_move, Cond.selects RX1 yX1_move yX1_move, Cond.code yX1_move cX1_move 3 none, Cond.fieldLink RX1 23 "ClauseShop$Duty" "day" "I"]
def wsL_perform : List Cond := .codeWith yL_perform cL_perform 4 (some .int) [(0, 6, 9, 34), (0, 6, 13, 16)] :: ((wsL_perform_r1 ++ (wsL_perform_r2 ++ wsL_perform_r3)) ++ wsX10 ++ wsX30 ++ wsJx4a65c0 ++ (vx_atS RX3 62 "java/lang/IllegalStateException" ["java/lang/RuntimeException", "java/lang/Exception"]).filter goodWord ++ (vx_atS RX3 208 "java/lang/IndexOutOfBoundsException" ["java/lang/RuntimeException", "java/lang/Exception"]).filter goodWord)
def wsL_notice_r1 : List Cond := [Cond.classLink RL 34 "java/lang/IndexOutOfBoundsException", Cond.classLink RL 16 "java/lang/IllegalStateException", Cond.methodLink RL 66 yX3_notice, Cond.instanceMethod yX3_notice, Cond.selects RX3 yX3_notice yX3_notice, Cond.initialized RX3, Cond.code yX3_notice cX3_notice 3 (some .int), Cond.classLink RX3 58 "java/lang/IllegalStateException", Cond.initialized "java/lang/IllegalStateException", Cond.fieldLink RX3 151 "ClauseShop$Duty" "state" "I", Cond.fieldLink RX3 32 "ClauseShop" "today" "I", Cond.fieldLink RX3 156 "ClauseShop$Duty" "day" "I", Cond.fieldLink RX3 172 "ClauseShop$Duty" "version" "LClauseShop$Version;", Cond.fieldLink RX3 176 "ClauseShop$Version" "cure" "I", Cond.methodLink RX3 147 yX3_dutyAt, Cond.instanceMethod yX3_dutyAt, Cond.selects RX3 yX3_dutyAt yX3_dutyAt, Cond.code yX3_dutyAt cX3_dutyAt 2 (some (.object "ClauseShop$Duty")), Cond.classLink RX3 204 "java/lang/IndexOutOfBoundsException", Cond.initialized "java/lang/IndexOutOfBoundsException", Cond.fieldLink RX3 29 "ClauseShop" "dutyList" "Ljava/util/ArrayList;", Cond.classLink RX3 152 "ClauseShop$Duty", Cond.methodLink RX3 70 yJx4a65c_size_8abf5, Cond.instanceMethod yJx4a65c_size_8abf5]
def wsL_notice_r2 : List Cond := [Cond.selects RJx4a65c yJx4a65c_size_8abf5 yJx4a65c_size_8abf5, Cond.initialized RJx4a65c, Cond.code yJx4a65c_size_8abf5 cJx4a65c_size_8abf5 1 (some .int), Cond.fieldLink RJx4a65c 48 "java/util/ArrayList" "size" "I", Cond.methodLink RX3 43 yX3_isWithin, Cond.static yX3_isWithin, Cond.code yX3_isWithin cX3_isWithin 3 (some .boolean), Cond.methodLink RX3 209 yJx4a65c_get_915e3, Cond.instanceMethod yJx4a65c_get_915e3, Cond.selects RJx4a65c yJx4a65c_get_915e3 yJx4a65c_get_915e3, Cond.code yJx4a65c_get_915e3 cJx4a65c_get_915e3 2 (some (.object "java/lang/Object")), Cond.methodLink RJx4a65c 118 yJ15_checkIndex_7cf53, Cond.static yJ15_checkIndex_7cf53, Cond.initialized RJ15, Cond.code yJ15_checkIndex_7cf53 cJ15_checkIndex_7cf53 2 (some .int), Cond.methodLink RJ15 105 yJ3_checkIndex_8e157, Cond.static yJ3_checkIndex_8e157, Cond.initialized RJ3, Cond.code yJ3_checkIndex_8e157 cJ3_checkIndex_8e157 3 (some .int), Cond.methodLink RJx4a65c 123 yJx4a65c_elementData_915e3, Cond.instanceMethod yJx4a65c_elementData_915e3, Cond.selects RJx4a65c yJx4a65c_elementData_915e3 yJx4a65c_elementData_915e3, Cond.code yJx4a65c_elementData_915e3 cJx4a65c_elementData_915e3 2 (some (.object "java/lang/Object")), Cond.fieldLink RJx4a65c 9 "java/util/ArrayList" "elementData" "[Ljava/lang/Object;"]
def wsL_notice_r3 : List Cond := [Cond.methodLink RX3 167 yX1_move, Cond.instanceMethod yX1_move, Cond.selects RX1 yX1_move yX1_move, Cond.initialized RX1, Cond.code yX1_move cX1_move 3 none, Cond.fieldLink RX1 9 "ClauseShop$Duty" "state" "I", Cond.fieldLink RX1 23 "ClauseShop$Duty" "day" "I"]
def wsL_notice : List Cond := .codeWith yL_notice cL_notice 4 (some .int) [(0, 6, 9, 34), (0, 6, 13, 16)] :: ((wsL_notice_r1 ++ (wsL_notice_r2 ++ wsL_notice_r3)) ++ wsX10 ++ wsX30 ++ wsX20 ++ wsJx4a65c0 ++ (vx_atS RX3 62 "java/lang/IllegalStateException" ["java/lang/RuntimeException", "java/lang/Exception"]).filter goodWord ++ (vx_atS RX3 208 "java/lang/IndexOutOfBoundsException" ["java/lang/RuntimeException", "java/lang/Exception"]).filter goodWord)
def wsL_settle_r1 : List Cond := [Cond.classLink RL 34 "java/lang/IndexOutOfBoundsException", Cond.classLink RL 16 "java/lang/IllegalStateException", Cond.methodLink RL 69 yX3_settle, Cond.instanceMethod yX3_settle, Cond.selects RX3 yX3_settle yX3_settle, Cond.initialized RX3, Cond.code yX3_settle cX3_settle 3 (some .int), Cond.classLink RX3 58 "java/lang/IllegalStateException", Cond.initialized "java/lang/IllegalStateException", Cond.fieldLink RX3 151 "ClauseShop$Duty" "state" "I", Cond.fieldLink RX3 32 "ClauseShop" "today" "I", Cond.fieldLink RX3 172 "ClauseShop$Duty" "version" "LClauseShop$Version;", Cond.fieldLink RX3 184 "ClauseShop$Version" "penalty" "I", Cond.methodLink RX3 147 yX3_dutyAt, Cond.instanceMethod yX3_dutyAt, Cond.selects RX3 yX3_dutyAt yX3_dutyAt, Cond.code yX3_dutyAt cX3_dutyAt 2 (some (.object "ClauseShop$Duty")), Cond.classLink RX3 204 "java/lang/IndexOutOfBoundsException", Cond.initialized "java/lang/IndexOutOfBoundsException", Cond.fieldLink RX3 29 "ClauseShop" "dutyList" "Ljava/util/ArrayList;", Cond.classLink RX3 152 "ClauseShop$Duty", Cond.methodLink RX3 70 yJx4a65c_size_8abf5, Cond.instanceMethod yJx4a65c_size_8abf5, Cond.selects RJx4a65c yJx4a65c_size_8abf5 yJx4a65c_size_8abf5]
def wsL_settle_r2 : List Cond := [Cond.initialized RJx4a65c, Cond.code yJx4a65c_size_8abf5 cJx4a65c_size_8abf5 1 (some .int), Cond.fieldLink RJx4a65c 48 "java/util/ArrayList" "size" "I", Cond.methodLink RX3 43 yX3_isWithin, Cond.static yX3_isWithin, Cond.code yX3_isWithin cX3_isWithin 3 (some .boolean), Cond.methodLink RX3 209 yJx4a65c_get_915e3, Cond.instanceMethod yJx4a65c_get_915e3, Cond.selects RJx4a65c yJx4a65c_get_915e3 yJx4a65c_get_915e3, Cond.code yJx4a65c_get_915e3 cJx4a65c_get_915e3 2 (some (.object "java/lang/Object")), Cond.methodLink RJx4a65c 118 yJ15_checkIndex_7cf53, Cond.static yJ15_checkIndex_7cf53, Cond.initialized RJ15, Cond.code yJ15_checkIndex_7cf53 cJ15_checkIndex_7cf53 2 (some .int), Cond.methodLink RJ15 105 yJ3_checkIndex_8e157, Cond.static yJ3_checkIndex_8e157, Cond.initialized RJ3, Cond.code yJ3_checkIndex_8e157 cJ3_checkIndex_8e157 3 (some .int), Cond.methodLink RJx4a65c 123 yJx4a65c_elementData_915e3, Cond.instanceMethod yJx4a65c_elementData_915e3, Cond.selects RJx4a65c yJx4a65c_elementData_915e3 yJx4a65c_elementData_915e3, Cond.code yJx4a65c_elementData_915e3 cJx4a65c_elementData_915e3 2 (some (.object "java/lang/Object")), Cond.fieldLink RJx4a65c 9 "java/util/ArrayList" "elementData" "[Ljava/lang/Object;", Cond.methodLink RX3 167 yX1_move]
def wsL_settle_r3 : List Cond := [Cond.instanceMethod yX1_move, Cond.selects RX1 yX1_move yX1_move, Cond.initialized RX1, Cond.code yX1_move cX1_move 3 none, Cond.fieldLink RX1 9 "ClauseShop$Duty" "state" "I", Cond.fieldLink RX1 23 "ClauseShop$Duty" "day" "I", Cond.methodLink RX3 181 yX1_countBreach, Cond.instanceMethod yX1_countBreach, Cond.selects RX1 yX1_countBreach yX1_countBreach, Cond.code yX1_countBreach cX1_countBreach 2 none, Cond.fieldLink RX1 15 "ClauseShop$Duty" "contract" "LClauseShop$Contract;", Cond.fieldLink RX1 30 "ClauseShop$Contract" "breaches" "[I", Cond.fieldLink RX1 19 "ClauseShop$Duty" "version" "LClauseShop$Version;", Cond.fieldLink RX1 36 "ClauseShop$Version" "obligor" "I", Cond.fieldLink RX1 41 "ClauseShop$Contract" "penalties" "[I", Cond.fieldLink RX1 44 "ClauseShop$Version" "penalty" "I"]
def wsL_settle : List Cond := .codeWith yL_settle cL_settle 4 (some .int) [(0, 6, 9, 34), (0, 6, 13, 16)] :: ((wsL_settle_r1 ++ (wsL_settle_r2 ++ wsL_settle_r3)) ++ wsX10 ++ wsX30 ++ wsX20 ++ wsJx4a65c0 ++ wsX00 ++ (vx_atS RX3 62 "java/lang/IllegalStateException" ["java/lang/RuntimeException", "java/lang/Exception"]).filter goodWord ++ (vx_atS RX3 208 "java/lang/IndexOutOfBoundsException" ["java/lang/RuntimeException", "java/lang/Exception"]).filter goodWord)
def wsL_owes_r1 : List Cond := [Cond.classLink RL 34 "java/lang/IndexOutOfBoundsException", Cond.classLink RL 14 "java/lang/IllegalArgumentException", Cond.methodLink RL 72 yX3_owes, Cond.instanceMethod yX3_owes, Cond.selects RX3 yX3_owes yX3_owes, Cond.initialized RX3, Cond.code yX3_owes cX3_owes 4 (some .int), Cond.fieldLink RX3 187 "ClauseShop$Contract" "penalties" "[I", Cond.methodLink RX3 190 Lib.Math.max.name, Cond.static Lib.Math.max.name, Cond.initialized "java/lang/Math", Cond.code Lib.Math.max.name Lib.Math.max.code 2 (some .int), Cond.methodLink RX3 83 yX3_contractAt, Cond.instanceMethod yX3_contractAt, Cond.selects RX3 yX3_contractAt yX3_contractAt, Cond.code yX3_contractAt cX3_contractAt 2 (some (.object "ClauseShop$Contract")), Cond.classLink RX3 204 "java/lang/IndexOutOfBoundsException", Cond.initialized "java/lang/IndexOutOfBoundsException", Cond.fieldLink RX3 25 "ClauseShop" "contracts" "Ljava/util/ArrayList;", Cond.classLink RX3 76 "ClauseShop$Contract", Cond.methodLink RX3 70 yJx4a65c_size_8abf5, Cond.instanceMethod yJx4a65c_size_8abf5, Cond.selects RJx4a65c yJx4a65c_size_8abf5 yJx4a65c_size_8abf5, Cond.initialized RJx4a65c]
def wsL_owes_r2 : List Cond := [Cond.code yJx4a65c_size_8abf5 cJx4a65c_size_8abf5 1 (some .int), Cond.fieldLink RJx4a65c 48 "java/util/ArrayList" "size" "I", Cond.methodLink RX3 43 yX3_isWithin, Cond.static yX3_isWithin, Cond.code yX3_isWithin cX3_isWithin 3 (some .boolean), Cond.methodLink RX3 209 yJx4a65c_get_915e3, Cond.instanceMethod yJx4a65c_get_915e3, Cond.selects RJx4a65c yJx4a65c_get_915e3 yJx4a65c_get_915e3, Cond.code yJx4a65c_get_915e3 cJx4a65c_get_915e3 2 (some (.object "java/lang/Object")), Cond.methodLink RJx4a65c 118 yJ15_checkIndex_7cf53, Cond.static yJ15_checkIndex_7cf53, Cond.initialized RJ15, Cond.code yJ15_checkIndex_7cf53 cJ15_checkIndex_7cf53 2 (some .int), Cond.methodLink RJ15 105 yJ3_checkIndex_8e157, Cond.static yJ3_checkIndex_8e157, Cond.initialized RJ3, Cond.code yJ3_checkIndex_8e157 cJ3_checkIndex_8e157 3 (some .int), Cond.methodLink RJx4a65c 123 yJx4a65c_elementData_915e3, Cond.instanceMethod yJx4a65c_elementData_915e3, Cond.selects RJx4a65c yJx4a65c_elementData_915e3 yJx4a65c_elementData_915e3, Cond.code yJx4a65c_elementData_915e3 cJx4a65c_elementData_915e3 2 (some (.object "java/lang/Object")), Cond.fieldLink RJx4a65c 9 "java/util/ArrayList" "elementData" "[Ljava/lang/Object;", Cond.methodLink RX3 40 yX3_checkSide, Cond.static yX3_checkSide]
def wsL_owes_r3 : List Cond := [Cond.code yX3_checkSide cX3_checkSide 1 none, Cond.classLink RX3 47 "java/lang/IllegalArgumentException", Cond.initialized "java/lang/IllegalArgumentException"]
def wsL_owes : List Cond := .codeWith yL_owes cL_owes 5 (some .int) [(0, 7, 10, 34), (0, 7, 15, 14)] :: ((wsL_owes_r1 ++ (wsL_owes_r2 ++ wsL_owes_r3)) ++ wsX00 ++ wsX30 ++ wsJx4a65c0 ++ (vx_atS RX3 208 "java/lang/IndexOutOfBoundsException" ["java/lang/RuntimeException", "java/lang/Exception"]).filter goodWord ++ (vx_atS RX3 51 "java/lang/IllegalArgumentException" ["java/lang/RuntimeException", "java/lang/Exception"]).filter goodWord)
def wsL_writes_r1 : List Cond := [Cond.constant RL 80 (196608), Cond.constant RL 84 (-2147483648), Cond.methodLink RL 75 yL_low, Cond.static yL_low, Cond.initialized RL, Cond.code yL_low cL_low 2 (some .int), Cond.methodLink RL 81 yL_issue, Cond.static yL_issue, Cond.codeWith yL_issue cL_issue 8 (some .int) [(0, 13, 16, 14), (0, 13, 21, 16)], Cond.classLink RL 14 "java/lang/IllegalArgumentException", Cond.classLink RL 16 "java/lang/IllegalStateException", Cond.methodLink RL 8 yX3_issue, Cond.instanceMethod yX3_issue, Cond.selects RX3 yX3_issue yX3_issue, Cond.initialized RX3, Cond.code yX3_issue cX3_issue 7 (some .int), Cond.classLink RX3 47 "java/lang/IllegalArgumentException", Cond.initialized "java/lang/IllegalArgumentException", Cond.classLink RX3 58 "java/lang/IllegalStateException", Cond.initialized "java/lang/IllegalStateException", Cond.fieldLink RX3 11 "ClauseShop" "newest" "[LClauseShop$Version;", Cond.classLink RX3 9 RX2, Cond.instantiable RX2 5, Cond.initialized RX2]
def wsL_writes_r2 : List Cond := [Cond.methodLink RX3 36 yX3_checkClause, Cond.static yX3_checkClause, Cond.code yX3_checkClause cX3_checkClause 1 none, Cond.methodLink RX3 43 yX3_isWithin, Cond.static yX3_isWithin, Cond.code yX3_isWithin cX3_isWithin 3 (some .boolean), Cond.methodLink RX3 40 yX3_checkSide, Cond.static yX3_checkSide, Cond.code yX3_checkSide cX3_checkSide 1 none, Cond.methodLink RX3 54 yX3_newestNumber, Cond.instanceMethod yX3_newestNumber, Cond.selects RX3 yX3_newestNumber yX3_newestNumber, Cond.code yX3_newestNumber cX3_newestNumber 2 (some .int), Cond.methodLink RX3 218 yX3_numberOf, Cond.static yX3_numberOf, Cond.code yX3_numberOf cX3_numberOf 1 (some .int), Cond.fieldLink RX3 215 "ClauseShop$Version" "number" "I", Cond.methodLink RX3 63 yX2_init, Cond.instanceMethod yX2_init, Cond.code yX2_init cX2_init 6 none, Cond.methodLink RX2 1 objectInit, Cond.instanceMethod objectInit, Cond.code objectInit ⟨#[0xb1]⟩ 1 none, Cond.fieldLink RX2 7 "ClauseShop$Version" "number" "I"]
def wsL_writes_r3 : List Cond := [Cond.fieldLink RX2 13 "ClauseShop$Version" "obligor" "I", Cond.fieldLink RX2 16 "ClauseShop$Version" "days" "I", Cond.fieldLink RX2 19 "ClauseShop$Version" "cure" "I", Cond.fieldLink RX2 22 "ClauseShop$Version" "penalty" "I", Cond.methodLink RL 85 yL_relate, Cond.static yL_relate, Cond.codeWith yL_relate cL_relate 5 (some .int) [(0, 7, 10, 14)], Cond.methodLink RL 18 yX3_relate, Cond.instanceMethod yX3_relate, Cond.selects RX3 yX3_relate yX3_relate, Cond.code yX3_relate cX3_relate 4 none, Cond.fieldLink RX3 15 "ClauseShop" "needs" "[I", Cond.fieldLink RX3 19 "ClauseShop" "forbids" "[I", Cond.methodLink RX3 66 yX3_checkOtherClauses, Cond.static yX3_checkOtherClauses, Cond.code yX3_checkOtherClauses cX3_checkOtherClauses 2 none]
def wsL_writes : List Cond := .code yL_writes cL_writes 12 (some .boolean) :: ((wsL_writes_r1 ++ (wsL_writes_r2 ++ wsL_writes_r3)) ++ wsX30 ++ wsX20 ++ (vx_atS RX3 51 "java/lang/IllegalArgumentException" ["java/lang/RuntimeException", "java/lang/Exception"]).filter goodWord ++ (vx_atS RX3 62 "java/lang/IllegalStateException" ["java/lang/RuntimeException", "java/lang/Exception"]).filter goodWord)
def wsL_reason : List Cond := .code yL_reason cL_reason 9 (some .int) :: ([])
def wsL_drafts_r1 : List Cond := [Cond.constant RL 80 (196608), Cond.methodLink RL 75 yL_low, Cond.static yL_low, Cond.initialized RL, Cond.code yL_low cL_low 2 (some .int), Cond.methodLink RL 88 yL_begin, Cond.static yL_begin, Cond.codeWith yL_begin cL_begin 3 (some .int) [(0, 5, 8, 16)], Cond.classLink RL 16 "java/lang/IllegalStateException", Cond.methodLink RL 26 yX3_begin, Cond.instanceMethod yX3_begin, Cond.selects RX3 yX3_begin yX3_begin, Cond.initialized RX3, Cond.code yX3_begin cX3_begin 2 (some .int), Cond.classLink RX3 58 "java/lang/IllegalStateException", Cond.initialized "java/lang/IllegalStateException", Cond.fieldLink RX3 25 "ClauseShop" "contracts" "Ljava/util/ArrayList;", Cond.classLink RX3 76 RX0, Cond.instantiable RX0 5, Cond.initialized RX0, Cond.methodLink RX3 70 yJx4a65c_size_8abf5, Cond.instanceMethod yJx4a65c_size_8abf5, Cond.selects RJx4a65c yJx4a65c_size_8abf5 yJx4a65c_size_8abf5, Cond.initialized RJx4a65c]
def wsL_drafts_r2 : List Cond := [Cond.code yJx4a65c_size_8abf5 cJx4a65c_size_8abf5 1 (some .int), Cond.fieldLink RJx4a65c 48 "java/util/ArrayList" "size" "I", Cond.instanceMethod yX0_init, Cond.code yX0_init cX0_init 1 none, Cond.methodLink RX0 3 objectInit, Cond.instanceMethod objectInit, Cond.code objectInit ⟨#[0xb1]⟩ 1 none, Cond.classLink RX0 9 RX2, Cond.fieldLink RX0 11 "ClauseShop$Contract" "items" "[LClauseShop$Version;", Cond.classLink RX0 17 "[[I", Cond.arrayClass .int, Cond.fieldLink RX0 19 "ClauseShop$Contract" "marks" "[[I", Cond.arrayClass .boolean, Cond.fieldLink RX0 22 "ClauseShop$Contract" "signed" "[Z", Cond.fieldLink RX0 26 "ClauseShop$Contract" "breaches" "[I", Cond.fieldLink RX0 30 "ClauseShop$Contract" "penalties" "[I", Cond.methodLink RX3 79 yJx4a65c_add_9ea2d, Cond.instanceMethod yJx4a65c_add_9ea2d, Cond.selects RJx4a65c yJx4a65c_add_9ea2d yJx4a65c_add_9ea2d, Cond.code yJx4a65c_add_9ea2d cJx4a65c_add_9ea2d 2 (some .boolean), Cond.fieldLink RJx4a65c 63 "java/util/ArrayList" "modCount" "I", Cond.sameField "java/util/ArrayList" "java/util/AbstractList" "modCount" "I", Cond.fieldLink RJx4a65c 9 "java/util/ArrayList" "elementData" "[Ljava/lang/Object;", Cond.methodLink RJx4a65c 131 yJx4a65c_add_72be8]
def wsL_drafts_r3 : List Cond := [Cond.instanceMethod yJx4a65c_add_72be8, Cond.selects RJx4a65c yJx4a65c_add_72be8 yJx4a65c_add_72be8, Cond.code yJx4a65c_add_72be8 cJx4a65c_add_72be8 4 none, Cond.methodLink RJx4a65c 129 yJx4a65c_grow_d5877, Cond.instanceMethod yJx4a65c_grow_d5877, Cond.selects RJx4a65c yJx4a65c_grow_d5877 yJx4a65c_grow_d5877, Cond.code yJx4a65c_grow_d5877 cJx4a65c_grow_d5877 1 (some (.array (.object "java/lang/Object"))), Cond.methodLink RJx4a65c 69 yJx4a65c_grow_92f84, Cond.instanceMethod yJx4a65c_grow_92f84, Cond.selects RJx4a65c yJx4a65c_grow_92f84 yJx4a65c_grow_92f84, Cond.code yJx4a65c_grow_92f84 cJx4a65c_grow_92f84 4 (some (.array (.object "java/lang/Object"))), Cond.fieldLink RJx4a65c 39 "java/util/ArrayList" "DEFAULTCAPACITY_EMPTY_ELEMENTDATA" "[Ljava/lang/Object;", Cond.methodLink RJx4a65c 79 Lib.Math.max.name, Cond.static Lib.Math.max.name, Cond.initialized "java/lang/Math", Cond.code Lib.Math.max.name Lib.Math.max.code 2 (some .int), Cond.classLink RJx4a65c 7 "java/lang/Object", Cond.methodLink RJx4a65c 73 yJ8_newLength_cabcc, Cond.static yJ8_newLength_cabcc, Cond.initialized RJ8, Cond.code yJ8_newLength_cabcc cJ8_newLength_cabcc 4 (some .int), Cond.methodLink RJ8 194 Lib.Math.max.name, Cond.constant RJ8 200 (2147483639), Cond.methodLink RJ8 201 yJ8_hugeLength_7cf53]
def wsL_drafts_r4 : List Cond := [Cond.static yJ8_hugeLength_7cf53, Cond.code yJ8_hugeLength_7cf53 cJ8_hugeLength_7cf53 3 (some .int), Cond.methodLink RJx4a65c 66 yJ7_copyOf_1904c, Cond.static yJ7_copyOf_1904c, Cond.initialized RJ7, Cond.code yJ7_copyOf_1904c cJ7_copyOf_1904c 2 (some (.array (.object "java/lang/Object"))), Cond.methodLink RJ7 86 ⟨"java/lang/Object", "getClass", "()Ljava/lang/Class;"⟩, Cond.selects "[Ljava/lang/Object;" ⟨"java/lang/Object", "getClass", "()Ljava/lang/Class;"⟩ ⟨"java/lang/Object", "getClass", "()Ljava/lang/Class;"⟩, Cond.instanceMethod ⟨"java/lang/Object", "getClass", "()Ljava/lang/Class;"⟩, Cond.native ⟨"java/lang/Object", "getClass", "()Ljava/lang/Class;"⟩, Cond.methodLink RJ7 300 yJ7_copyOf_6403c, Cond.static yJ7_copyOf_6403c, Cond.code yJ7_copyOf_6403c cJ7_copyOf_6403c 4 (some (.array (.object "java/lang/Object"))), Cond.classLink RJ7 110 "[Ljava/lang/Object;", Cond.classLink RJ7 2 "java/lang/Object", Cond.methodLink RJ7 304 Lib.Math.min.name, Cond.static Lib.Math.min.name, Cond.code Lib.Math.min.name Lib.Math.min.code 2 (some .int), Cond.methodLink RJ7 150 arraycopyName, Cond.native arraycopyName, Cond.static arraycopyName, Cond.initialized "java/lang/System", Cond.methodLink RL 91 yL_mark, Cond.static yL_mark]
def wsL_drafts_r5 : List Cond := [Cond.codeWith yL_mark cL_mark 7 (some .int) [(0, 11, 14, 34), (0, 11, 19, 14), (0, 11, 24, 16)], Cond.classLink RL 34 "java/lang/IndexOutOfBoundsException", Cond.classLink RL 14 "java/lang/IllegalArgumentException", Cond.methodLink RL 30 yX3_mark, Cond.instanceMethod yX3_mark, Cond.selects RX3 yX3_mark yX3_mark, Cond.code yX3_mark cX3_mark 7 (some .int), Cond.classLink RX3 47 "java/lang/IllegalArgumentException", Cond.initialized "java/lang/IllegalArgumentException", Cond.fieldLink RX3 93 "ClauseShop$Contract" "items" "[LClauseShop$Version;", Cond.fieldLink RX3 11 "ClauseShop" "newest" "[LClauseShop$Version;", Cond.fieldLink RX3 102 "ClauseShop$Contract" "marks" "[[I", Cond.methodLink RX3 83 yX3_contractAt, Cond.instanceMethod yX3_contractAt, Cond.selects RX3 yX3_contractAt yX3_contractAt, Cond.code yX3_contractAt cX3_contractAt 2 (some (.object "ClauseShop$Contract")), Cond.classLink RX3 204 "java/lang/IndexOutOfBoundsException", Cond.initialized "java/lang/IndexOutOfBoundsException", Cond.classLink RX3 76 "ClauseShop$Contract", Cond.methodLink RX3 43 yX3_isWithin, Cond.static yX3_isWithin, Cond.code yX3_isWithin cX3_isWithin 3 (some .boolean), Cond.methodLink RX3 209 yJx4a65c_get_915e3, Cond.instanceMethod yJx4a65c_get_915e3]
def wsL_drafts_r6 : List Cond := [Cond.selects RJx4a65c yJx4a65c_get_915e3 yJx4a65c_get_915e3, Cond.code yJx4a65c_get_915e3 cJx4a65c_get_915e3 2 (some (.object "java/lang/Object")), Cond.methodLink RJx4a65c 118 yJ15_checkIndex_7cf53, Cond.static yJ15_checkIndex_7cf53, Cond.initialized RJ15, Cond.code yJ15_checkIndex_7cf53 cJ15_checkIndex_7cf53 2 (some .int), Cond.methodLink RJ15 105 yJ3_checkIndex_8e157, Cond.static yJ3_checkIndex_8e157, Cond.initialized RJ3, Cond.code yJ3_checkIndex_8e157 cJ3_checkIndex_8e157 3 (some .int), Cond.methodLink RJx4a65c 123 yJx4a65c_elementData_915e3, Cond.instanceMethod yJx4a65c_elementData_915e3, Cond.selects RJx4a65c yJx4a65c_elementData_915e3 yJx4a65c_elementData_915e3, Cond.code yJx4a65c_elementData_915e3 cJx4a65c_elementData_915e3 2 (some (.object "java/lang/Object")), Cond.methodLink RX3 40 yX3_checkSide, Cond.static yX3_checkSide, Cond.code yX3_checkSide cX3_checkSide 1 none, Cond.methodLink RX3 36 yX3_checkClause, Cond.static yX3_checkClause, Cond.code yX3_checkClause cX3_checkClause 1 none, Cond.methodLink RX3 89 yX3_checkDraft, Cond.static yX3_checkDraft, Cond.code yX3_checkDraft cX3_checkDraft 1 none, Cond.methodLink RX3 120 yX0_isDraft]
def wsL_drafts_r7 : List Cond := [Cond.instanceMethod yX0_isDraft, Cond.selects RX0 yX0_isDraft yX0_isDraft, Cond.code yX0_isDraft cX0_isDraft 1 (some .boolean), Cond.methodLink RX3 98 yX0_bringIn, Cond.instanceMethod yX0_bringIn, Cond.selects RX0 yX0_bringIn yX0_bringIn, Cond.code yX0_bringIn cX0_bringIn 4 none, Cond.methodLink RX0 33 yX0_loseSignatures, Cond.instanceMethod yX0_loseSignatures, Cond.selects RX0 yX0_loseSignatures yX0_loseSignatures, Cond.code yX0_loseSignatures cX0_loseSignatures 1 none, Cond.methodLink RX3 106 yX0_changeMark, Cond.instanceMethod yX0_changeMark, Cond.selects RX0 yX0_changeMark yX0_changeMark, Cond.code yX0_changeMark cX0_changeMark 4 none, Cond.methodLink RL 94 yL_renew, Cond.static yL_renew, Cond.codeWith yL_renew cL_renew 6 (some .int) [(0, 9, 12, 34), (0, 9, 17, 14), (0, 9, 22, 16)], Cond.methodLink RL 36 yX3_renew, Cond.instanceMethod yX3_renew, Cond.selects RX3 yX3_renew yX3_renew, Cond.code yX3_renew cX3_renew 6 (some .int), Cond.methodLink RX3 110 yX3_hasLaterVersion, Cond.instanceMethod yX3_hasLaterVersion]
def wsL_drafts_r8 : List Cond := [Cond.selects RX3 yX3_hasLaterVersion yX3_hasLaterVersion, Cond.code yX3_hasLaterVersion cX3_hasLaterVersion 3 (some .boolean), Cond.methodLink RX3 116 yX3_itemNumber, Cond.static yX3_itemNumber, Cond.code yX3_itemNumber cX3_itemNumber 2 (some .int), Cond.methodLink RX3 218 yX3_numberOf, Cond.static yX3_numberOf, Cond.code yX3_numberOf cX3_numberOf 1 (some .int), Cond.fieldLink RX3 215 "ClauseShop$Version" "number" "I", Cond.methodLink RX3 54 yX3_newestNumber, Cond.instanceMethod yX3_newestNumber, Cond.selects RX3 yX3_newestNumber yX3_newestNumber, Cond.code yX3_newestNumber cX3_newestNumber 2 (some .int), Cond.methodLink RL 96 yL_sign, Cond.static yL_sign, Cond.codeWith yL_sign cL_sign 5 (some .int) [(0, 7, 10, 34), (0, 7, 15, 14), (0, 7, 20, 16)], Cond.methodLink RL 50 yX3_sign, Cond.instanceMethod yX3_sign, Cond.selects RX3 yX3_sign yX3_sign, Cond.code yX3_sign cX3_sign 4 (some .int), Cond.fieldLink RX3 128 "ClauseShop$Contract" "signed" "[Z", Cond.methodLink RX3 124 yX3_obstacle, Cond.instanceMethod yX3_obstacle, Cond.selects RX3 yX3_obstacle yX3_obstacle]
def wsL_drafts_r9 : List Cond := [Cond.code yX3_obstacle cX3_obstacle 3 (some .int), Cond.fieldLink RX3 15 "ClauseShop" "needs" "[I", Cond.fieldLink RX3 19 "ClauseShop" "forbids" "[I", Cond.methodLink RX3 222 yX0_clauseSet, Cond.instanceMethod yX0_clauseSet, Cond.selects RX0 yX0_clauseSet yX0_clauseSet, Cond.code yX0_clauseSet cX0_clauseSet 3 (some .int), Cond.methodLink RX3 225 yX0_isAgreed, Cond.instanceMethod yX0_isAgreed, Cond.selects RX0 yX0_isAgreed yX0_isAgreed, Cond.code yX0_isAgreed cX0_isAgreed 2 (some .boolean), Cond.methodLink RX3 228 yX3_unionOver, Cond.static yX3_unionOver, Cond.code yX3_unionOver cX3_unionOver 4 (some .int), Cond.methodLink RX3 134 yX3_makeDuties, Cond.instanceMethod yX3_makeDuties, Cond.selects RX3 yX3_makeDuties yX3_makeDuties, Cond.code yX3_makeDuties cX3_makeDuties 5 (some .int), Cond.fieldLink RX3 29 "ClauseShop" "dutyList" "Ljava/util/ArrayList;", Cond.classLink RX3 152 RX1, Cond.instantiable RX1 4, Cond.initialized RX1, Cond.fieldLink RX3 32 "ClauseShop" "today" "I", Cond.fieldLink RX3 232 "ClauseShop$Version" "days" "I"]
def wsL_drafts_r10 : List Cond := [Cond.methodLink RX3 235 yX1_init, Cond.instanceMethod yX1_init, Cond.code yX1_init cX1_init 4 none, Cond.methodLink RX1 3 objectInit, Cond.fieldLink RX1 9 "ClauseShop$Duty" "state" "I", Cond.fieldLink RX1 15 "ClauseShop$Duty" "contract" "LClauseShop$Contract;", Cond.fieldLink RX1 19 "ClauseShop$Duty" "version" "LClauseShop$Version;", Cond.fieldLink RX1 23 "ClauseShop$Duty" "day" "I", Cond.methodLink RL 99 yL_version, Cond.static yL_version, Cond.codeWith yL_version cL_version 5 (some .int) [(0, 7, 10, 34), (0, 7, 15, 14)], Cond.methodLink RL 40 yX3_version, Cond.instanceMethod yX3_version, Cond.selects RX3 yX3_version yX3_version, Cond.code yX3_version cX3_version 4 (some .int), Cond.methodLink RL 101 yL_offered, Cond.static yL_offered, Cond.codeWith yL_offered cL_offered 4 (some .int) [(0, 6, 9, 34)], Cond.methodLink RL 44 yX3_offered, Cond.instanceMethod yX3_offered, Cond.selects RX3 yX3_offered yX3_offered, Cond.code yX3_offered cX3_offered 5 (some .int), Cond.methodLink RL 104 yL_whyNot, Cond.static yL_whyNot]
def wsL_drafts_r11 : List Cond := [Cond.codeWith yL_whyNot cL_whyNot 4 (some .int) [(0, 6, 9, 34)], Cond.methodLink RL 47 yX3_whyNot, Cond.instanceMethod yX3_whyNot, Cond.selects RX3 yX3_whyNot yX3_whyNot, Cond.code yX3_whyNot cX3_whyNot 2 (some .int), Cond.methodLink RL 106 yL_owes, Cond.static yL_owes, Cond.codeWith yL_owes cL_owes 5 (some .int) [(0, 7, 10, 34), (0, 7, 15, 14)], Cond.methodLink RL 72 yX3_owes, Cond.instanceMethod yX3_owes, Cond.selects RX3 yX3_owes yX3_owes, Cond.code yX3_owes cX3_owes 4 (some .int), Cond.fieldLink RX3 187 "ClauseShop$Contract" "penalties" "[I", Cond.methodLink RX3 190 Lib.Math.max.name, Cond.methodLink RL 108 yL_reason, Cond.static yL_reason, Cond.code yL_reason cL_reason 9 (some .int)]
def wsL_drafts : List Cond := .code yL_drafts cL_drafts 21 (some .boolean) :: ((wsL_drafts_r1 ++ (wsL_drafts_r2 ++ (wsL_drafts_r3 ++ (wsL_drafts_r4 ++ (wsL_drafts_r5 ++ (wsL_drafts_r6 ++ (wsL_drafts_r7 ++ (wsL_drafts_r8 ++ (wsL_drafts_r9 ++ (wsL_drafts_r10 ++ wsL_drafts_r11)))))))))) ++ wsX30 ++ wsX00 ++ wsJx4a65c0 ++ wsX20 ++ wsX10 ++ (vx_atS RX3 62 "java/lang/IllegalStateException" ["java/lang/RuntimeException", "java/lang/Exception"]).filter goodWord ++ (vx_atS RX3 51 "java/lang/IllegalArgumentException" ["java/lang/RuntimeException", "java/lang/Exception"]).filter goodWord ++ (vx_atS RX3 208 "java/lang/IndexOutOfBoundsException" ["java/lang/RuntimeException", "java/lang/Exception"]).filter goodWord)
def wsL_breached : List Cond := .code yL_breached cL_breached 5 (some .int) :: ([])
def wsL_isSuspended : List Cond := .code yL_isSuspended cL_isSuspended 4 (some .boolean) :: ([.methodLink RL 112 yL_breached, .static yL_breached, .initialized RL, .code yL_breached cL_breached 5 (some .int)])
def wsL_passes : List Cond := .code yL_passes cL_passes 11 (some .int) :: ([.methodLink RL 112 yL_breached, .static yL_breached, .initialized RL, .code yL_breached cL_breached 5 (some .int)])
def wsL_works_r1 : List Cond := [Cond.constant RL 84 (-2147483648), Cond.constant RL 118 (2147483647), Cond.methodLink RL 75 yL_low, Cond.static yL_low, Cond.initialized RL, Cond.code yL_low cL_low 2 (some .int), Cond.methodLink RL 116 yL_pass, Cond.static yL_pass, Cond.codeWith yL_pass cL_pass 4 (some .int) [(0, 6, 9, 14), (0, 6, 13, 16)], Cond.classLink RL 14 "java/lang/IllegalArgumentException", Cond.classLink RL 16 "java/lang/IllegalStateException", Cond.methodLink RL 53 yX3_pass, Cond.instanceMethod yX3_pass, Cond.selects RX3 yX3_pass yX3_pass, Cond.initialized RX3, Cond.code yX3_pass cX3_pass 4 (some .int), Cond.classLink RX3 47 "java/lang/IllegalArgumentException", Cond.initialized "java/lang/IllegalArgumentException", Cond.classLink RX3 58 "java/lang/IllegalStateException", Cond.initialized "java/lang/IllegalStateException", Cond.fieldLink RX3 32 "ClauseShop" "today" "I", Cond.methodLink RX3 43 yX3_isWithin, Cond.static yX3_isWithin, Cond.code yX3_isWithin cX3_isWithin 3 (some .boolean)]
def wsL_works_r2 : List Cond := [Cond.methodLink RX3 141 yX3_putOffHeldUpDuties, Cond.instanceMethod yX3_putOffHeldUpDuties, Cond.selects RX3 yX3_putOffHeldUpDuties yX3_putOffHeldUpDuties, Cond.code yX3_putOffHeldUpDuties cX3_putOffHeldUpDuties 3 none, Cond.fieldLink RX3 29 "ClauseShop" "dutyList" "Ljava/util/ArrayList;", Cond.classLink RX3 152 "ClauseShop$Duty", Cond.fieldLink RX3 156 "ClauseShop$Duty" "day" "I", Cond.methodLink RX3 70 yJx4a65c_size_8abf5, Cond.instanceMethod yJx4a65c_size_8abf5, Cond.selects RJx4a65c yJx4a65c_size_8abf5 yJx4a65c_size_8abf5, Cond.initialized RJx4a65c, Cond.code yJx4a65c_size_8abf5 cJx4a65c_size_8abf5 1 (some .int), Cond.fieldLink RJx4a65c 48 "java/util/ArrayList" "size" "I", Cond.methodLink RX3 209 yJx4a65c_get_915e3, Cond.instanceMethod yJx4a65c_get_915e3, Cond.selects RJx4a65c yJx4a65c_get_915e3 yJx4a65c_get_915e3, Cond.code yJx4a65c_get_915e3 cJx4a65c_get_915e3 2 (some (.object "java/lang/Object")), Cond.methodLink RJx4a65c 118 yJ15_checkIndex_7cf53, Cond.static yJ15_checkIndex_7cf53, Cond.initialized RJ15, Cond.code yJ15_checkIndex_7cf53 cJ15_checkIndex_7cf53 2 (some .int), Cond.methodLink RJ15 105 yJ3_checkIndex_8e157, Cond.static yJ3_checkIndex_8e157, Cond.initialized RJ3]
def wsL_works_r3 : List Cond := [Cond.code yJ3_checkIndex_8e157 cJ3_checkIndex_8e157 3 (some .int), Cond.methodLink RJx4a65c 123 yJx4a65c_elementData_915e3, Cond.instanceMethod yJx4a65c_elementData_915e3, Cond.selects RJx4a65c yJx4a65c_elementData_915e3 yJx4a65c_elementData_915e3, Cond.code yJx4a65c_elementData_915e3 cJx4a65c_elementData_915e3 2 (some (.object "java/lang/Object")), Cond.fieldLink RJx4a65c 9 "java/util/ArrayList" "elementData" "[Ljava/lang/Object;", Cond.methodLink RX3 159 yX1_isHeldUp, Cond.instanceMethod yX1_isHeldUp, Cond.selects RX1 yX1_isHeldUp yX1_isHeldUp, Cond.initialized RX1, Cond.code yX1_isHeldUp cX1_isHeldUp 1 (some .boolean), Cond.fieldLink RX1 15 "ClauseShop$Duty" "contract" "LClauseShop$Contract;", Cond.fieldLink RX1 30 "ClauseShop$Contract" "breaches" "[I", Cond.fieldLink RX1 19 "ClauseShop$Duty" "version" "LClauseShop$Version;", Cond.fieldLink RX1 36 "ClauseShop$Version" "obligor" "I", Cond.methodLink RX1 26 yX1_canBeDone, Cond.instanceMethod yX1_canBeDone, Cond.selects RX1 yX1_canBeDone yX1_canBeDone, Cond.code yX1_canBeDone cX1_canBeDone 1 (some .boolean), Cond.fieldLink RX1 9 "ClauseShop$Duty" "state" "I", Cond.methodLink RX3 144 yX3_breachUncuredDuties, Cond.instanceMethod yX3_breachUncuredDuties, Cond.selects RX3 yX3_breachUncuredDuties yX3_breachUncuredDuties, Cond.code yX3_breachUncuredDuties cX3_breachUncuredDuties 4 (some .int)]
def wsL_works_r4 : List Cond := [Cond.fieldLink RX3 151 "ClauseShop$Duty" "state" "I", Cond.methodLink RX3 167 yX1_move, Cond.instanceMethod yX1_move, Cond.selects RX1 yX1_move yX1_move, Cond.code yX1_move cX1_move 3 none, Cond.fieldLink RX1 23 "ClauseShop$Duty" "day" "I", Cond.methodLink RX3 181 yX1_countBreach, Cond.instanceMethod yX1_countBreach, Cond.selects RX1 yX1_countBreach yX1_countBreach, Cond.code yX1_countBreach cX1_countBreach 2 none, Cond.fieldLink RX1 41 "ClauseShop$Contract" "penalties" "[I", Cond.fieldLink RX1 44 "ClauseShop$Version" "penalty" "I", Cond.methodLink RL 119 yL_passes, Cond.static yL_passes, Cond.code yL_passes cL_passes 11 (some .int), Cond.methodLink RL 112 yL_breached, Cond.static yL_breached, Cond.code yL_breached cL_breached 5 (some .int), Cond.methodLink RL 123 yL_perform, Cond.static yL_perform, Cond.codeWith yL_perform cL_perform 4 (some .int) [(0, 6, 9, 34), (0, 6, 13, 16)], Cond.classLink RL 34 "java/lang/IndexOutOfBoundsException", Cond.methodLink RL 62 yX3_perform, Cond.instanceMethod yX3_perform]
def wsL_works_r5 : List Cond := [Cond.selects RX3 yX3_perform yX3_perform, Cond.code yX3_perform cX3_perform 4 (some .boolean), Cond.methodLink RX3 147 yX3_dutyAt, Cond.instanceMethod yX3_dutyAt, Cond.selects RX3 yX3_dutyAt yX3_dutyAt, Cond.code yX3_dutyAt cX3_dutyAt 2 (some (.object "ClauseShop$Duty")), Cond.classLink RX3 204 "java/lang/IndexOutOfBoundsException", Cond.initialized "java/lang/IndexOutOfBoundsException", Cond.methodLink RX3 162 yX1_canBeDone, Cond.methodLink RL 125 yL_notice, Cond.static yL_notice, Cond.codeWith yL_notice cL_notice 4 (some .int) [(0, 6, 9, 34), (0, 6, 13, 16)], Cond.methodLink RL 66 yX3_notice, Cond.instanceMethod yX3_notice, Cond.selects RX3 yX3_notice yX3_notice, Cond.code yX3_notice cX3_notice 3 (some .int), Cond.fieldLink RX3 172 "ClauseShop$Duty" "version" "LClauseShop$Version;", Cond.fieldLink RX3 176 "ClauseShop$Version" "cure" "I", Cond.methodLink RL 127 yL_settle, Cond.static yL_settle, Cond.codeWith yL_settle cL_settle 4 (some .int) [(0, 6, 9, 34), (0, 6, 13, 16)], Cond.methodLink RL 69 yX3_settle, Cond.instanceMethod yX3_settle, Cond.selects RX3 yX3_settle yX3_settle]
def wsL_works_r6 : List Cond := [Cond.code yX3_settle cX3_settle 3 (some .int), Cond.fieldLink RX3 184 "ClauseShop$Version" "penalty" "I", Cond.methodLink RL 129 yL_state, Cond.static yL_state, Cond.codeWith yL_state cL_state 4 (some .int) [(0, 6, 9, 34)], Cond.methodLink RL 56 yX3_state, Cond.instanceMethod yX3_state, Cond.selects RX3 yX3_state yX3_state, Cond.code yX3_state cX3_state 2 (some .int), Cond.methodLink RL 131 yL_day, Cond.static yL_day, Cond.codeWith yL_day cL_day 4 (some .int) [(0, 6, 9, 34)], Cond.methodLink RL 59 yX3_day, Cond.instanceMethod yX3_day, Cond.selects RX3 yX3_day yX3_day, Cond.code yX3_day cX3_day 2 (some .int)]
def wsL_works : List Cond := .code yL_works cL_works 10 (some .boolean) :: ((wsL_works_r1 ++ (wsL_works_r2 ++ (wsL_works_r3 ++ (wsL_works_r4 ++ (wsL_works_r5 ++ wsL_works_r6))))) ++ wsX30 ++ wsX10 ++ wsJx4a65c0 ++ wsX00 ++ wsX20 ++ (vx_atS RX3 51 "java/lang/IllegalArgumentException" ["java/lang/RuntimeException", "java/lang/Exception"]).filter goodWord ++ (vx_atS RX3 62 "java/lang/IllegalStateException" ["java/lang/RuntimeException", "java/lang/Exception"]).filter goodWord ++ (vx_atS RX3 208 "java/lang/IndexOutOfBoundsException" ["java/lang/RuntimeException", "java/lang/Exception"]).filter goodWord)
def wsL_isTold_r1 : List Cond := [Cond.constant RL 118 (2147483647), Cond.methodLink RL 133 yL_latest, Cond.static yL_latest, Cond.initialized RL, Cond.codeWith yL_latest cL_latest 4 (some .int) [(0, 6, 9, 14)], Cond.classLink RL 14 "java/lang/IllegalArgumentException", Cond.methodLink RL 22 yX3_latest, Cond.instanceMethod yX3_latest, Cond.selects RX3 yX3_latest yX3_latest, Cond.initialized RX3, Cond.code yX3_latest cX3_latest 2 (some .int), Cond.methodLink RX3 36 yX3_checkClause, Cond.static yX3_checkClause, Cond.code yX3_checkClause cX3_checkClause 1 none, Cond.classLink RX3 47 "java/lang/IllegalArgumentException", Cond.initialized "java/lang/IllegalArgumentException", Cond.methodLink RX3 43 yX3_isWithin, Cond.static yX3_isWithin, Cond.code yX3_isWithin cX3_isWithin 3 (some .boolean), Cond.methodLink RX3 54 yX3_newestNumber, Cond.instanceMethod yX3_newestNumber, Cond.selects RX3 yX3_newestNumber yX3_newestNumber, Cond.code yX3_newestNumber cX3_newestNumber 2 (some .int), Cond.fieldLink RX3 11 "ClauseShop" "newest" "[LClauseShop$Version;"]
def wsL_isTold_r2 : List Cond := [Cond.methodLink RX3 218 yX3_numberOf, Cond.static yX3_numberOf, Cond.code yX3_numberOf cX3_numberOf 1 (some .int), Cond.fieldLink RX3 215 "ClauseShop$Version" "number" "I", Cond.methodLink RL 99 yL_version, Cond.static yL_version, Cond.codeWith yL_version cL_version 5 (some .int) [(0, 7, 10, 34), (0, 7, 15, 14)], Cond.classLink RL 34 "java/lang/IndexOutOfBoundsException", Cond.methodLink RL 40 yX3_version, Cond.instanceMethod yX3_version, Cond.selects RX3 yX3_version yX3_version, Cond.code yX3_version cX3_version 4 (some .int), Cond.methodLink RX3 83 yX3_contractAt, Cond.instanceMethod yX3_contractAt, Cond.selects RX3 yX3_contractAt yX3_contractAt, Cond.code yX3_contractAt cX3_contractAt 2 (some (.object "ClauseShop$Contract")), Cond.classLink RX3 204 "java/lang/IndexOutOfBoundsException", Cond.initialized "java/lang/IndexOutOfBoundsException", Cond.fieldLink RX3 25 "ClauseShop" "contracts" "Ljava/util/ArrayList;", Cond.classLink RX3 76 "ClauseShop$Contract", Cond.methodLink RX3 70 yJx4a65c_size_8abf5, Cond.instanceMethod yJx4a65c_size_8abf5, Cond.selects RJx4a65c yJx4a65c_size_8abf5 yJx4a65c_size_8abf5, Cond.initialized RJx4a65c]
def wsL_isTold_r3 : List Cond := [Cond.code yJx4a65c_size_8abf5 cJx4a65c_size_8abf5 1 (some .int), Cond.fieldLink RJx4a65c 48 "java/util/ArrayList" "size" "I", Cond.methodLink RX3 209 yJx4a65c_get_915e3, Cond.instanceMethod yJx4a65c_get_915e3, Cond.selects RJx4a65c yJx4a65c_get_915e3 yJx4a65c_get_915e3, Cond.code yJx4a65c_get_915e3 cJx4a65c_get_915e3 2 (some (.object "java/lang/Object")), Cond.methodLink RJx4a65c 118 yJ15_checkIndex_7cf53, Cond.static yJ15_checkIndex_7cf53, Cond.initialized RJ15, Cond.code yJ15_checkIndex_7cf53 cJ15_checkIndex_7cf53 2 (some .int), Cond.methodLink RJ15 105 yJ3_checkIndex_8e157, Cond.static yJ3_checkIndex_8e157, Cond.initialized RJ3, Cond.code yJ3_checkIndex_8e157 cJ3_checkIndex_8e157 3 (some .int), Cond.methodLink RJx4a65c 123 yJx4a65c_elementData_915e3, Cond.instanceMethod yJx4a65c_elementData_915e3, Cond.selects RJx4a65c yJx4a65c_elementData_915e3 yJx4a65c_elementData_915e3, Cond.code yJx4a65c_elementData_915e3 cJx4a65c_elementData_915e3 2 (some (.object "java/lang/Object")), Cond.fieldLink RJx4a65c 9 "java/util/ArrayList" "elementData" "[Ljava/lang/Object;", Cond.methodLink RX3 116 yX3_itemNumber, Cond.static yX3_itemNumber, Cond.code yX3_itemNumber cX3_itemNumber 2 (some .int), Cond.fieldLink RX3 93 "ClauseShop$Contract" "items" "[LClauseShop$Version;", Cond.methodLink RL 101 yL_offered]
def wsL_isTold_r4 : List Cond := [Cond.static yL_offered, Cond.codeWith yL_offered cL_offered 4 (some .int) [(0, 6, 9, 34)], Cond.methodLink RL 44 yX3_offered, Cond.instanceMethod yX3_offered, Cond.selects RX3 yX3_offered yX3_offered, Cond.code yX3_offered cX3_offered 5 (some .int), Cond.methodLink RX3 120 yX0_isDraft, Cond.instanceMethod yX0_isDraft, Cond.selects RX0 yX0_isDraft yX0_isDraft, Cond.initialized RX0, Cond.code yX0_isDraft cX0_isDraft 1 (some .boolean), Cond.fieldLink RX0 22 "ClauseShop$Contract" "signed" "[Z", Cond.methodLink RX3 110 yX3_hasLaterVersion, Cond.instanceMethod yX3_hasLaterVersion, Cond.selects RX3 yX3_hasLaterVersion yX3_hasLaterVersion, Cond.code yX3_hasLaterVersion cX3_hasLaterVersion 3 (some .boolean), Cond.methodLink RL 104 yL_whyNot, Cond.static yL_whyNot, Cond.codeWith yL_whyNot cL_whyNot 4 (some .int) [(0, 6, 9, 34)], Cond.methodLink RL 47 yX3_whyNot, Cond.instanceMethod yX3_whyNot, Cond.selects RX3 yX3_whyNot yX3_whyNot, Cond.code yX3_whyNot cX3_whyNot 2 (some .int), Cond.methodLink RX3 124 yX3_obstacle]
def wsL_isTold_r5 : List Cond := [Cond.instanceMethod yX3_obstacle, Cond.selects RX3 yX3_obstacle yX3_obstacle, Cond.code yX3_obstacle cX3_obstacle 3 (some .int), Cond.fieldLink RX3 15 "ClauseShop" "needs" "[I", Cond.fieldLink RX3 19 "ClauseShop" "forbids" "[I", Cond.methodLink RX3 222 yX0_clauseSet, Cond.instanceMethod yX0_clauseSet, Cond.selects RX0 yX0_clauseSet yX0_clauseSet, Cond.code yX0_clauseSet cX0_clauseSet 3 (some .int), Cond.fieldLink RX0 11 "ClauseShop$Contract" "items" "[LClauseShop$Version;", Cond.methodLink RX3 225 yX0_isAgreed, Cond.instanceMethod yX0_isAgreed, Cond.selects RX0 yX0_isAgreed yX0_isAgreed, Cond.code yX0_isAgreed cX0_isAgreed 2 (some .boolean), Cond.fieldLink RX0 19 "ClauseShop$Contract" "marks" "[[I", Cond.methodLink RX3 228 yX3_unionOver, Cond.static yX3_unionOver, Cond.code yX3_unionOver cX3_unionOver 4 (some .int), Cond.methodLink RL 108 yL_reason, Cond.static yL_reason, Cond.code yL_reason cL_reason 9 (some .int), Cond.methodLink RL 106 yL_owes, Cond.static yL_owes, Cond.codeWith yL_owes cL_owes 5 (some .int) [(0, 7, 10, 34), (0, 7, 15, 14)]]
def wsL_isTold_r6 : List Cond := [Cond.methodLink RL 72 yX3_owes, Cond.instanceMethod yX3_owes, Cond.selects RX3 yX3_owes yX3_owes, Cond.code yX3_owes cX3_owes 4 (some .int), Cond.fieldLink RX3 187 "ClauseShop$Contract" "penalties" "[I", Cond.methodLink RX3 190 Lib.Math.max.name, Cond.static Lib.Math.max.name, Cond.initialized "java/lang/Math", Cond.code Lib.Math.max.name Lib.Math.max.code 2 (some .int), Cond.methodLink RX3 40 yX3_checkSide, Cond.static yX3_checkSide, Cond.code yX3_checkSide cX3_checkSide 1 none, Cond.methodLink RL 129 yL_state, Cond.static yL_state, Cond.codeWith yL_state cL_state 4 (some .int) [(0, 6, 9, 34)], Cond.methodLink RL 56 yX3_state, Cond.instanceMethod yX3_state, Cond.selects RX3 yX3_state yX3_state, Cond.code yX3_state cX3_state 2 (some .int), Cond.fieldLink RX3 151 "ClauseShop$Duty" "state" "I", Cond.methodLink RX3 147 yX3_dutyAt, Cond.instanceMethod yX3_dutyAt, Cond.selects RX3 yX3_dutyAt yX3_dutyAt, Cond.code yX3_dutyAt cX3_dutyAt 2 (some (.object "ClauseShop$Duty"))]
def wsL_isTold_r7 : List Cond := [Cond.fieldLink RX3 29 "ClauseShop" "dutyList" "Ljava/util/ArrayList;", Cond.classLink RX3 152 "ClauseShop$Duty", Cond.methodLink RL 131 yL_day, Cond.static yL_day, Cond.codeWith yL_day cL_day 4 (some .int) [(0, 6, 9, 34)], Cond.methodLink RL 59 yX3_day, Cond.instanceMethod yX3_day, Cond.selects RX3 yX3_day yX3_day, Cond.code yX3_day cX3_day 2 (some .int), Cond.fieldLink RX3 156 "ClauseShop$Duty" "day" "I", Cond.methodLink RL 135 yX3_isSuspended, Cond.instanceMethod yX3_isSuspended, Cond.selects RX3 yX3_isSuspended yX3_isSuspended, Cond.code yX3_isSuspended cX3_isSuspended 2 (some .boolean), Cond.methodLink RX3 159 yX1_isHeldUp, Cond.instanceMethod yX1_isHeldUp, Cond.selects RX1 yX1_isHeldUp yX1_isHeldUp, Cond.initialized RX1, Cond.code yX1_isHeldUp cX1_isHeldUp 1 (some .boolean), Cond.fieldLink RX1 15 "ClauseShop$Duty" "contract" "LClauseShop$Contract;", Cond.fieldLink RX1 30 "ClauseShop$Contract" "breaches" "[I", Cond.fieldLink RX1 19 "ClauseShop$Duty" "version" "LClauseShop$Version;", Cond.fieldLink RX1 36 "ClauseShop$Version" "obligor" "I", Cond.methodLink RX1 26 yX1_canBeDone]
def wsL_isTold_r8 : List Cond := [Cond.instanceMethod yX1_canBeDone, Cond.selects RX1 yX1_canBeDone yX1_canBeDone, Cond.code yX1_canBeDone cX1_canBeDone 1 (some .boolean), Cond.fieldLink RX1 9 "ClauseShop$Duty" "state" "I", Cond.methodLink RL 138 yL_isSuspended, Cond.static yL_isSuspended, Cond.code yL_isSuspended cL_isSuspended 4 (some .boolean), Cond.methodLink RL 112 yL_breached, Cond.static yL_breached, Cond.code yL_breached cL_breached 5 (some .int), Cond.methodLink RL 141 yX3_duties, Cond.instanceMethod yX3_duties, Cond.selects RX3 yX3_duties yX3_duties, Cond.code yX3_duties cX3_duties 1 (some .int)]
def wsL_isTold : List Cond := .code yL_isTold cL_isTold 14 (some .boolean) :: ((wsL_isTold_r1 ++ (wsL_isTold_r2 ++ (wsL_isTold_r3 ++ (wsL_isTold_r4 ++ (wsL_isTold_r5 ++ (wsL_isTold_r6 ++ (wsL_isTold_r7 ++ wsL_isTold_r8))))))) ++ wsX30 ++ wsX20 ++ wsJx4a65c0 ++ wsX00 ++ wsX10 ++ (vx_atS RX3 51 "java/lang/IllegalArgumentException" ["java/lang/RuntimeException", "java/lang/Exception"]).filter goodWord ++ (vx_atS RX3 208 "java/lang/IndexOutOfBoundsException" ["java/lang/RuntimeException", "java/lang/Exception"]).filter goodWord)
def wsL_law0_r1 : List Cond := [Cond.classLink RL 9 RX3, Cond.instantiable RX3 6, Cond.initialized RX3, Cond.arrayClass .int, Cond.methodLink RL 144 yX3_init, Cond.instanceMethod yX3_init, Cond.code yX3_init cX3_init 1 none, Cond.methodLink RX3 3 objectInit, Cond.instanceMethod objectInit, Cond.code objectInit ⟨#[0xb1]⟩ 1 none, Cond.classLink RX3 9 RX2, Cond.fieldLink RX3 11 "ClauseShop" "newest" "[LClauseShop$Version;", Cond.fieldLink RX3 15 "ClauseShop" "needs" "[I", Cond.fieldLink RX3 19 "ClauseShop" "forbids" "[I", Cond.classLink RX3 22 RJx4a65c, Cond.instantiable RJx4a65c 3, Cond.initialized RJx4a65c, Cond.fieldLink RX3 25 "ClauseShop" "contracts" "Ljava/util/ArrayList;", Cond.fieldLink RX3 29 "ClauseShop" "dutyList" "Ljava/util/ArrayList;", Cond.fieldLink RX3 32 "ClauseShop" "today" "I", Cond.methodLink RX3 24 yJx4a65c_init_da8c8, Cond.instanceMethod yJx4a65c_init_da8c8, Cond.code yJx4a65c_init_da8c8 cJx4a65c_init_da8c8 1 none, Cond.fieldLink RJx4a65c 39 "java/util/ArrayList" "DEFAULTCAPACITY_EMPTY_ELEMENTDATA" "[Ljava/lang/Object;"]
def wsL_law0_r2 : List Cond := [Cond.fieldLink RJx4a65c 9 "java/util/ArrayList" "elementData" "[Ljava/lang/Object;", Cond.methodLink RJx4a65c 1 yJxc12de_init_da8c8, Cond.instanceMethod yJxc12de_init_da8c8, Cond.initialized RJxc12de, Cond.code yJxc12de_init_da8c8 cJxc12de_init_da8c8 1 none, Cond.fieldLink RJxc12de 7 "java/util/AbstractList" "modCount" "I", Cond.methodLink RJxc12de 1 yJxa1e45_init_da8c8, Cond.instanceMethod yJxa1e45_init_da8c8, Cond.initialized RJxa1e45, Cond.code yJxa1e45_init_da8c8 cJxa1e45_init_da8c8 1 none, Cond.methodLink RJxa1e45 1 objectInit, Cond.methodLink RL 145 yL_isTold, Cond.static yL_isTold, Cond.initialized RL, Cond.code yL_isTold cL_isTold 14 (some .boolean), Cond.constant RL 118 (2147483647), Cond.methodLink RL 133 yL_latest, Cond.static yL_latest, Cond.codeWith yL_latest cL_latest 4 (some .int) [(0, 6, 9, 14)], Cond.classLink RL 14 "java/lang/IllegalArgumentException", Cond.methodLink RL 22 yX3_latest, Cond.instanceMethod yX3_latest, Cond.selects RX3 yX3_latest yX3_latest, Cond.code yX3_latest cX3_latest 2 (some .int)]
def wsL_law0_r3 : List Cond := [Cond.methodLink RX3 36 yX3_checkClause, Cond.static yX3_checkClause, Cond.code yX3_checkClause cX3_checkClause 1 none, Cond.classLink RX3 47 "java/lang/IllegalArgumentException", Cond.initialized "java/lang/IllegalArgumentException", Cond.methodLink RX3 43 yX3_isWithin, Cond.static yX3_isWithin, Cond.code yX3_isWithin cX3_isWithin 3 (some .boolean), Cond.methodLink RX3 54 yX3_newestNumber, Cond.instanceMethod yX3_newestNumber, Cond.selects RX3 yX3_newestNumber yX3_newestNumber, Cond.code yX3_newestNumber cX3_newestNumber 2 (some .int), Cond.methodLink RX3 218 yX3_numberOf, Cond.static yX3_numberOf, Cond.code yX3_numberOf cX3_numberOf 1 (some .int), Cond.fieldLink RX3 215 "ClauseShop$Version" "number" "I", Cond.methodLink RL 99 yL_version, Cond.static yL_version, Cond.codeWith yL_version cL_version 5 (some .int) [(0, 7, 10, 34), (0, 7, 15, 14)], Cond.classLink RL 34 "java/lang/IndexOutOfBoundsException", Cond.methodLink RL 40 yX3_version, Cond.instanceMethod yX3_version, Cond.selects RX3 yX3_version yX3_version, Cond.code yX3_version cX3_version 4 (some .int)]
def wsL_law0_r4 : List Cond := [Cond.methodLink RX3 83 yX3_contractAt, Cond.instanceMethod yX3_contractAt, Cond.selects RX3 yX3_contractAt yX3_contractAt, Cond.code yX3_contractAt cX3_contractAt 2 (some (.object "ClauseShop$Contract")), Cond.classLink RX3 204 "java/lang/IndexOutOfBoundsException", Cond.initialized "java/lang/IndexOutOfBoundsException", Cond.classLink RX3 76 "ClauseShop$Contract", Cond.methodLink RX3 70 yJx4a65c_size_8abf5, Cond.instanceMethod yJx4a65c_size_8abf5, Cond.selects RJx4a65c yJx4a65c_size_8abf5 yJx4a65c_size_8abf5, Cond.code yJx4a65c_size_8abf5 cJx4a65c_size_8abf5 1 (some .int), Cond.fieldLink RJx4a65c 48 "java/util/ArrayList" "size" "I", Cond.methodLink RX3 209 yJx4a65c_get_915e3, Cond.instanceMethod yJx4a65c_get_915e3, Cond.selects RJx4a65c yJx4a65c_get_915e3 yJx4a65c_get_915e3, Cond.code yJx4a65c_get_915e3 cJx4a65c_get_915e3 2 (some (.object "java/lang/Object")), Cond.methodLink RJx4a65c 118 yJ15_checkIndex_7cf53, Cond.static yJ15_checkIndex_7cf53, Cond.initialized RJ15, Cond.code yJ15_checkIndex_7cf53 cJ15_checkIndex_7cf53 2 (some .int), Cond.methodLink RJ15 105 yJ3_checkIndex_8e157, Cond.static yJ3_checkIndex_8e157, Cond.initialized RJ3, Cond.code yJ3_checkIndex_8e157 cJ3_checkIndex_8e157 3 (some .int)]
def wsL_law0_r5 : List Cond := [Cond.methodLink RJx4a65c 123 yJx4a65c_elementData_915e3, Cond.instanceMethod yJx4a65c_elementData_915e3, Cond.selects RJx4a65c yJx4a65c_elementData_915e3 yJx4a65c_elementData_915e3, Cond.code yJx4a65c_elementData_915e3 cJx4a65c_elementData_915e3 2 (some (.object "java/lang/Object")), Cond.methodLink RX3 116 yX3_itemNumber, Cond.static yX3_itemNumber, Cond.code yX3_itemNumber cX3_itemNumber 2 (some .int), Cond.fieldLink RX3 93 "ClauseShop$Contract" "items" "[LClauseShop$Version;", Cond.methodLink RL 101 yL_offered, Cond.static yL_offered, Cond.codeWith yL_offered cL_offered 4 (some .int) [(0, 6, 9, 34)], Cond.methodLink RL 44 yX3_offered, Cond.instanceMethod yX3_offered, Cond.selects RX3 yX3_offered yX3_offered, Cond.code yX3_offered cX3_offered 5 (some .int), Cond.methodLink RX3 120 yX0_isDraft, Cond.instanceMethod yX0_isDraft, Cond.selects RX0 yX0_isDraft yX0_isDraft, Cond.initialized RX0, Cond.code yX0_isDraft cX0_isDraft 1 (some .boolean), Cond.fieldLink RX0 22 "ClauseShop$Contract" "signed" "[Z", Cond.methodLink RX3 110 yX3_hasLaterVersion, Cond.instanceMethod yX3_hasLaterVersion, Cond.selects RX3 yX3_hasLaterVersion yX3_hasLaterVersion]
def wsL_law0_r6 : List Cond := [Cond.code yX3_hasLaterVersion cX3_hasLaterVersion 3 (some .boolean), Cond.methodLink RL 104 yL_whyNot, Cond.static yL_whyNot, Cond.codeWith yL_whyNot cL_whyNot 4 (some .int) [(0, 6, 9, 34)], Cond.methodLink RL 47 yX3_whyNot, Cond.instanceMethod yX3_whyNot, Cond.selects RX3 yX3_whyNot yX3_whyNot, Cond.code yX3_whyNot cX3_whyNot 2 (some .int), Cond.methodLink RX3 124 yX3_obstacle, Cond.instanceMethod yX3_obstacle, Cond.selects RX3 yX3_obstacle yX3_obstacle, Cond.code yX3_obstacle cX3_obstacle 3 (some .int), Cond.methodLink RX3 222 yX0_clauseSet, Cond.instanceMethod yX0_clauseSet, Cond.selects RX0 yX0_clauseSet yX0_clauseSet, Cond.code yX0_clauseSet cX0_clauseSet 3 (some .int), Cond.fieldLink RX0 11 "ClauseShop$Contract" "items" "[LClauseShop$Version;", Cond.methodLink RX3 225 yX0_isAgreed, Cond.instanceMethod yX0_isAgreed, Cond.selects RX0 yX0_isAgreed yX0_isAgreed, Cond.code yX0_isAgreed cX0_isAgreed 2 (some .boolean), Cond.fieldLink RX0 19 "ClauseShop$Contract" "marks" "[[I", Cond.methodLink RX3 228 yX3_unionOver, Cond.static yX3_unionOver]
def wsL_law0_r7 : List Cond := [Cond.code yX3_unionOver cX3_unionOver 4 (some .int), Cond.methodLink RL 108 yL_reason, Cond.static yL_reason, Cond.code yL_reason cL_reason 9 (some .int), Cond.methodLink RL 106 yL_owes, Cond.static yL_owes, Cond.codeWith yL_owes cL_owes 5 (some .int) [(0, 7, 10, 34), (0, 7, 15, 14)], Cond.methodLink RL 72 yX3_owes, Cond.instanceMethod yX3_owes, Cond.selects RX3 yX3_owes yX3_owes, Cond.code yX3_owes cX3_owes 4 (some .int), Cond.fieldLink RX3 187 "ClauseShop$Contract" "penalties" "[I", Cond.methodLink RX3 190 Lib.Math.max.name, Cond.static Lib.Math.max.name, Cond.initialized "java/lang/Math", Cond.code Lib.Math.max.name Lib.Math.max.code 2 (some .int), Cond.methodLink RX3 40 yX3_checkSide, Cond.static yX3_checkSide, Cond.code yX3_checkSide cX3_checkSide 1 none, Cond.methodLink RL 129 yL_state, Cond.static yL_state, Cond.codeWith yL_state cL_state 4 (some .int) [(0, 6, 9, 34)], Cond.methodLink RL 56 yX3_state, Cond.instanceMethod yX3_state]
def wsL_law0_r8 : List Cond := [Cond.selects RX3 yX3_state yX3_state, Cond.code yX3_state cX3_state 2 (some .int), Cond.fieldLink RX3 151 "ClauseShop$Duty" "state" "I", Cond.methodLink RX3 147 yX3_dutyAt, Cond.instanceMethod yX3_dutyAt, Cond.selects RX3 yX3_dutyAt yX3_dutyAt, Cond.code yX3_dutyAt cX3_dutyAt 2 (some (.object "ClauseShop$Duty")), Cond.classLink RX3 152 "ClauseShop$Duty", Cond.methodLink RL 131 yL_day, Cond.static yL_day, Cond.codeWith yL_day cL_day 4 (some .int) [(0, 6, 9, 34)], Cond.methodLink RL 59 yX3_day, Cond.instanceMethod yX3_day, Cond.selects RX3 yX3_day yX3_day, Cond.code yX3_day cX3_day 2 (some .int), Cond.fieldLink RX3 156 "ClauseShop$Duty" "day" "I", Cond.methodLink RL 135 yX3_isSuspended, Cond.instanceMethod yX3_isSuspended, Cond.selects RX3 yX3_isSuspended yX3_isSuspended, Cond.code yX3_isSuspended cX3_isSuspended 2 (some .boolean), Cond.methodLink RX3 159 yX1_isHeldUp, Cond.instanceMethod yX1_isHeldUp, Cond.selects RX1 yX1_isHeldUp yX1_isHeldUp, Cond.initialized RX1]
def wsL_law0_r9 : List Cond := [Cond.code yX1_isHeldUp cX1_isHeldUp 1 (some .boolean), Cond.fieldLink RX1 15 "ClauseShop$Duty" "contract" "LClauseShop$Contract;", Cond.fieldLink RX1 30 "ClauseShop$Contract" "breaches" "[I", Cond.fieldLink RX1 19 "ClauseShop$Duty" "version" "LClauseShop$Version;", Cond.fieldLink RX1 36 "ClauseShop$Version" "obligor" "I", Cond.methodLink RX1 26 yX1_canBeDone, Cond.instanceMethod yX1_canBeDone, Cond.selects RX1 yX1_canBeDone yX1_canBeDone, Cond.code yX1_canBeDone cX1_canBeDone 1 (some .boolean), Cond.fieldLink RX1 9 "ClauseShop$Duty" "state" "I", Cond.methodLink RL 138 yL_isSuspended, Cond.static yL_isSuspended, Cond.code yL_isSuspended cL_isSuspended 4 (some .boolean), Cond.methodLink RL 112 yL_breached, Cond.static yL_breached, Cond.code yL_breached cL_breached 5 (some .int), Cond.methodLink RL 141 yX3_duties, Cond.instanceMethod yX3_duties, Cond.selects RX3 yX3_duties yX3_duties, Cond.code yX3_duties cX3_duties 1 (some .int), Cond.methodLink RL 149 yL_cell, Cond.static yL_cell, Cond.code yL_cell cL_cell 2 (some .int), Cond.constant RL 7 (1205586405)]
def wsL_law0_r10 : List Cond := [Cond.methodLink RL 75 yL_low, Cond.static yL_low, Cond.code yL_low cL_low 2 (some .int), Cond.methodLink RL 153 yL_writes, Cond.static yL_writes, Cond.code yL_writes cL_writes 12 (some .boolean), Cond.constant RL 80 (196608), Cond.constant RL 84 (-2147483648), Cond.methodLink RL 81 yL_issue, Cond.static yL_issue, Cond.codeWith yL_issue cL_issue 8 (some .int) [(0, 13, 16, 14), (0, 13, 21, 16)], Cond.classLink RL 16 "java/lang/IllegalStateException", Cond.methodLink RL 8 yX3_issue, Cond.instanceMethod yX3_issue, Cond.selects RX3 yX3_issue yX3_issue, Cond.code yX3_issue cX3_issue 7 (some .int), Cond.classLink RX3 58 "java/lang/IllegalStateException", Cond.initialized "java/lang/IllegalStateException", Cond.instantiable RX2 5, Cond.initialized RX2, Cond.methodLink RX3 63 yX2_init, Cond.instanceMethod yX2_init, Cond.code yX2_init cX2_init 6 none, Cond.methodLink RX2 1 objectInit]
def wsL_law0_r11 : List Cond := [Cond.fieldLink RX2 7 "ClauseShop$Version" "number" "I", Cond.fieldLink RX2 13 "ClauseShop$Version" "obligor" "I", Cond.fieldLink RX2 16 "ClauseShop$Version" "days" "I", Cond.fieldLink RX2 19 "ClauseShop$Version" "cure" "I", Cond.fieldLink RX2 22 "ClauseShop$Version" "penalty" "I", Cond.methodLink RL 85 yL_relate, Cond.static yL_relate, Cond.codeWith yL_relate cL_relate 5 (some .int) [(0, 7, 10, 14)], Cond.methodLink RL 18 yX3_relate, Cond.instanceMethod yX3_relate, Cond.selects RX3 yX3_relate yX3_relate, Cond.code yX3_relate cX3_relate 4 none, Cond.methodLink RX3 66 yX3_checkOtherClauses, Cond.static yX3_checkOtherClauses, Cond.code yX3_checkOtherClauses cX3_checkOtherClauses 2 none, Cond.methodLink RL 157 yL_drafts, Cond.static yL_drafts, Cond.code yL_drafts cL_drafts 21 (some .boolean), Cond.methodLink RL 88 yL_begin, Cond.static yL_begin, Cond.codeWith yL_begin cL_begin 3 (some .int) [(0, 5, 8, 16)], Cond.methodLink RL 26 yX3_begin, Cond.instanceMethod yX3_begin, Cond.selects RX3 yX3_begin yX3_begin]
def wsL_law0_r12 : List Cond := [Cond.code yX3_begin cX3_begin 2 (some .int), Cond.classLink RX3 76 RX0, Cond.instantiable RX0 5, Cond.instanceMethod yX0_init, Cond.code yX0_init cX0_init 1 none, Cond.methodLink RX0 3 objectInit, Cond.classLink RX0 9 RX2, Cond.classLink RX0 17 "[[I", Cond.arrayClass .boolean, Cond.fieldLink RX0 26 "ClauseShop$Contract" "breaches" "[I", Cond.fieldLink RX0 30 "ClauseShop$Contract" "penalties" "[I", Cond.methodLink RX3 79 yJx4a65c_add_9ea2d, Cond.instanceMethod yJx4a65c_add_9ea2d, Cond.selects RJx4a65c yJx4a65c_add_9ea2d yJx4a65c_add_9ea2d, Cond.code yJx4a65c_add_9ea2d cJx4a65c_add_9ea2d 2 (some .boolean), Cond.fieldLink RJx4a65c 63 "java/util/ArrayList" "modCount" "I", Cond.sameField "java/util/ArrayList" "java/util/AbstractList" "modCount" "I", Cond.methodLink RJx4a65c 131 yJx4a65c_add_72be8, Cond.instanceMethod yJx4a65c_add_72be8, Cond.selects RJx4a65c yJx4a65c_add_72be8 yJx4a65c_add_72be8, Cond.code yJx4a65c_add_72be8 cJx4a65c_add_72be8 4 none, Cond.methodLink RJx4a65c 129 yJx4a65c_grow_d5877, Cond.instanceMethod yJx4a65c_grow_d5877, Cond.selects RJx4a65c yJx4a65c_grow_d5877 yJx4a65c_grow_d5877]
def wsL_law0_r13 : List Cond := [Cond.code yJx4a65c_grow_d5877 cJx4a65c_grow_d5877 1 (some (.array (.object "java/lang/Object"))), Cond.methodLink RJx4a65c 69 yJx4a65c_grow_92f84, Cond.instanceMethod yJx4a65c_grow_92f84, Cond.selects RJx4a65c yJx4a65c_grow_92f84 yJx4a65c_grow_92f84, Cond.code yJx4a65c_grow_92f84 cJx4a65c_grow_92f84 4 (some (.array (.object "java/lang/Object"))), Cond.methodLink RJx4a65c 79 Lib.Math.max.name, Cond.classLink RJx4a65c 7 "java/lang/Object", Cond.methodLink RJx4a65c 73 yJ8_newLength_cabcc, Cond.static yJ8_newLength_cabcc, Cond.initialized RJ8, Cond.code yJ8_newLength_cabcc cJ8_newLength_cabcc 4 (some .int), Cond.methodLink RJ8 194 Lib.Math.max.name, Cond.constant RJ8 200 (2147483639), Cond.methodLink RJ8 201 yJ8_hugeLength_7cf53, Cond.static yJ8_hugeLength_7cf53, Cond.code yJ8_hugeLength_7cf53 cJ8_hugeLength_7cf53 3 (some .int), Cond.methodLink RJx4a65c 66 yJ7_copyOf_1904c, Cond.static yJ7_copyOf_1904c, Cond.initialized RJ7, Cond.code yJ7_copyOf_1904c cJ7_copyOf_1904c 2 (some (.array (.object "java/lang/Object"))), Cond.methodLink RJ7 86 ⟨"java/lang/Object", "getClass", "()Ljava/lang/Class;"⟩, Cond.selects "[Ljava/lang/Object;" ⟨"java/lang/Object", "getClass", "()Ljava/lang/Class;"⟩ ⟨"java/lang/Object", "getClass", "()Ljava/lang/Class;"⟩, Cond.instanceMethod ⟨"java/lang/Object", "getClass", "()Ljava/lang/Class;"⟩, Cond.native ⟨"java/lang/Object", "getClass", "()Ljava/lang/Class;"⟩]
def wsL_law0_r14 : List Cond := [Cond.methodLink RJ7 300 yJ7_copyOf_6403c, Cond.static yJ7_copyOf_6403c, Cond.code yJ7_copyOf_6403c cJ7_copyOf_6403c 4 (some (.array (.object "java/lang/Object"))), Cond.classLink RJ7 110 "[Ljava/lang/Object;", Cond.classLink RJ7 2 "java/lang/Object", Cond.methodLink RJ7 304 Lib.Math.min.name, Cond.static Lib.Math.min.name, Cond.code Lib.Math.min.name Lib.Math.min.code 2 (some .int), Cond.methodLink RJ7 150 arraycopyName, Cond.native arraycopyName, Cond.static arraycopyName, Cond.initialized "java/lang/System", Cond.methodLink RL 91 yL_mark, Cond.static yL_mark, Cond.codeWith yL_mark cL_mark 7 (some .int) [(0, 11, 14, 34), (0, 11, 19, 14), (0, 11, 24, 16)], Cond.methodLink RL 30 yX3_mark, Cond.instanceMethod yX3_mark, Cond.selects RX3 yX3_mark yX3_mark, Cond.code yX3_mark cX3_mark 7 (some .int), Cond.fieldLink RX3 102 "ClauseShop$Contract" "marks" "[[I", Cond.methodLink RX3 89 yX3_checkDraft, Cond.static yX3_checkDraft, Cond.code yX3_checkDraft cX3_checkDraft 1 none, Cond.methodLink RX3 98 yX0_bringIn]
def wsL_law0_r15 : List Cond := [Cond.instanceMethod yX0_bringIn, Cond.selects RX0 yX0_bringIn yX0_bringIn, Cond.code yX0_bringIn cX0_bringIn 4 none, Cond.methodLink RX0 33 yX0_loseSignatures, Cond.instanceMethod yX0_loseSignatures, Cond.selects RX0 yX0_loseSignatures yX0_loseSignatures, Cond.code yX0_loseSignatures cX0_loseSignatures 1 none, Cond.methodLink RX3 106 yX0_changeMark, Cond.instanceMethod yX0_changeMark, Cond.selects RX0 yX0_changeMark yX0_changeMark, Cond.code yX0_changeMark cX0_changeMark 4 none, Cond.methodLink RL 94 yL_renew, Cond.static yL_renew, Cond.codeWith yL_renew cL_renew 6 (some .int) [(0, 9, 12, 34), (0, 9, 17, 14), (0, 9, 22, 16)], Cond.methodLink RL 36 yX3_renew, Cond.instanceMethod yX3_renew, Cond.selects RX3 yX3_renew yX3_renew, Cond.code yX3_renew cX3_renew 6 (some .int), Cond.methodLink RL 96 yL_sign, Cond.static yL_sign, Cond.codeWith yL_sign cL_sign 5 (some .int) [(0, 7, 10, 34), (0, 7, 15, 14), (0, 7, 20, 16)], Cond.methodLink RL 50 yX3_sign, Cond.instanceMethod yX3_sign, Cond.selects RX3 yX3_sign yX3_sign]
def wsL_law0_r16 : List Cond := [Cond.code yX3_sign cX3_sign 4 (some .int), Cond.fieldLink RX3 128 "ClauseShop$Contract" "signed" "[Z", Cond.methodLink RX3 134 yX3_makeDuties, Cond.instanceMethod yX3_makeDuties, Cond.selects RX3 yX3_makeDuties yX3_makeDuties, Cond.code yX3_makeDuties cX3_makeDuties 5 (some .int), Cond.classLink RX3 152 RX1, Cond.instantiable RX1 4, Cond.fieldLink RX3 232 "ClauseShop$Version" "days" "I", Cond.methodLink RX3 235 yX1_init, Cond.instanceMethod yX1_init, Cond.code yX1_init cX1_init 4 none, Cond.methodLink RX1 3 objectInit, Cond.fieldLink RX1 23 "ClauseShop$Duty" "day" "I", Cond.methodLink RL 161 yL_works, Cond.static yL_works, Cond.code yL_works cL_works 10 (some .boolean), Cond.methodLink RL 116 yL_pass, Cond.static yL_pass, Cond.codeWith yL_pass cL_pass 4 (some .int) [(0, 6, 9, 14), (0, 6, 13, 16)], Cond.methodLink RL 53 yX3_pass, Cond.instanceMethod yX3_pass, Cond.selects RX3 yX3_pass yX3_pass, Cond.code yX3_pass cX3_pass 4 (some .int)]
def wsL_law0_r17 : List Cond := [Cond.methodLink RX3 141 yX3_putOffHeldUpDuties, Cond.instanceMethod yX3_putOffHeldUpDuties, Cond.selects RX3 yX3_putOffHeldUpDuties yX3_putOffHeldUpDuties, Cond.code yX3_putOffHeldUpDuties cX3_putOffHeldUpDuties 3 none, Cond.methodLink RX3 144 yX3_breachUncuredDuties, Cond.instanceMethod yX3_breachUncuredDuties, Cond.selects RX3 yX3_breachUncuredDuties yX3_breachUncuredDuties, Cond.code yX3_breachUncuredDuties cX3_breachUncuredDuties 4 (some .int), Cond.methodLink RX3 167 yX1_move, Cond.instanceMethod yX1_move, Cond.selects RX1 yX1_move yX1_move, Cond.code yX1_move cX1_move 3 none, Cond.methodLink RX3 181 yX1_countBreach, Cond.instanceMethod yX1_countBreach, Cond.selects RX1 yX1_countBreach yX1_countBreach, Cond.code yX1_countBreach cX1_countBreach 2 none, Cond.fieldLink RX1 41 "ClauseShop$Contract" "penalties" "[I", Cond.fieldLink RX1 44 "ClauseShop$Version" "penalty" "I", Cond.methodLink RL 119 yL_passes, Cond.static yL_passes, Cond.code yL_passes cL_passes 11 (some .int), Cond.methodLink RL 123 yL_perform, Cond.static yL_perform, Cond.codeWith yL_perform cL_perform 4 (some .int) [(0, 6, 9, 34), (0, 6, 13, 16)]]
def wsL_law0_r18 : List Cond := [Cond.methodLink RL 62 yX3_perform, Cond.instanceMethod yX3_perform, Cond.selects RX3 yX3_perform yX3_perform, Cond.code yX3_perform cX3_perform 4 (some .boolean), Cond.methodLink RX3 162 yX1_canBeDone, Cond.methodLink RL 125 yL_notice, Cond.static yL_notice, Cond.codeWith yL_notice cL_notice 4 (some .int) [(0, 6, 9, 34), (0, 6, 13, 16)], Cond.methodLink RL 66 yX3_notice, Cond.instanceMethod yX3_notice, Cond.selects RX3 yX3_notice yX3_notice, Cond.code yX3_notice cX3_notice 3 (some .int), Cond.fieldLink RX3 172 "ClauseShop$Duty" "version" "LClauseShop$Version;", Cond.fieldLink RX3 176 "ClauseShop$Version" "cure" "I", Cond.methodLink RL 127 yL_settle, Cond.static yL_settle, Cond.codeWith yL_settle cL_settle 4 (some .int) [(0, 6, 9, 34), (0, 6, 13, 16)], Cond.methodLink RL 69 yX3_settle, Cond.instanceMethod yX3_settle, Cond.selects RX3 yX3_settle yX3_settle, Cond.code yX3_settle cX3_settle 3 (some .int), Cond.fieldLink RX3 184 "ClauseShop$Version" "penalty" "I"]
def wsL_law0 : List Cond := (wsL_law0_r1 ++ (wsL_law0_r2 ++ (wsL_law0_r3 ++ (wsL_law0_r4 ++ (wsL_law0_r5 ++ (wsL_law0_r6 ++ (wsL_law0_r7 ++ (wsL_law0_r8 ++ (wsL_law0_r9 ++ (wsL_law0_r10 ++ (wsL_law0_r11 ++ (wsL_law0_r12 ++ (wsL_law0_r13 ++ (wsL_law0_r14 ++ (wsL_law0_r15 ++ (wsL_law0_r16 ++ (wsL_law0_r17 ++ wsL_law0_r18))))))))))))))))) ++ wsX30 ++ wsJx4a65c0 ++ wsX20 ++ wsX00 ++ wsX10 ++ ([] : List Cond)
def wsL_law : List Cond := wsL_law0 ++ (vx_atS RX3 51 "java/lang/IllegalArgumentException" ["java/lang/RuntimeException", "java/lang/Exception"]).filter goodWord ++ (vx_atS RX3 208 "java/lang/IndexOutOfBoundsException" ["java/lang/RuntimeException", "java/lang/Exception"]).filter goodWord ++ (vx_atS RX3 62 "java/lang/IllegalStateException" ["java/lang/RuntimeException", "java/lang/Exception"]).filter goodWord
abbrev vwCl : List vw_C := [(RJx4a65c, TJx4a65c, 3), (RX0, TX0, 5), (RX1, TX1, 4), (RX2, TX2, 5), (RX3, TX3, 6)]
/-! THE CLAIM OUT OF ONE WALK OF THE LAW'S BODY. Your part is whole_start (and what it stands on); all else here is the same for every law, but numbers. -/
def R_law : String := "ClauseShopLaw"
def lw_P (b : Addr) (xs : List Int32) (args : Array Value) (s : State) : Prop := args = #[.ref b] ∧ s.IntsAt b xs ∧ xs.length ≤ 260 ∧ (Jvm.Cond.and given_1 narrow_1).before args s = true
def lw_Q (_ : Array Value) (s : State) (o : Outcome) (t : State) : Prop := o = .returned (some (.int 1)) ∧ Framed s o t [] 683262 7051911
def lw_Z (below : List Frame) (a : Array Value) (s : State) : State → Prop := fun t => ∃ o, t.status = .running ∧ Ended t below o ∧ lw_Q a s o t
/-- the law's own end, with 1 on the stack, nothing written that was there before, its room as the claim has it -/
theorem lw_ret {p : Program} {l : Launch} {e : Env} {s : State} {m : MethodId} {below : List Frame} {meth : Method} {c : Code} {b : Nat} (hx : p.tables.exec = Jvm.exec) (hb : c.code = code) (hr : meth.sig.returnType = ret) (hlocks : meth.locks = false) {pc : Nat} {H : Heap} {ls : Array Slot} (hdg : decode code pc = .ok (.ireturn, 1)) : W p l e room_1 s m #[Value.ref b] below meth c H [] 683262 7051911 (lw_Z below #[Value.ref b] s) (F0 m pc ls [.int 1]) := by
  intro T hT X
  obtain ⟨fs, hret, hrun, hended, hW, hframe⟩ := X.leave (v := some (.int 1)) (hlocks := hlocks) (fun h => by rw [hr] at h; cases h)
  have hmeth' : T.vm.method? m = some meth := X.method'
  refine ⟨T.setFrames fs, ?_, .returned (some (.int 1)), hrun, hended, rfl, ⟨_, rfl⟩, hW, hframe⟩
  jvm_step X.here [X.here.top, hx, hb, hdg, hmeth', hr, ret, narrow_b1]
  (try refine ⟨rfl, ?_⟩); (try refine ⟨rfl, ?_⟩)
  first | (intro acts; rw [hret _ acts rfl rfl rfl]) | rw [hret _ _ rfl rfl rfl]
  exact Steps.refl _
/-- what holds at the law's entry: the machine, the code, the tables' words (any of lw_tbl by 'hts w (by decide +kernel)'), the script of L ints xs at the cell b, what the Statement gives of the start (any of its parts by flat_of_before) -/
def lw_At (p : Program) (s : State) (m : MethodId) (meth : Method) (c : Code) (b L : Nat) (xs : Nat → Int32) : Prop :=
  p.tables.exec = Jvm.exec ∧ c.code = code ∧ meth.sig.returnType = ret ∧ c.maxLocals = 15 ∧ s.vm.findClass R_law = some m.cls ∧ (∀ w ∈ lw_tbl, w.before #[Value.ref b] s = true) ∧ va_X b L xs s s.heap ∧ b < s.heap.size ∧ meth.locks = false ∧ (Jvm.Cond.and given_1 narrow_1).before #[Value.ref b] s = true
end
section
set_option maxRecDepth 20000 in
theorem wsL_law_c1 : ∀ w ∈ wsL_law0_r1, w ∈ lw_tbl := fun w h => (goodIn_p wsL_law0_r1 [36, 39, 46] (by decide +kernel) (by decide +kernel) w h).1
set_option maxRecDepth 20000 in
theorem wsL_law_c2 : ∀ w ∈ wsL_law0_r2, w ∈ lw_tbl := fun w h => (goodIn_p wsL_law0_r2 [49, 52, 600, 607] (by decide +kernel) (by decide +kernel) w h).1
set_option maxRecDepth 20000 in
theorem wsL_law_c3 : ∀ w ∈ wsL_law0_r3, w ∈ lw_tbl := fun w h => (goodIn_p wsL_law0_r3 [110, 113, 190, 193, 485] (by decide +kernel) (by decide +kernel) w h).1
set_option maxRecDepth 20000 in
theorem wsL_law_c4 : ∀ w ∈ wsL_law0_r4, w ∈ lw_tbl := fun w h => (goodIn_p wsL_law0_r4 [362, 262, 382, 385, 388] (by decide +kernel) (by decide +kernel) w h).1
set_option maxRecDepth 20000 in
theorem wsL_law_c5 : ∀ w ∈ wsL_law0_r5, w ∈ lw_tbl := fun w h => (goodIn_p wsL_law0_r5 [392, 428, 492, 400] (by decide +kernel) (by decide +kernel) w h).1
set_option maxRecDepth 20000 in
theorem wsL_law_c6 : ∀ w ∈ wsL_law0_r6, w ∈ lw_tbl := fun w h => (goodIn_p wsL_law0_r6 [425, 499, 440, 444, 448] (by decide +kernel) (by decide +kernel) w h).1
set_option maxRecDepth 20000 in
theorem wsL_law_c7 : ∀ w ∈ wsL_law0_r7, w ∈ lw_tbl := fun w h => (goodIn_p wsL_law0_r7 [451, 510, 506, 317, 184] (by decide +kernel) (by decide +kernel) w h).1
set_option maxRecDepth 20000 in
theorem wsL_law_c8 : ∀ w ∈ wsL_law0_r8, w ∈ lw_tbl := fun w h => (goodIn_p wsL_law0_r8 [590, 564, 597, 611] (by decide +kernel) (by decide +kernel) w h).1
set_option maxRecDepth 20000 in
theorem wsL_law_c9 : ∀ w ∈ wsL_law0_r9, w ∈ lw_tbl := fun w h => (goodIn_p wsL_law0_r9 [530, 534, 614, 553, 618, 90] (by decide +kernel) (by decide +kernel) w h).1
set_option maxRecDepth 20000 in
theorem wsL_law_c10 : ∀ w ∈ wsL_law0_r10, w ∈ lw_tbl := fun w h => (goodIn_p wsL_law0_r10 [94, 97, 107, 213] (by decide +kernel) (by decide +kernel) w h).1
def wsL_law0_r11a : List Cond := [Cond.fieldLink RX2 7 "ClauseShop$Version" "number" "I", Cond.fieldLink RX2 13 "ClauseShop$Version" "obligor" "I", Cond.fieldLink RX2 16 "ClauseShop$Version" "days" "I", Cond.fieldLink RX2 19 "ClauseShop$Version" "cure" "I", Cond.fieldLink RX2 22 "ClauseShop$Version" "penalty" "I", Cond.methodLink RL 85 yL_relate, Cond.static yL_relate, Cond.codeWith yL_relate cL_relate 5 (some .int) [(0, 7, 10, 14)], Cond.methodLink RL 18 yX3_relate, Cond.instanceMethod yX3_relate, Cond.selects RX3 yX3_relate yX3_relate, Cond.code yX3_relate cX3_relate 4 none, Cond.methodLink RX3 66 yX3_checkOtherClauses, Cond.static yX3_checkOtherClauses, Cond.code yX3_checkOtherClauses cX3_checkOtherClauses 2 none, Cond.methodLink RL 157 yL_drafts, Cond.static yL_drafts]
set_option maxRecDepth 20000 in
theorem wsL_law_c11a : ∀ w ∈ wsL_law0_r11a, w ∈ lw_tbl := fun w h => (goodIn_p wsL_law0_r11a [244, 247] (by decide +kernel) (by decide +kernel) w h).1
def wsL_law0_r11b : List Cond := [Cond.methodLink RL 88 yL_begin, Cond.static yL_begin, Cond.codeWith yL_begin cL_begin 3 (some .int) [(0, 5, 8, 16)], Cond.methodLink RL 26 yX3_begin, Cond.instanceMethod yX3_begin, Cond.selects RX3 yX3_begin yX3_begin]
set_option maxRecDepth 20000 in
theorem wsL_law_c11b : ∀ w ∈ wsL_law0_r11b, w ∈ lw_tbl := fun w h => (goodIn_p wsL_law0_r11b [] (by decide +kernel) (by decide +kernel) w h).1
set_option maxRecDepth 20000 in
theorem wsL_law_c11m : Cond.code yL_drafts cL_drafts 21 (some .boolean) ∈ lw_tbl := List.mem_of_getElem? (i := 251) rfl
set_option maxRecDepth 20000 in
theorem wsL_law_c11e : wsL_law0_r11 = wsL_law0_r11a ++ (Cond.code yL_drafts cL_drafts 21 (some .boolean) :: wsL_law0_r11b) := rfl
theorem wsL_law_c11 : ∀ w ∈ wsL_law0_r11, w ∈ lw_tbl := fun w h => (List.mem_append.mp (show w ∈ wsL_law0_r11a ++ (Cond.code yL_drafts cL_drafts 21 (some .boolean) :: wsL_law0_r11b) from wsL_law_c11e ▸ h)).elim (fun h => wsL_law_c11a w h) (fun h => (List.mem_cons.mp h).elim (fun h => h ▸ wsL_law_c11m) (fun h => wsL_law_c11b w h))
set_option maxRecDepth 20000 in
theorem wsL_law_c12 : ∀ w ∈ wsL_law0_r12, w ∈ lw_tbl := fun w h => (goodIn_p wsL_law0_r12 [258, 268, 299, 303] (by decide +kernel) (by decide +kernel) w h).1
set_option maxRecDepth 20000 in
theorem wsL_law_c13 : ∀ w ∈ wsL_law0_r13, w ∈ lw_tbl := fun w h => (goodIn_p wsL_law0_r13 [307, 311, 314, 321, 324] (by decide +kernel) (by decide +kernel) w h).1
set_option maxRecDepth 20000 in
theorem wsL_law_c14 : ∀ w ∈ wsL_law0_r14, w ∈ lw_tbl := fun w h => (goodIn_p wsL_law0_r14 [339, 345, 358, 396] (by decide +kernel) (by decide +kernel) w h).1
set_option maxRecDepth 20000 in
theorem wsL_law_c15 : ∀ w ∈ wsL_law0_r15, w ∈ lw_tbl := fun w h => (goodIn_p wsL_law0_r15 [406, 410, 414, 421] (by decide +kernel) (by decide +kernel) w h).1
def wsL_law0_r16a : List Cond := [Cond.code yX3_sign cX3_sign 4 (some .int), Cond.fieldLink RX3 128 "ClauseShop$Contract" "signed" "[Z", Cond.methodLink RX3 134 yX3_makeDuties, Cond.instanceMethod yX3_makeDuties, Cond.selects RX3 yX3_makeDuties yX3_makeDuties, Cond.code yX3_makeDuties cX3_makeDuties 5 (some .int), Cond.classLink RX3 152 RX1, Cond.instantiable RX1 4, Cond.fieldLink RX3 232 "ClauseShop$Version" "days" "I", Cond.methodLink RX3 235 yX1_init, Cond.instanceMethod yX1_init, Cond.code yX1_init cX1_init 4 none, Cond.methodLink RX1 3 objectInit, Cond.fieldLink RX1 23 "ClauseShop$Duty" "day" "I", Cond.methodLink RL 161 yL_works, Cond.static yL_works]
set_option maxRecDepth 20000 in
theorem wsL_law_c16a : ∀ w ∈ wsL_law0_r16a, w ∈ lw_tbl := fun w h => (goodIn_p wsL_law0_r16a [436, 456, 461] (by decide +kernel) (by decide +kernel) w h).1
def wsL_law0_r16b : List Cond := [Cond.methodLink RL 116 yL_pass, Cond.static yL_pass, Cond.codeWith yL_pass cL_pass 4 (some .int) [(0, 6, 9, 14), (0, 6, 13, 16)], Cond.methodLink RL 53 yX3_pass, Cond.instanceMethod yX3_pass, Cond.selects RX3 yX3_pass yX3_pass, Cond.code yX3_pass cX3_pass 4 (some .int)]
set_option maxRecDepth 20000 in
theorem wsL_law_c16b : ∀ w ∈ wsL_law0_r16b, w ∈ lw_tbl := fun w h => (goodIn_p wsL_law0_r16b [520] (by decide +kernel) (by decide +kernel) w h).1
set_option maxRecDepth 20000 in
theorem wsL_law_c16m : Cond.code yL_works cL_works 10 (some .boolean) ∈ lw_tbl := List.mem_of_getElem? (i := 513) rfl
set_option maxRecDepth 20000 in
theorem wsL_law_c16e : wsL_law0_r16 = wsL_law0_r16a ++ (Cond.code yL_works cL_works 10 (some .boolean) :: wsL_law0_r16b) := rfl
theorem wsL_law_c16 : ∀ w ∈ wsL_law0_r16, w ∈ lw_tbl := fun w h => (List.mem_append.mp (show w ∈ wsL_law0_r16a ++ (Cond.code yL_works cL_works 10 (some .boolean) :: wsL_law0_r16b) from wsL_law_c16e ▸ h)).elim (fun h => wsL_law_c16a w h) (fun h => (List.mem_cons.mp h).elim (fun h => h ▸ wsL_law_c16m) (fun h => wsL_law_c16b w h))
set_option maxRecDepth 20000 in
theorem wsL_law_c17 : ∀ w ∈ wsL_law0_r17, w ∈ lw_tbl := fun w h => (goodIn_p wsL_law0_r17 [526, 538, 542, 546, 550] (by decide +kernel) (by decide +kernel) w h).1
set_option maxRecDepth 20000 in
theorem wsL_law_c18 : ∀ w ∈ wsL_law0_r18, w ∈ lw_tbl := fun w h => (goodIn_p wsL_law0_r18 [560, 574, 582] (by decide +kernel) (by decide +kernel) w h).1
set_option maxRecDepth 20000 in
theorem wsL_law_fX3 : ∀ w ∈ wsX30, w ∈ lw_tbl := fun w h => (goodIn_p wsX30 [] (by decide +kernel) (by decide +kernel) w h).1
set_option maxRecDepth 20000 in
theorem wsL_law_fJx4a65c : ∀ w ∈ wsJx4a65c0, w ∈ lw_tbl := fun w h => (goodIn_p wsJx4a65c0 [] (by decide +kernel) (by decide +kernel) w h).1
set_option maxRecDepth 20000 in
theorem wsL_law_fX2 : ∀ w ∈ wsX20, w ∈ lw_tbl := fun w h => (goodIn_p wsX20 [] (by decide +kernel) (by decide +kernel) w h).1
set_option maxRecDepth 20000 in
theorem wsL_law_fX0 : ∀ w ∈ wsX00, w ∈ lw_tbl := fun w h => (goodIn_p wsX00 [] (by decide +kernel) (by decide +kernel) w h).1
set_option maxRecDepth 20000 in
theorem wsL_law_fX1 : ∀ w ∈ wsX10, w ∈ lw_tbl := fun w h => (goodIn_p wsX10 [] (by decide +kernel) (by decide +kernel) w h).1
theorem wsL_law_cc : ∀ w ∈ (wsL_law0_r1 ++ (wsL_law0_r2 ++ (wsL_law0_r3 ++ (wsL_law0_r4 ++ (wsL_law0_r5 ++ (wsL_law0_r6 ++ (wsL_law0_r7 ++ (wsL_law0_r8 ++ (wsL_law0_r9 ++ (wsL_law0_r10 ++ (wsL_law0_r11 ++ (wsL_law0_r12 ++ (wsL_law0_r13 ++ (wsL_law0_r14 ++ (wsL_law0_r15 ++ (wsL_law0_r16 ++ (wsL_law0_r17 ++ wsL_law0_r18))))))))))))))))), w ∈ lw_tbl := fun w => (fun h => (List.mem_append.mp h).elim (fun h => wsL_law_c1 w h) (fun h => (List.mem_append.mp h).elim (fun h => wsL_law_c2 w h) (fun h => (List.mem_append.mp h).elim (fun h => wsL_law_c3 w h) (fun h => (List.mem_append.mp h).elim (fun h => wsL_law_c4 w h) (fun h => (List.mem_append.mp h).elim (fun h => wsL_law_c5 w h) (fun h => (List.mem_append.mp h).elim (fun h => wsL_law_c6 w h) (fun h => (List.mem_append.mp h).elim (fun h => wsL_law_c7 w h) (fun h => (List.mem_append.mp h).elim (fun h => wsL_law_c8 w h) (fun h => (List.mem_append.mp h).elim (fun h => wsL_law_c9 w h) (fun h => (List.mem_append.mp h).elim (fun h => wsL_law_c10 w h) (fun h => (List.mem_append.mp h).elim (fun h => wsL_law_c11 w h) (fun h => (List.mem_append.mp h).elim (fun h => wsL_law_c12 w h) (fun h => (List.mem_append.mp h).elim (fun h => wsL_law_c13 w h) (fun h => (List.mem_append.mp h).elim (fun h => wsL_law_c14 w h) (fun h => (List.mem_append.mp h).elim (fun h => wsL_law_c15 w h) (fun h => (List.mem_append.mp h).elim (fun h => wsL_law_c16 w h) (fun h => (List.mem_append.mp h).elim (fun h => wsL_law_c17 w h) (fun h => wsL_law_c18 w h))))))))))))))))))
theorem wsL_law_in0 : ∀ w ∈ wsL_law0, w ∈ lw_tbl := fun w h => (List.mem_append.mp h).elim (fun h => (List.mem_append.mp h).elim (fun h => (List.mem_append.mp h).elim (fun h => (List.mem_append.mp h).elim (fun h => (List.mem_append.mp h).elim (fun h => (List.mem_append.mp h).elim (fun h => wsL_law_cc w h) (fun h => wsL_law_fX3 w h)) (fun h => wsL_law_fJx4a65c w h)) (fun h => wsL_law_fX2 w h)) (fun h => wsL_law_fX0 w h)) (fun h => wsL_law_fX1 w h)) (fun h => absurd h List.not_mem_nil)
theorem wsL_law_x0 : ∀ w ∈ (vx_atS RX3 51 "java/lang/IllegalArgumentException" ["java/lang/RuntimeException", "java/lang/Exception"]).filter goodWord, w ∈ lw_tbl := by decide +kernel
theorem wsL_law_x1 : ∀ w ∈ (vx_atS RX3 208 "java/lang/IndexOutOfBoundsException" ["java/lang/RuntimeException", "java/lang/Exception"]).filter goodWord, w ∈ lw_tbl := by decide +kernel
theorem wsL_law_x2 : ∀ w ∈ (vx_atS RX3 62 "java/lang/IllegalStateException" ["java/lang/RuntimeException", "java/lang/Exception"]).filter goodWord, w ∈ lw_tbl := by decide +kernel
theorem wsL_law_in : ∀ w ∈ wsL_law, w ∈ lw_tbl := fun w h => (List.mem_append.mp h).elim (fun h => (List.mem_append.mp h).elim (fun h => (List.mem_append.mp h).elim (fun h => wsL_law_in0 w h) (fun h => wsL_law_x0 w h)) (fun h => wsL_law_x1 w h)) (fun h => wsL_law_x2 w h)
theorem inlX0 : ∀ w ∈ wsX00, w ∈ wsL_law := fun _ h => List.mem_append_left _ (List.mem_append_left _ (List.mem_append_left _ (List.mem_append_left _ (List.mem_append_left _ (List.mem_append_right _ h)))))
theorem inX0 : ∀ w ∈ wsX00, w ∈ lw_tbl := fun w h => wsL_law_in w (inlX0 w h)
theorem inlX1 : ∀ w ∈ wsX10, w ∈ wsL_law := fun _ h => List.mem_append_left _ (List.mem_append_left _ (List.mem_append_left _ (List.mem_append_left _ (List.mem_append_right _ h))))
theorem inX1 : ∀ w ∈ wsX10, w ∈ lw_tbl := fun w h => wsL_law_in w (inlX1 w h)
theorem inlX2 : ∀ w ∈ wsX20, w ∈ wsL_law := fun _ h => List.mem_append_left _ (List.mem_append_left _ (List.mem_append_left _ (List.mem_append_left _ (List.mem_append_left _ (List.mem_append_left _ (List.mem_append_right _ h))))))
theorem inX2 : ∀ w ∈ wsX20, w ∈ lw_tbl := fun w h => wsL_law_in w (inlX2 w h)
theorem inlX3 : ∀ w ∈ wsX30, w ∈ wsL_law := fun _ h => List.mem_append_left _ (List.mem_append_left _ (List.mem_append_left _ (List.mem_append_left _ (List.mem_append_left _ (List.mem_append_left _ (List.mem_append_left _ (List.mem_append_left _ (List.mem_append_right _ h))))))))
theorem inX3 : ∀ w ∈ wsX30, w ∈ lw_tbl := fun w h => wsL_law_in w (inlX3 w h)
theorem inX4 : ∀ w ∈ wsX40, w ∈ lw_tbl := by decide +kernel
theorem inJx145de : ∀ w ∈ wsJx145de0, w ∈ lw_tbl := by decide +kernel
theorem inJx8e188 : ∀ w ∈ wsJx8e1880, w ∈ lw_tbl := by decide +kernel
theorem inJxab1ab : ∀ w ∈ wsJxab1ab0, w ∈ lw_tbl := by decide +kernel
theorem inJ9 : ∀ w ∈ wsJ90, w ∈ lw_tbl := by decide +kernel
theorem inJ0 : ∀ w ∈ wsJ00, w ∈ lw_tbl := by decide +kernel
theorem inJ10 : ∀ w ∈ wsJ100, w ∈ lw_tbl := by decide +kernel
theorem inJxa1e45 : ∀ w ∈ wsJxa1e450, w ∈ lw_tbl := by decide +kernel
theorem inJxc12de : ∀ w ∈ wsJxc12de0, w ∈ lw_tbl := by decide +kernel
theorem inlJx4a65c : ∀ w ∈ wsJx4a65c0, w ∈ wsL_law := fun _ h => List.mem_append_left _ (List.mem_append_left _ (List.mem_append_left _ (List.mem_append_left _ (List.mem_append_left _ (List.mem_append_left _ (List.mem_append_left _ (List.mem_append_right _ h)))))))
theorem inJx4a65c : ∀ w ∈ wsJx4a65c0, w ∈ lw_tbl := fun w h => wsL_law_in w (inlJx4a65c w h)
theorem inJ7 : ∀ w ∈ wsJ70, w ∈ lw_tbl := by decide +kernel
theorem inJx5ef63 : ∀ w ∈ wsJx5ef630, w ∈ lw_tbl := by decide +kernel
theorem inJxbd725 : ∀ w ∈ wsJxbd7250, w ∈ lw_tbl := by decide +kernel
theorem inJ15 : ∀ w ∈ wsJ150, w ∈ lw_tbl := by decide +kernel
theorem inJxf0a74 : ∀ w ∈ wsJxf0a740, w ∈ lw_tbl := by decide +kernel
theorem inJxa66e6 : ∀ w ∈ wsJxa66e60, w ∈ lw_tbl := by decide +kernel
theorem inJ8 : ∀ w ∈ wsJ80, w ∈ lw_tbl := by decide +kernel
theorem inJ3 : ∀ w ∈ wsJ30, w ∈ lw_tbl := by decide +kernel
end
section
theorem dX0_init_0 : decode cX0_init 0 = .ok (.aload_n 0, 1) := by decide +kernel
theorem dX0_init_1 : decode cX0_init 1 = .ok (.invokespecial 3, 3) := by decide +kernel
theorem dX0_init_4 : decode cX0_init 4 = .ok (.aload_n 0, 1) := by decide +kernel
theorem dX0_init_5 : decode cX0_init 5 = .ok (.bipush 10, 2) := by decide +kernel
theorem dX0_init_7 : decode cX0_init 7 = .ok (.anewarray 9, 3) := by decide +kernel
theorem dX0_init_10 : decode cX0_init 10 = .ok (.putfield 11, 3) := by decide +kernel
theorem dX0_init_13 : decode cX0_init 13 = .ok (.aload_n 0, 1) := by decide +kernel
theorem dX0_init_14 : decode cX0_init 14 = .ok (.iconst 2, 1) := by decide +kernel
theorem dX0_init_15 : decode cX0_init 15 = .ok (.bipush 10, 2) := by decide +kernel
theorem dX0_init_17 : decode cX0_init 17 = .ok (.multianewarray 17 2, 4) := by decide +kernel
theorem dX0_init_21 : decode cX0_init 21 = .ok (.putfield 19, 3) := by decide +kernel
theorem dX0_init_24 : decode cX0_init 24 = .ok (.aload_n 0, 1) := by decide +kernel
theorem dX0_init_25 : decode cX0_init 25 = .ok (.iconst 2, 1) := by decide +kernel
theorem dX0_init_26 : decode cX0_init 26 = .ok (.newarray .boolean, 2) := by decide +kernel
theorem dX0_init_28 : decode cX0_init 28 = .ok (.putfield 22, 3) := by decide +kernel
theorem dX0_init_31 : decode cX0_init 31 = .ok (.aload_n 0, 1) := by decide +kernel
theorem dX0_init_32 : decode cX0_init 32 = .ok (.iconst 2, 1) := by decide +kernel
theorem dX0_init_33 : decode cX0_init 33 = .ok (.newarray .int, 2) := by decide +kernel
theorem dX0_init_35 : decode cX0_init 35 = .ok (.putfield 26, 3) := by decide +kernel
theorem dX0_init_38 : decode cX0_init 38 = .ok (.aload_n 0, 1) := by decide +kernel
theorem dX0_init_39 : decode cX0_init 39 = .ok (.iconst 2, 1) := by decide +kernel
theorem dX0_init_40 : decode cX0_init 40 = .ok (.newarray .int, 2) := by decide +kernel
theorem dX0_init_42 : decode cX0_init 42 = .ok (.putfield 30, 3) := by decide +kernel
theorem dX0_init_45 : decode cX0_init 45 = .ok (.return_, 1) := by decide +kernel
theorem dX0_isDraft_0 : decode cX0_isDraft 0 = .ok (.aload_n 0, 1) := by decide +kernel
theorem dX0_isDraft_1 : decode cX0_isDraft 1 = .ok (.getfield 22, 3) := by decide +kernel
theorem dX0_isDraft_4 : decode cX0_isDraft 4 = .ok (.iconst 0, 1) := by decide +kernel
theorem dX0_isDraft_5 : decode cX0_isDraft 5 = .ok (.baload, 1) := by decide +kernel
theorem dX0_isDraft_6 : decode cX0_isDraft 6 = .ok (.ifCond .eq 12, 3) := by decide +kernel
theorem dX0_isDraft_9 : decode cX0_isDraft 9 = .ok (.aload_n 0, 1) := by decide +kernel
theorem dX0_isDraft_10 : decode cX0_isDraft 10 = .ok (.getfield 22, 3) := by decide +kernel
theorem dX0_isDraft_13 : decode cX0_isDraft 13 = .ok (.iconst 1, 1) := by decide +kernel
theorem dX0_isDraft_14 : decode cX0_isDraft 14 = .ok (.baload, 1) := by decide +kernel
theorem dX0_isDraft_15 : decode cX0_isDraft 15 = .ok (.ifCond .ne 7, 3) := by decide +kernel
theorem dX0_isDraft_18 : decode cX0_isDraft 18 = .ok (.iconst 1, 1) := by decide +kernel
theorem dX0_isDraft_19 : decode cX0_isDraft 19 = .ok (.goto 4, 3) := by decide +kernel
theorem dX0_isDraft_22 : decode cX0_isDraft 22 = .ok (.iconst 0, 1) := by decide +kernel
theorem dX0_isDraft_23 : decode cX0_isDraft 23 = .ok (.ireturn, 1) := by decide +kernel
theorem dX0_loseSignatures_0 : decode cX0_loseSignatures 0 = .ok (.aload_n 0, 1) := by decide +kernel
theorem dX0_loseSignatures_1 : decode cX0_loseSignatures 1 = .ok (.getfield 22, 3) := by decide +kernel
theorem dX0_loseSignatures_4 : decode cX0_loseSignatures 4 = .ok (.iconst 0, 1) := by decide +kernel
theorem dX0_loseSignatures_5 : decode cX0_loseSignatures 5 = .ok (.iconst 0, 1) := by decide +kernel
theorem dX0_loseSignatures_6 : decode cX0_loseSignatures 6 = .ok (.bastore, 1) := by decide +kernel
theorem dX0_loseSignatures_7 : decode cX0_loseSignatures 7 = .ok (.aload_n 0, 1) := by decide +kernel
theorem dX0_loseSignatures_8 : decode cX0_loseSignatures 8 = .ok (.getfield 22, 3) := by decide +kernel
theorem dX0_loseSignatures_11 : decode cX0_loseSignatures 11 = .ok (.iconst 1, 1) := by decide +kernel
theorem dX0_loseSignatures_12 : decode cX0_loseSignatures 12 = .ok (.iconst 0, 1) := by decide +kernel
theorem dX0_loseSignatures_13 : decode cX0_loseSignatures 13 = .ok (.bastore, 1) := by decide +kernel
theorem dX0_loseSignatures_14 : decode cX0_loseSignatures 14 = .ok (.return_, 1) := by decide +kernel
set_option maxRecDepth 20000 in
theorem ggX0_bringIn_X0_loseSignatures : GoodIn wsX0_bringIn wsX0_loseSignatures := goodIn_r _ [7, 8, 9, 10, 11, 12, 13] (by decide +kernel) (by decide +kernel)
set_option maxRecDepth 20000 in
theorem gX0_bringIn_X0_loseSignatures : GoodIn wsX0_bringIn (wsV RX0 33 RX0 yX0_loseSignatures wsX0_loseSignatures) := goodIn_app (goodIn_of _ (by decide +kernel)) ggX0_bringIn_X0_loseSignatures
theorem dX0_bringIn_0 : decode cX0_bringIn 0 = .ok (.aload_n 0, 1) := by decide +kernel
theorem dX0_bringIn_1 : decode cX0_bringIn 1 = .ok (.getfield 11, 3) := by decide +kernel
theorem dX0_bringIn_4 : decode cX0_bringIn 4 = .ok (.iload_n 2, 1) := by decide +kernel
theorem dX0_bringIn_5 : decode cX0_bringIn 5 = .ok (.aload_n 1, 1) := by decide +kernel
theorem dX0_bringIn_6 : decode cX0_bringIn 6 = .ok (.aastore, 1) := by decide +kernel
theorem dX0_bringIn_7 : decode cX0_bringIn 7 = .ok (.aload_n 0, 1) := by decide +kernel
theorem dX0_bringIn_8 : decode cX0_bringIn 8 = .ok (.getfield 19, 3) := by decide +kernel
theorem dX0_bringIn_11 : decode cX0_bringIn 11 = .ok (.iload_n 3, 1) := by decide +kernel
theorem dX0_bringIn_12 : decode cX0_bringIn 12 = .ok (.aaload, 1) := by decide +kernel
theorem dX0_bringIn_13 : decode cX0_bringIn 13 = .ok (.iload_n 2, 1) := by decide +kernel
theorem dX0_bringIn_14 : decode cX0_bringIn 14 = .ok (.iconst 1, 1) := by decide +kernel
theorem dX0_bringIn_15 : decode cX0_bringIn 15 = .ok (.iastore, 1) := by decide +kernel
theorem dX0_bringIn_16 : decode cX0_bringIn 16 = .ok (.aload_n 0, 1) := by decide +kernel
theorem dX0_bringIn_17 : decode cX0_bringIn 17 = .ok (.getfield 19, 3) := by decide +kernel
theorem dX0_bringIn_20 : decode cX0_bringIn 20 = .ok (.iconst 1, 1) := by decide +kernel
theorem dX0_bringIn_21 : decode cX0_bringIn 21 = .ok (.iload_n 3, 1) := by decide +kernel
theorem dX0_bringIn_22 : decode cX0_bringIn 22 = .ok (.isub, 1) := by decide +kernel
theorem dX0_bringIn_23 : decode cX0_bringIn 23 = .ok (.aaload, 1) := by decide +kernel
theorem dX0_bringIn_24 : decode cX0_bringIn 24 = .ok (.iload_n 2, 1) := by decide +kernel
theorem dX0_bringIn_25 : decode cX0_bringIn 25 = .ok (.iconst 0, 1) := by decide +kernel
theorem dX0_bringIn_26 : decode cX0_bringIn 26 = .ok (.iastore, 1) := by decide +kernel
theorem dX0_bringIn_27 : decode cX0_bringIn 27 = .ok (.aload_n 0, 1) := by decide +kernel
theorem dX0_bringIn_28 : decode cX0_bringIn 28 = .ok (.invokevirtual 33, 3) := by decide +kernel
theorem dX0_bringIn_31 : decode cX0_bringIn 31 = .ok (.return_, 1) := by decide +kernel
set_option maxRecDepth 20000 in
theorem ggX0_changeMark_X0_loseSignatures : GoodIn wsX0_changeMark wsX0_loseSignatures := goodIn_r _ [7, 8, 9, 10, 11, 12, 13] (by decide +kernel) (by decide +kernel)
set_option maxRecDepth 20000 in
theorem gX0_changeMark_X0_loseSignatures : GoodIn wsX0_changeMark (wsV RX0 33 RX0 yX0_loseSignatures wsX0_loseSignatures) := goodIn_app (goodIn_of _ (by decide +kernel)) ggX0_changeMark_X0_loseSignatures
theorem dX0_changeMark_0 : decode cX0_changeMark 0 = .ok (.aload_n 0, 1) := by decide +kernel
theorem dX0_changeMark_1 : decode cX0_changeMark 1 = .ok (.getfield 19, 3) := by decide +kernel
theorem dX0_changeMark_4 : decode cX0_changeMark 4 = .ok (.iload_n 1, 1) := by decide +kernel
theorem dX0_changeMark_5 : decode cX0_changeMark 5 = .ok (.aaload, 1) := by decide +kernel
theorem dX0_changeMark_6 : decode cX0_changeMark 6 = .ok (.iload_n 2, 1) := by decide +kernel
theorem dX0_changeMark_7 : decode cX0_changeMark 7 = .ok (.iaload, 1) := by decide +kernel
theorem dX0_changeMark_8 : decode cX0_changeMark 8 = .ok (.iload_n 3, 1) := by decide +kernel
theorem dX0_changeMark_9 : decode cX0_changeMark 9 = .ok (.if_icmp .ne 4, 3) := by decide +kernel
theorem dX0_changeMark_12 : decode cX0_changeMark 12 = .ok (.return_, 1) := by decide +kernel
theorem dX0_changeMark_13 : decode cX0_changeMark 13 = .ok (.aload_n 0, 1) := by decide +kernel
theorem dX0_changeMark_14 : decode cX0_changeMark 14 = .ok (.getfield 19, 3) := by decide +kernel
theorem dX0_changeMark_17 : decode cX0_changeMark 17 = .ok (.iload_n 1, 1) := by decide +kernel
theorem dX0_changeMark_18 : decode cX0_changeMark 18 = .ok (.aaload, 1) := by decide +kernel
theorem dX0_changeMark_19 : decode cX0_changeMark 19 = .ok (.iload_n 2, 1) := by decide +kernel
theorem dX0_changeMark_20 : decode cX0_changeMark 20 = .ok (.iload_n 3, 1) := by decide +kernel
theorem dX0_changeMark_21 : decode cX0_changeMark 21 = .ok (.iastore, 1) := by decide +kernel
theorem dX0_changeMark_22 : decode cX0_changeMark 22 = .ok (.aload_n 0, 1) := by decide +kernel
theorem dX0_changeMark_23 : decode cX0_changeMark 23 = .ok (.invokevirtual 33, 3) := by decide +kernel
theorem dX0_changeMark_26 : decode cX0_changeMark 26 = .ok (.aload_n 0, 1) := by decide +kernel
theorem dX0_changeMark_27 : decode cX0_changeMark 27 = .ok (.getfield 19, 3) := by decide +kernel
theorem dX0_changeMark_30 : decode cX0_changeMark 30 = .ok (.iconst 0, 1) := by decide +kernel
theorem dX0_changeMark_31 : decode cX0_changeMark 31 = .ok (.aaload, 1) := by decide +kernel
theorem dX0_changeMark_32 : decode cX0_changeMark 32 = .ok (.iload_n 2, 1) := by decide +kernel
theorem dX0_changeMark_33 : decode cX0_changeMark 33 = .ok (.iaload, 1) := by decide +kernel
theorem dX0_changeMark_34 : decode cX0_changeMark 34 = .ok (.iconst 1, 1) := by decide +kernel
theorem dX0_changeMark_35 : decode cX0_changeMark 35 = .ok (.if_icmp .eq 22, 3) := by decide +kernel
theorem dX0_changeMark_38 : decode cX0_changeMark 38 = .ok (.aload_n 0, 1) := by decide +kernel
theorem dX0_changeMark_39 : decode cX0_changeMark 39 = .ok (.getfield 19, 3) := by decide +kernel
theorem dX0_changeMark_42 : decode cX0_changeMark 42 = .ok (.iconst 1, 1) := by decide +kernel
theorem dX0_changeMark_43 : decode cX0_changeMark 43 = .ok (.aaload, 1) := by decide +kernel
theorem dX0_changeMark_44 : decode cX0_changeMark 44 = .ok (.iload_n 2, 1) := by decide +kernel
theorem dX0_changeMark_45 : decode cX0_changeMark 45 = .ok (.iaload, 1) := by decide +kernel
theorem dX0_changeMark_46 : decode cX0_changeMark 46 = .ok (.iconst 1, 1) := by decide +kernel
theorem dX0_changeMark_47 : decode cX0_changeMark 47 = .ok (.if_icmp .eq 10, 3) := by decide +kernel
theorem dX0_changeMark_50 : decode cX0_changeMark 50 = .ok (.aload_n 0, 1) := by decide +kernel
theorem dX0_changeMark_51 : decode cX0_changeMark 51 = .ok (.getfield 11, 3) := by decide +kernel
theorem dX0_changeMark_54 : decode cX0_changeMark 54 = .ok (.iload_n 2, 1) := by decide +kernel
theorem dX0_changeMark_55 : decode cX0_changeMark 55 = .ok (.aconst_null, 1) := by decide +kernel
theorem dX0_changeMark_56 : decode cX0_changeMark 56 = .ok (.aastore, 1) := by decide +kernel
theorem dX0_changeMark_57 : decode cX0_changeMark 57 = .ok (.return_, 1) := by decide +kernel
theorem dX0_clauseSet_0 : decode cX0_clauseSet 0 = .ok (.iconst 0, 1) := by decide +kernel
theorem dX0_clauseSet_1 : decode cX0_clauseSet 1 = .ok (.istore_n 1, 1) := by decide +kernel
theorem dX0_clauseSet_2 : decode cX0_clauseSet 2 = .ok (.iconst 0, 1) := by decide +kernel
theorem dX0_clauseSet_3 : decode cX0_clauseSet 3 = .ok (.istore_n 2, 1) := by decide +kernel
theorem dX0_clauseSet_4 : decode cX0_clauseSet 4 = .ok (.iload_n 2, 1) := by decide +kernel
theorem dX0_clauseSet_5 : decode cX0_clauseSet 5 = .ok (.bipush 10, 2) := by decide +kernel
theorem dX0_clauseSet_7 : decode cX0_clauseSet 7 = .ok (.if_icmp .ge 24, 3) := by decide +kernel
theorem dX0_clauseSet_10 : decode cX0_clauseSet 10 = .ok (.aload_n 0, 1) := by decide +kernel
theorem dX0_clauseSet_11 : decode cX0_clauseSet 11 = .ok (.getfield 11, 3) := by decide +kernel
theorem dX0_clauseSet_14 : decode cX0_clauseSet 14 = .ok (.iload_n 2, 1) := by decide +kernel
theorem dX0_clauseSet_15 : decode cX0_clauseSet 15 = .ok (.aaload, 1) := by decide +kernel
theorem dX0_clauseSet_16 : decode cX0_clauseSet 16 = .ok (.ifnull 9, 3) := by decide +kernel
theorem dX0_clauseSet_19 : decode cX0_clauseSet 19 = .ok (.iload_n 1, 1) := by decide +kernel
theorem dX0_clauseSet_20 : decode cX0_clauseSet 20 = .ok (.iconst 1, 1) := by decide +kernel
theorem dX0_clauseSet_21 : decode cX0_clauseSet 21 = .ok (.iload_n 2, 1) := by decide +kernel
theorem dX0_clauseSet_22 : decode cX0_clauseSet 22 = .ok (.ishl, 1) := by decide +kernel
theorem dX0_clauseSet_23 : decode cX0_clauseSet 23 = .ok (.ior, 1) := by decide +kernel
theorem dX0_clauseSet_24 : decode cX0_clauseSet 24 = .ok (.istore_n 1, 1) := by decide +kernel
theorem dX0_clauseSet_25 : decode cX0_clauseSet 25 = .ok (.iinc 2 1, 3) := by decide +kernel
theorem dX0_clauseSet_28 : decode cX0_clauseSet 28 = .ok (.goto (-24), 3) := by decide +kernel
theorem dX0_clauseSet_31 : decode cX0_clauseSet 31 = .ok (.iload_n 1, 1) := by decide +kernel
theorem dX0_clauseSet_32 : decode cX0_clauseSet 32 = .ok (.ireturn, 1) := by decide +kernel
theorem dX0_isAgreed_0 : decode cX0_isAgreed 0 = .ok (.iconst 0, 1) := by decide +kernel
theorem dX0_isAgreed_1 : decode cX0_isAgreed 1 = .ok (.istore_n 1, 1) := by decide +kernel
theorem dX0_isAgreed_2 : decode cX0_isAgreed 2 = .ok (.iload_n 1, 1) := by decide +kernel
theorem dX0_isAgreed_3 : decode cX0_isAgreed 3 = .ok (.bipush 10, 2) := by decide +kernel
theorem dX0_isAgreed_5 : decode cX0_isAgreed 5 = .ok (.if_icmp .ge 44, 3) := by decide +kernel
theorem dX0_isAgreed_8 : decode cX0_isAgreed 8 = .ok (.aload_n 0, 1) := by decide +kernel
theorem dX0_isAgreed_9 : decode cX0_isAgreed 9 = .ok (.getfield 11, 3) := by decide +kernel
theorem dX0_isAgreed_12 : decode cX0_isAgreed 12 = .ok (.iload_n 1, 1) := by decide +kernel
theorem dX0_isAgreed_13 : decode cX0_isAgreed 13 = .ok (.aaload, 1) := by decide +kernel
theorem dX0_isAgreed_14 : decode cX0_isAgreed 14 = .ok (.ifnull 29, 3) := by decide +kernel
theorem dX0_isAgreed_17 : decode cX0_isAgreed 17 = .ok (.aload_n 0, 1) := by decide +kernel
theorem dX0_isAgreed_18 : decode cX0_isAgreed 18 = .ok (.getfield 19, 3) := by decide +kernel
theorem dX0_isAgreed_21 : decode cX0_isAgreed 21 = .ok (.iconst 0, 1) := by decide +kernel
theorem dX0_isAgreed_22 : decode cX0_isAgreed 22 = .ok (.aaload, 1) := by decide +kernel
theorem dX0_isAgreed_23 : decode cX0_isAgreed 23 = .ok (.iload_n 1, 1) := by decide +kernel
theorem dX0_isAgreed_24 : decode cX0_isAgreed 24 = .ok (.iaload, 1) := by decide +kernel
theorem dX0_isAgreed_25 : decode cX0_isAgreed 25 = .ok (.iconst 1, 1) := by decide +kernel
theorem dX0_isAgreed_26 : decode cX0_isAgreed 26 = .ok (.if_icmp .ne 15, 3) := by decide +kernel
theorem dX0_isAgreed_29 : decode cX0_isAgreed 29 = .ok (.aload_n 0, 1) := by decide +kernel
theorem dX0_isAgreed_30 : decode cX0_isAgreed 30 = .ok (.getfield 19, 3) := by decide +kernel
theorem dX0_isAgreed_33 : decode cX0_isAgreed 33 = .ok (.iconst 1, 1) := by decide +kernel
theorem dX0_isAgreed_34 : decode cX0_isAgreed 34 = .ok (.aaload, 1) := by decide +kernel
theorem dX0_isAgreed_35 : decode cX0_isAgreed 35 = .ok (.iload_n 1, 1) := by decide +kernel
theorem dX0_isAgreed_36 : decode cX0_isAgreed 36 = .ok (.iaload, 1) := by decide +kernel
theorem dX0_isAgreed_37 : decode cX0_isAgreed 37 = .ok (.iconst 1, 1) := by decide +kernel
theorem dX0_isAgreed_38 : decode cX0_isAgreed 38 = .ok (.if_icmp .eq 5, 3) := by decide +kernel
theorem dX0_isAgreed_41 : decode cX0_isAgreed 41 = .ok (.iconst 0, 1) := by decide +kernel
theorem dX0_isAgreed_42 : decode cX0_isAgreed 42 = .ok (.ireturn, 1) := by decide +kernel
theorem dX0_isAgreed_43 : decode cX0_isAgreed 43 = .ok (.iinc 1 1, 3) := by decide +kernel
theorem dX0_isAgreed_46 : decode cX0_isAgreed 46 = .ok (.goto (-44), 3) := by decide +kernel
theorem dX0_isAgreed_49 : decode cX0_isAgreed 49 = .ok (.iconst 1, 1) := by decide +kernel
theorem dX0_isAgreed_50 : decode cX0_isAgreed 50 = .ok (.ireturn, 1) := by decide +kernel
theorem dX1_init_0 : decode cX1_init 0 = .ok (.aload_n 0, 1) := by decide +kernel
theorem dX1_init_1 : decode cX1_init 1 = .ok (.invokespecial 3, 3) := by decide +kernel
theorem dX1_init_4 : decode cX1_init 4 = .ok (.aload_n 0, 1) := by decide +kernel
theorem dX1_init_5 : decode cX1_init 5 = .ok (.iconst 0, 1) := by decide +kernel
theorem dX1_init_6 : decode cX1_init 6 = .ok (.putfield 9, 3) := by decide +kernel
theorem dX1_init_9 : decode cX1_init 9 = .ok (.aload_n 0, 1) := by decide +kernel
theorem dX1_init_10 : decode cX1_init 10 = .ok (.aload_n 1, 1) := by decide +kernel
theorem dX1_init_11 : decode cX1_init 11 = .ok (.putfield 15, 3) := by decide +kernel
theorem dX1_init_14 : decode cX1_init 14 = .ok (.aload_n 0, 1) := by decide +kernel
theorem dX1_init_15 : decode cX1_init 15 = .ok (.aload_n 2, 1) := by decide +kernel
theorem dX1_init_16 : decode cX1_init 16 = .ok (.putfield 19, 3) := by decide +kernel
theorem dX1_init_19 : decode cX1_init 19 = .ok (.aload_n 0, 1) := by decide +kernel
theorem dX1_init_20 : decode cX1_init 20 = .ok (.iload_n 3, 1) := by decide +kernel
theorem dX1_init_21 : decode cX1_init 21 = .ok (.putfield 23, 3) := by decide +kernel
theorem dX1_init_24 : decode cX1_init 24 = .ok (.return_, 1) := by decide +kernel
theorem dX1_canBeDone_0 : decode cX1_canBeDone 0 = .ok (.aload_n 0, 1) := by decide +kernel
theorem dX1_canBeDone_1 : decode cX1_canBeDone 1 = .ok (.getfield 9, 3) := by decide +kernel
theorem dX1_canBeDone_4 : decode cX1_canBeDone 4 = .ok (.ifCond .eq 11, 3) := by decide +kernel
theorem dX1_canBeDone_7 : decode cX1_canBeDone 7 = .ok (.aload_n 0, 1) := by decide +kernel
theorem dX1_canBeDone_8 : decode cX1_canBeDone 8 = .ok (.getfield 9, 3) := by decide +kernel
theorem dX1_canBeDone_11 : decode cX1_canBeDone 11 = .ok (.iconst 2, 1) := by decide +kernel
theorem dX1_canBeDone_12 : decode cX1_canBeDone 12 = .ok (.if_icmp .ne 7, 3) := by decide +kernel
theorem dX1_canBeDone_15 : decode cX1_canBeDone 15 = .ok (.iconst 1, 1) := by decide +kernel
theorem dX1_canBeDone_16 : decode cX1_canBeDone 16 = .ok (.goto 4, 3) := by decide +kernel
theorem dX1_canBeDone_19 : decode cX1_canBeDone 19 = .ok (.iconst 0, 1) := by decide +kernel
theorem dX1_canBeDone_20 : decode cX1_canBeDone 20 = .ok (.ireturn, 1) := by decide +kernel
set_option maxRecDepth 20000 in
theorem ggX1_isHeldUp_X1_canBeDone : GoodIn wsX1_isHeldUp wsX1_canBeDone := goodIn_r _ [9, 10, 11, 12, 13, 14] (by decide +kernel) (by decide +kernel)
set_option maxRecDepth 20000 in
theorem gX1_isHeldUp_X1_canBeDone : GoodIn wsX1_isHeldUp (wsV RX1 26 RX1 yX1_canBeDone wsX1_canBeDone) := goodIn_app (goodIn_of _ (by decide +kernel)) ggX1_isHeldUp_X1_canBeDone
theorem dX1_isHeldUp_0 : decode cX1_isHeldUp 0 = .ok (.aload_n 0, 1) := by decide +kernel
theorem dX1_isHeldUp_1 : decode cX1_isHeldUp 1 = .ok (.invokevirtual 26, 3) := by decide +kernel
theorem dX1_isHeldUp_4 : decode cX1_isHeldUp 4 = .ok (.ifCond .eq 27, 3) := by decide +kernel
theorem dX1_isHeldUp_7 : decode cX1_isHeldUp 7 = .ok (.aload_n 0, 1) := by decide +kernel
theorem dX1_isHeldUp_8 : decode cX1_isHeldUp 8 = .ok (.getfield 15, 3) := by decide +kernel
theorem dX1_isHeldUp_11 : decode cX1_isHeldUp 11 = .ok (.getfield 30, 3) := by decide +kernel
theorem dX1_isHeldUp_14 : decode cX1_isHeldUp 14 = .ok (.iconst 1, 1) := by decide +kernel
theorem dX1_isHeldUp_15 : decode cX1_isHeldUp 15 = .ok (.aload_n 0, 1) := by decide +kernel
theorem dX1_isHeldUp_16 : decode cX1_isHeldUp 16 = .ok (.getfield 19, 3) := by decide +kernel
theorem dX1_isHeldUp_19 : decode cX1_isHeldUp 19 = .ok (.getfield 36, 3) := by decide +kernel
theorem dX1_isHeldUp_22 : decode cX1_isHeldUp 22 = .ok (.isub, 1) := by decide +kernel
theorem dX1_isHeldUp_23 : decode cX1_isHeldUp 23 = .ok (.iaload, 1) := by decide +kernel
theorem dX1_isHeldUp_24 : decode cX1_isHeldUp 24 = .ok (.ifCond .le 7, 3) := by decide +kernel
theorem dX1_isHeldUp_27 : decode cX1_isHeldUp 27 = .ok (.iconst 1, 1) := by decide +kernel
theorem dX1_isHeldUp_28 : decode cX1_isHeldUp 28 = .ok (.goto 4, 3) := by decide +kernel
theorem dX1_isHeldUp_31 : decode cX1_isHeldUp 31 = .ok (.iconst 0, 1) := by decide +kernel
theorem dX1_isHeldUp_32 : decode cX1_isHeldUp 32 = .ok (.ireturn, 1) := by decide +kernel
theorem dX1_move_0 : decode cX1_move 0 = .ok (.aload_n 0, 1) := by decide +kernel
theorem dX1_move_1 : decode cX1_move 1 = .ok (.iload_n 1, 1) := by decide +kernel
theorem dX1_move_2 : decode cX1_move 2 = .ok (.putfield 9, 3) := by decide +kernel
theorem dX1_move_5 : decode cX1_move 5 = .ok (.aload_n 0, 1) := by decide +kernel
theorem dX1_move_6 : decode cX1_move 6 = .ok (.iload_n 2, 1) := by decide +kernel
theorem dX1_move_7 : decode cX1_move 7 = .ok (.putfield 23, 3) := by decide +kernel
theorem dX1_move_10 : decode cX1_move 10 = .ok (.return_, 1) := by decide +kernel
theorem dX1_countBreach_0 : decode cX1_countBreach 0 = .ok (.aload_n 0, 1) := by decide +kernel
theorem dX1_countBreach_1 : decode cX1_countBreach 1 = .ok (.getfield 15, 3) := by decide +kernel
theorem dX1_countBreach_4 : decode cX1_countBreach 4 = .ok (.getfield 30, 3) := by decide +kernel
theorem dX1_countBreach_7 : decode cX1_countBreach 7 = .ok (.aload_n 0, 1) := by decide +kernel
theorem dX1_countBreach_8 : decode cX1_countBreach 8 = .ok (.getfield 19, 3) := by decide +kernel
theorem dX1_countBreach_11 : decode cX1_countBreach 11 = .ok (.getfield 36, 3) := by decide +kernel
theorem dX1_countBreach_14 : decode cX1_countBreach 14 = .ok (.dup2, 1) := by decide +kernel
theorem dX1_countBreach_15 : decode cX1_countBreach 15 = .ok (.iaload, 1) := by decide +kernel
theorem dX1_countBreach_16 : decode cX1_countBreach 16 = .ok (.iload_n 1, 1) := by decide +kernel
theorem dX1_countBreach_17 : decode cX1_countBreach 17 = .ok (.iadd, 1) := by decide +kernel
theorem dX1_countBreach_18 : decode cX1_countBreach 18 = .ok (.iastore, 1) := by decide +kernel
theorem dX1_countBreach_19 : decode cX1_countBreach 19 = .ok (.aload_n 0, 1) := by decide +kernel
theorem dX1_countBreach_20 : decode cX1_countBreach 20 = .ok (.getfield 15, 3) := by decide +kernel
theorem dX1_countBreach_23 : decode cX1_countBreach 23 = .ok (.getfield 41, 3) := by decide +kernel
theorem dX1_countBreach_26 : decode cX1_countBreach 26 = .ok (.aload_n 0, 1) := by decide +kernel
theorem dX1_countBreach_27 : decode cX1_countBreach 27 = .ok (.getfield 19, 3) := by decide +kernel
theorem dX1_countBreach_30 : decode cX1_countBreach 30 = .ok (.getfield 36, 3) := by decide +kernel
theorem dX1_countBreach_33 : decode cX1_countBreach 33 = .ok (.dup2, 1) := by decide +kernel
theorem dX1_countBreach_34 : decode cX1_countBreach 34 = .ok (.iaload, 1) := by decide +kernel
theorem dX1_countBreach_35 : decode cX1_countBreach 35 = .ok (.iload_n 1, 1) := by decide +kernel
theorem dX1_countBreach_36 : decode cX1_countBreach 36 = .ok (.aload_n 0, 1) := by decide +kernel
theorem dX1_countBreach_37 : decode cX1_countBreach 37 = .ok (.getfield 19, 3) := by decide +kernel
theorem dX1_countBreach_40 : decode cX1_countBreach 40 = .ok (.getfield 44, 3) := by decide +kernel
theorem dX1_countBreach_43 : decode cX1_countBreach 43 = .ok (.imul, 1) := by decide +kernel
theorem dX1_countBreach_44 : decode cX1_countBreach 44 = .ok (.iadd, 1) := by decide +kernel
theorem dX1_countBreach_45 : decode cX1_countBreach 45 = .ok (.iastore, 1) := by decide +kernel
theorem dX1_countBreach_46 : decode cX1_countBreach 46 = .ok (.return_, 1) := by decide +kernel
theorem dX2_init_0 : decode cX2_init 0 = .ok (.aload_n 0, 1) := by decide +kernel
theorem dX2_init_1 : decode cX2_init 1 = .ok (.invokespecial 1, 3) := by decide +kernel
theorem dX2_init_4 : decode cX2_init 4 = .ok (.aload_n 0, 1) := by decide +kernel
theorem dX2_init_5 : decode cX2_init 5 = .ok (.iload_n 1, 1) := by decide +kernel
theorem dX2_init_6 : decode cX2_init 6 = .ok (.putfield 7, 3) := by decide +kernel
theorem dX2_init_9 : decode cX2_init 9 = .ok (.aload_n 0, 1) := by decide +kernel
theorem dX2_init_10 : decode cX2_init 10 = .ok (.iload_n 2, 1) := by decide +kernel
theorem dX2_init_11 : decode cX2_init 11 = .ok (.putfield 13, 3) := by decide +kernel
theorem dX2_init_14 : decode cX2_init 14 = .ok (.aload_n 0, 1) := by decide +kernel
theorem dX2_init_15 : decode cX2_init 15 = .ok (.iload_n 3, 1) := by decide +kernel
theorem dX2_init_16 : decode cX2_init 16 = .ok (.putfield 16, 3) := by decide +kernel
theorem dX2_init_19 : decode cX2_init 19 = .ok (.aload_n 0, 1) := by decide +kernel
theorem dX2_init_20 : decode cX2_init 20 = .ok (.iload 4, 2) := by decide +kernel
theorem dX2_init_22 : decode cX2_init 22 = .ok (.putfield 19, 3) := by decide +kernel
theorem dX2_init_25 : decode cX2_init 25 = .ok (.aload_n 0, 1) := by decide +kernel
theorem dX2_init_26 : decode cX2_init 26 = .ok (.iload 5, 2) := by decide +kernel
theorem dX2_init_28 : decode cX2_init 28 = .ok (.putfield 22, 3) := by decide +kernel
theorem dX2_init_31 : decode cX2_init 31 = .ok (.return_, 1) := by decide +kernel
set_option maxRecDepth 20000 in
theorem ggX3_init_Jx4a65c_init_da8c8 : GoodIn wsX3_init wsJx4a65c_init_da8c8 := goodIn_r _ [17, 18, 19, 20, 21, 22, 23, 24, 25, 26, 27, 28, 29, 2, 3, 36, 37, 38] (by decide +kernel) (by decide +kernel)
set_option maxRecDepth 20000 in
theorem gX3_init_Jx4a65c_init_da8c8 : GoodIn wsX3_init (wsJx4a65c_init_da8c8) := ggX3_init_Jx4a65c_init_da8c8
theorem dX3_init_0 : decode cX3_init 0 = .ok (.aload_n 0, 1) := by decide +kernel
theorem dX3_init_1 : decode cX3_init 1 = .ok (.invokespecial 3, 3) := by decide +kernel
theorem dX3_init_4 : decode cX3_init 4 = .ok (.aload_n 0, 1) := by decide +kernel
theorem dX3_init_5 : decode cX3_init 5 = .ok (.bipush 10, 2) := by decide +kernel
theorem dX3_init_7 : decode cX3_init 7 = .ok (.anewarray 9, 3) := by decide +kernel
theorem dX3_init_10 : decode cX3_init 10 = .ok (.putfield 11, 3) := by decide +kernel
theorem dX3_init_13 : decode cX3_init 13 = .ok (.aload_n 0, 1) := by decide +kernel
theorem dX3_init_14 : decode cX3_init 14 = .ok (.bipush 10, 2) := by decide +kernel
theorem dX3_init_16 : decode cX3_init 16 = .ok (.newarray .int, 2) := by decide +kernel
theorem dX3_init_18 : decode cX3_init 18 = .ok (.putfield 15, 3) := by decide +kernel
theorem dX3_init_21 : decode cX3_init 21 = .ok (.aload_n 0, 1) := by decide +kernel
theorem dX3_init_22 : decode cX3_init 22 = .ok (.bipush 10, 2) := by decide +kernel
theorem dX3_init_24 : decode cX3_init 24 = .ok (.newarray .int, 2) := by decide +kernel
theorem dX3_init_26 : decode cX3_init 26 = .ok (.putfield 19, 3) := by decide +kernel
theorem dX3_init_29 : decode cX3_init 29 = .ok (.aload_n 0, 1) := by decide +kernel
theorem dX3_init_30 : decode cX3_init 30 = .ok (.new 22, 3) := by decide +kernel
theorem dX3_init_33 : decode cX3_init 33 = .ok (.dup, 1) := by decide +kernel
theorem dX3_init_34 : decode cX3_init 34 = .ok (.invokespecial 24, 3) := by decide +kernel
theorem dX3_init_37 : decode cX3_init 37 = .ok (.putfield 25, 3) := by decide +kernel
theorem dX3_init_40 : decode cX3_init 40 = .ok (.aload_n 0, 1) := by decide +kernel
theorem dX3_init_41 : decode cX3_init 41 = .ok (.new 22, 3) := by decide +kernel
theorem dX3_init_44 : decode cX3_init 44 = .ok (.dup, 1) := by decide +kernel
theorem dX3_init_45 : decode cX3_init 45 = .ok (.invokespecial 24, 3) := by decide +kernel
theorem dX3_init_48 : decode cX3_init 48 = .ok (.putfield 29, 3) := by decide +kernel
theorem dX3_init_51 : decode cX3_init 51 = .ok (.aload_n 0, 1) := by decide +kernel
theorem dX3_init_52 : decode cX3_init 52 = .ok (.iconst 0, 1) := by decide +kernel
theorem dX3_init_53 : decode cX3_init 53 = .ok (.putfield 32, 3) := by decide +kernel
theorem dX3_init_56 : decode cX3_init 56 = .ok (.return_, 1) := by decide +kernel
set_option maxRecDepth 20000 in
theorem ggX3_issue_X3_checkClause : GoodIn wsX3_issue wsX3_checkClause := goodIn_ca (goodIn_r _ [12, 1, 2, 13, 14, 11, 15] (by decide +kernel) (by decide +kernel)) (goodIn_sub (fun _ h => List.mem_cons_of_mem _ (List.mem_append_left _ (List.mem_append_right _ h))) (by decide +kernel))
set_option maxRecDepth 20000 in
theorem gX3_issue_X3_checkClause : GoodIn wsX3_issue (va_wsS RX3 36 yX3_checkClause wsX3_checkClause) := goodIn_app (goodIn_of _ (by decide +kernel)) ggX3_issue_X3_checkClause
set_option maxRecDepth 20000 in
theorem ggX3_issue_X3_checkSide : GoodIn wsX3_issue wsX3_checkSide := goodIn_ca (goodIn_r _ [18, 1, 2, 13, 14, 11, 15] (by decide +kernel) (by decide +kernel)) (goodIn_sub (fun _ h => List.mem_cons_of_mem _ (List.mem_append_left _ (List.mem_append_right _ h))) (by decide +kernel))
set_option maxRecDepth 20000 in
theorem gX3_issue_X3_checkSide : GoodIn wsX3_issue (va_wsS RX3 40 yX3_checkSide wsX3_checkSide) := goodIn_app (goodIn_of _ (by decide +kernel)) ggX3_issue_X3_checkSide
set_option maxRecDepth 20000 in
theorem ggX3_issue_X3_isWithin : GoodIn wsX3_issue wsX3_isWithin := goodIn_r _ [15] (by decide +kernel) (by decide +kernel)
set_option maxRecDepth 20000 in
theorem gX3_issue_X3_isWithin : GoodIn wsX3_issue (va_wsS RX3 43 yX3_isWithin wsX3_isWithin) := goodIn_app (goodIn_of _ (by decide +kernel)) ggX3_issue_X3_isWithin
set_option maxRecDepth 20000 in
theorem ggX3_issue_X3_newestNumber : GoodIn wsX3_issue wsX3_newestNumber := goodIn_r _ [22, 5, 23, 24, 11, 25, 26, 38, 39, 40, 41, 42, 43, 44, 45, 46, 47, 48] (by decide +kernel) (by decide +kernel)
set_option maxRecDepth 20000 in
theorem gX3_issue_X3_newestNumber : GoodIn wsX3_issue (wsV RX3 54 RX3 yX3_newestNumber wsX3_newestNumber) := goodIn_app (goodIn_of _ (by decide +kernel)) ggX3_issue_X3_newestNumber
set_option maxRecDepth 20000 in
theorem ggX3_issue_X2_init : GoodIn wsX3_issue wsX2_init := goodIn_r _ [29, 30, 31, 32, 33, 34, 35, 36, 37, 44, 45, 46, 47, 48] (by decide +kernel) (by decide +kernel)
set_option maxRecDepth 20000 in
theorem gX3_issue_X2_init : GoodIn wsX3_issue (wsX2_init) := ggX3_issue_X2_init
theorem dX3_issue_0 : decode cX3_issue 0 = .ok (.iload_n 1, 1) := by decide +kernel
theorem dX3_issue_1 : decode cX3_issue 1 = .ok (.invokestatic 36, 3) := by decide +kernel
theorem dX3_issue_4 : decode cX3_issue 4 = .ok (.iload_n 2, 1) := by decide +kernel
theorem dX3_issue_5 : decode cX3_issue 5 = .ok (.invokestatic 40, 3) := by decide +kernel
theorem dX3_issue_8 : decode cX3_issue 8 = .ok (.iload_n 3, 1) := by decide +kernel
theorem dX3_issue_9 : decode cX3_issue 9 = .ok (.iconst 0, 1) := by decide +kernel
theorem dX3_issue_10 : decode cX3_issue 10 = .ok (.bipush 100, 2) := by decide +kernel
theorem dX3_issue_12 : decode cX3_issue 12 = .ok (.invokestatic 43, 3) := by decide +kernel
theorem dX3_issue_15 : decode cX3_issue 15 = .ok (.ifCond .eq 26, 3) := by decide +kernel
theorem dX3_issue_18 : decode cX3_issue 18 = .ok (.iload 4, 2) := by decide +kernel
theorem dX3_issue_20 : decode cX3_issue 20 = .ok (.iconst 0, 1) := by decide +kernel
theorem dX3_issue_21 : decode cX3_issue 21 = .ok (.bipush 50, 2) := by decide +kernel
theorem dX3_issue_23 : decode cX3_issue 23 = .ok (.invokestatic 43, 3) := by decide +kernel
theorem dX3_issue_26 : decode cX3_issue 26 = .ok (.ifCond .eq 15, 3) := by decide +kernel
theorem dX3_issue_29 : decode cX3_issue 29 = .ok (.iload 5, 2) := by decide +kernel
theorem dX3_issue_31 : decode cX3_issue 31 = .ok (.iconst 0, 1) := by decide +kernel
theorem dX3_issue_32 : decode cX3_issue 32 = .ok (.sipush 1000, 3) := by decide +kernel
theorem dX3_issue_35 : decode cX3_issue 35 = .ok (.invokestatic 43, 3) := by decide +kernel
theorem dX3_issue_38 : decode cX3_issue 38 = .ok (.ifCond .ne 13, 3) := by decide +kernel
theorem dX3_issue_41 : decode cX3_issue 41 = .ok (.new 47, 3) := by decide +kernel
theorem dX3_issue_44 : decode cX3_issue 44 = .ok (.dup, 1) := by decide +kernel
theorem dX3_issue_45 : decode cX3_issue 45 = .ok (.ldc 49, 2) := by decide +kernel
theorem dX3_issue_47 : decode cX3_issue 47 = .ok (.invokespecial 51, 3) := by decide +kernel
theorem dX3_issue_50 : decode cX3_issue 50 = .ok (.athrow, 1) := by decide +kernel
theorem dX3_issue_51 : decode cX3_issue 51 = .ok (.aload_n 0, 1) := by decide +kernel
theorem dX3_issue_52 : decode cX3_issue 52 = .ok (.iload_n 1, 1) := by decide +kernel
theorem dX3_issue_53 : decode cX3_issue 53 = .ok (.invokevirtual 54, 3) := by decide +kernel
theorem dX3_issue_56 : decode cX3_issue 56 = .ok (.iconst 1, 1) := by decide +kernel
theorem dX3_issue_57 : decode cX3_issue 57 = .ok (.iadd, 1) := by decide +kernel
theorem dX3_issue_58 : decode cX3_issue 58 = .ok (.istore 6, 2) := by decide +kernel
theorem dX3_issue_60 : decode cX3_issue 60 = .ok (.iload 6, 2) := by decide +kernel
theorem dX3_issue_62 : decode cX3_issue 62 = .ok (.bipush 9, 2) := by decide +kernel
theorem dX3_issue_64 : decode cX3_issue 64 = .ok (.if_icmp .le 13, 3) := by decide +kernel
theorem dX3_issue_67 : decode cX3_issue 67 = .ok (.new 58, 3) := by decide +kernel
theorem dX3_issue_70 : decode cX3_issue 70 = .ok (.dup, 1) := by decide +kernel
theorem dX3_issue_71 : decode cX3_issue 71 = .ok (.ldc 60, 2) := by decide +kernel
theorem dX3_issue_73 : decode cX3_issue 73 = .ok (.invokespecial 62, 3) := by decide +kernel
theorem dX3_issue_76 : decode cX3_issue 76 = .ok (.athrow, 1) := by decide +kernel
theorem dX3_issue_77 : decode cX3_issue 77 = .ok (.aload_n 0, 1) := by decide +kernel
theorem dX3_issue_78 : decode cX3_issue 78 = .ok (.getfield 11, 3) := by decide +kernel
theorem dX3_issue_81 : decode cX3_issue 81 = .ok (.iload_n 1, 1) := by decide +kernel
theorem dX3_issue_82 : decode cX3_issue 82 = .ok (.new 9, 3) := by decide +kernel
theorem dX3_issue_85 : decode cX3_issue 85 = .ok (.dup, 1) := by decide +kernel
theorem dX3_issue_86 : decode cX3_issue 86 = .ok (.iload 6, 2) := by decide +kernel
theorem dX3_issue_88 : decode cX3_issue 88 = .ok (.iload_n 2, 1) := by decide +kernel
theorem dX3_issue_89 : decode cX3_issue 89 = .ok (.iload_n 3, 1) := by decide +kernel
theorem dX3_issue_90 : decode cX3_issue 90 = .ok (.iload 4, 2) := by decide +kernel
theorem dX3_issue_92 : decode cX3_issue 92 = .ok (.iload 5, 2) := by decide +kernel
theorem dX3_issue_94 : decode cX3_issue 94 = .ok (.invokespecial 63, 3) := by decide +kernel
theorem dX3_issue_97 : decode cX3_issue 97 = .ok (.aastore, 1) := by decide +kernel
theorem dX3_issue_98 : decode cX3_issue 98 = .ok (.iload 6, 2) := by decide +kernel
theorem dX3_issue_100 : decode cX3_issue 100 = .ok (.ireturn, 1) := by decide +kernel
set_option maxRecDepth 20000 in
theorem ggX3_relate_X3_checkClause : GoodIn wsX3_relate wsX3_checkClause := goodIn_ca (goodIn_r _ [6, 7, 8, 9, 10, 5, 11] (by decide +kernel) (by decide +kernel)) (goodIn_sub (fun _ h => List.mem_cons_of_mem _ (List.mem_append_right _ h)) (by decide +kernel))
set_option maxRecDepth 20000 in
theorem gX3_relate_X3_checkClause : GoodIn wsX3_relate (va_wsS RX3 36 yX3_checkClause wsX3_checkClause) := goodIn_app (goodIn_of _ (by decide +kernel)) ggX3_relate_X3_checkClause
set_option maxRecDepth 20000 in
theorem ggX3_relate_X3_checkOtherClauses : GoodIn wsX3_relate wsX3_checkOtherClauses := goodIn_ca (goodIn_r _ [14, 7, 8, 9, 10, 5, 11] (by decide +kernel) (by decide +kernel)) (goodIn_sub (fun _ h => List.mem_cons_of_mem _ (List.mem_append_right _ h)) (by decide +kernel))
set_option maxRecDepth 20000 in
theorem gX3_relate_X3_checkOtherClauses : GoodIn wsX3_relate (va_wsS RX3 66 yX3_checkOtherClauses wsX3_checkOtherClauses) := goodIn_app (goodIn_of _ (by decide +kernel)) ggX3_relate_X3_checkOtherClauses
theorem dX3_relate_0 : decode cX3_relate 0 = .ok (.iload_n 1, 1) := by decide +kernel
theorem dX3_relate_1 : decode cX3_relate 1 = .ok (.invokestatic 36, 3) := by decide +kernel
theorem dX3_relate_4 : decode cX3_relate 4 = .ok (.iload_n 1, 1) := by decide +kernel
theorem dX3_relate_5 : decode cX3_relate 5 = .ok (.iload_n 2, 1) := by decide +kernel
theorem dX3_relate_6 : decode cX3_relate 6 = .ok (.invokestatic 66, 3) := by decide +kernel
theorem dX3_relate_9 : decode cX3_relate 9 = .ok (.iload_n 1, 1) := by decide +kernel
theorem dX3_relate_10 : decode cX3_relate 10 = .ok (.iload_n 3, 1) := by decide +kernel
theorem dX3_relate_11 : decode cX3_relate 11 = .ok (.invokestatic 66, 3) := by decide +kernel
theorem dX3_relate_14 : decode cX3_relate 14 = .ok (.aload_n 0, 1) := by decide +kernel
theorem dX3_relate_15 : decode cX3_relate 15 = .ok (.getfield 15, 3) := by decide +kernel
theorem dX3_relate_18 : decode cX3_relate 18 = .ok (.iload_n 1, 1) := by decide +kernel
theorem dX3_relate_19 : decode cX3_relate 19 = .ok (.iload_n 2, 1) := by decide +kernel
theorem dX3_relate_20 : decode cX3_relate 20 = .ok (.iastore, 1) := by decide +kernel
theorem dX3_relate_21 : decode cX3_relate 21 = .ok (.aload_n 0, 1) := by decide +kernel
theorem dX3_relate_22 : decode cX3_relate 22 = .ok (.getfield 19, 3) := by decide +kernel
theorem dX3_relate_25 : decode cX3_relate 25 = .ok (.iload_n 1, 1) := by decide +kernel
theorem dX3_relate_26 : decode cX3_relate 26 = .ok (.iload_n 3, 1) := by decide +kernel
theorem dX3_relate_27 : decode cX3_relate 27 = .ok (.iastore, 1) := by decide +kernel
theorem dX3_relate_28 : decode cX3_relate 28 = .ok (.return_, 1) := by decide +kernel
set_option maxRecDepth 20000 in
theorem ggX3_latest_X3_checkClause : GoodIn wsX3_latest wsX3_checkClause := goodIn_ca (goodIn_r _ [4, 5, 6, 7, 8, 3, 9] (by decide +kernel) (by decide +kernel)) (goodIn_sub (fun _ h => List.mem_cons_of_mem _ (List.mem_append_right _ h)) (by decide +kernel))
set_option maxRecDepth 20000 in
theorem gX3_latest_X3_checkClause : GoodIn wsX3_latest (va_wsS RX3 36 yX3_checkClause wsX3_checkClause) := goodIn_app (goodIn_of _ (by decide +kernel)) ggX3_latest_X3_checkClause
set_option maxRecDepth 20000 in
theorem ggX3_latest_X3_newestNumber : GoodIn wsX3_latest wsX3_newestNumber := goodIn_r _ [13, 14, 15, 16, 3, 17, 18, 19, 20, 21, 22, 23, 24, 25, 26, 27, 28, 29] (by decide +kernel) (by decide +kernel)
set_option maxRecDepth 20000 in
theorem gX3_latest_X3_newestNumber : GoodIn wsX3_latest (wsV RX3 54 RX3 yX3_newestNumber wsX3_newestNumber) := goodIn_app (goodIn_of _ (by decide +kernel)) ggX3_latest_X3_newestNumber
theorem dX3_latest_0 : decode cX3_latest 0 = .ok (.iload_n 1, 1) := by decide +kernel
theorem dX3_latest_1 : decode cX3_latest 1 = .ok (.invokestatic 36, 3) := by decide +kernel
theorem dX3_latest_4 : decode cX3_latest 4 = .ok (.aload_n 0, 1) := by decide +kernel
theorem dX3_latest_5 : decode cX3_latest 5 = .ok (.iload_n 1, 1) := by decide +kernel
theorem dX3_latest_6 : decode cX3_latest 6 = .ok (.invokevirtual 54, 3) := by decide +kernel
theorem dX3_latest_9 : decode cX3_latest 9 = .ok (.ireturn, 1) := by decide +kernel
set_option maxRecDepth 20000 in
theorem ggX3_begin_Jx4a65c_size_8abf5 : GoodIn wsX3_begin wsJx4a65c_size_8abf5 := goodIn_r _ [11, 12, 92, 93, 94] (by decide +kernel) (by decide +kernel)
set_option maxRecDepth 20000 in
theorem gX3_begin_Jx4a65c_size_8abf5 : GoodIn wsX3_begin (wsV RX3 70 RJx4a65c yJx4a65c_size_8abf5 wsJx4a65c_size_8abf5) := goodIn_app (goodIn_of _ (by decide +kernel)) ggX3_begin_Jx4a65c_size_8abf5
set_option maxRecDepth 20000 in
theorem ggX3_begin_X0_init : GoodIn wsX3_begin wsX0_init := goodIn_r _ [14, 15, 16, 17, 18, 19, 20, 21, 22, 23, 24, 25, 26, 87, 88, 89, 90, 91] (by decide +kernel) (by decide +kernel)
set_option maxRecDepth 20000 in
theorem gX3_begin_X0_init_n78 : GoodIn wsX3_begin (wsX0_init) := ggX3_begin_X0_init
set_option maxRecDepth 20000 in
theorem ggX3_begin_Jx4a65c_add_9ea2d : GoodIn wsX3_begin wsJx4a65c_add_9ea2d := goodIn_r _ [30, 31, 32, 33, 12, 34, 35, 36, 10, 37, 38, 39, 40, 41, 42, 43, 44, 45, 46, 47, 48, 49, 50, 51, 52, 53, 54, 55, 56, 57, 58, 59, 60, 61, 62, 63, 64, 65, 66, 67, 68, 69, 70, 71, 72, 73, 74, 75, 76, 77, 78, 79, 80, 92, 93, 94] (by decide +kernel) (by decide +kernel)
set_option maxRecDepth 20000 in
theorem gX3_begin_Jx4a65c_add_9ea2d : GoodIn wsX3_begin (wsV RX3 79 RJx4a65c yJx4a65c_add_9ea2d wsJx4a65c_add_9ea2d) := goodIn_app (goodIn_of _ (by decide +kernel)) ggX3_begin_Jx4a65c_add_9ea2d
theorem dX3_begin_0 : decode cX3_begin 0 = .ok (.aload_n 0, 1) := by decide +kernel
theorem dX3_begin_1 : decode cX3_begin 1 = .ok (.getfield 25, 3) := by decide +kernel
theorem dX3_begin_4 : decode cX3_begin 4 = .ok (.invokevirtual 70, 3) := by decide +kernel
theorem dX3_begin_7 : decode cX3_begin 7 = .ok (.istore_n 1, 1) := by decide +kernel
theorem dX3_begin_8 : decode cX3_begin 8 = .ok (.iload_n 1, 1) := by decide +kernel
theorem dX3_begin_9 : decode cX3_begin 9 = .ok (.bipush 10, 2) := by decide +kernel
theorem dX3_begin_11 : decode cX3_begin 11 = .ok (.if_icmp .lt 13, 3) := by decide +kernel
theorem dX3_begin_14 : decode cX3_begin 14 = .ok (.new 58, 3) := by decide +kernel
theorem dX3_begin_17 : decode cX3_begin 17 = .ok (.dup, 1) := by decide +kernel
theorem dX3_begin_18 : decode cX3_begin 18 = .ok (.ldc 74, 2) := by decide +kernel
theorem dX3_begin_20 : decode cX3_begin 20 = .ok (.invokespecial 62, 3) := by decide +kernel
theorem dX3_begin_23 : decode cX3_begin 23 = .ok (.athrow, 1) := by decide +kernel
theorem dX3_begin_24 : decode cX3_begin 24 = .ok (.aload_n 0, 1) := by decide +kernel
theorem dX3_begin_25 : decode cX3_begin 25 = .ok (.getfield 25, 3) := by decide +kernel
theorem dX3_begin_28 : decode cX3_begin 28 = .ok (.new 76, 3) := by decide +kernel
theorem dX3_begin_31 : decode cX3_begin 31 = .ok (.dup, 1) := by decide +kernel
theorem dX3_begin_32 : decode cX3_begin 32 = .ok (.invokespecial 78, 3) := by decide +kernel
theorem dX3_begin_35 : decode cX3_begin 35 = .ok (.invokevirtual 79, 3) := by decide +kernel
theorem dX3_begin_38 : decode cX3_begin 38 = .ok (.pop, 1) := by decide +kernel
theorem dX3_begin_39 : decode cX3_begin 39 = .ok (.iload_n 1, 1) := by decide +kernel
theorem dX3_begin_40 : decode cX3_begin 40 = .ok (.ireturn, 1) := by decide +kernel
set_option maxRecDepth 20000 in
theorem ggX3_mark_X3_contractAt : GoodIn wsX3_mark wsX3_contractAt := goodIn_ca (goodIn_r _ [12, 13, 14, 15, 16, 17, 18, 19, 20, 21, 22, 23, 24, 11, 25, 26, 27, 28, 29, 30, 31, 32, 33, 34, 35, 36, 37, 38, 39, 40, 41, 42, 77, 78, 79, 80, 81, 82, 83, 84, 85] (by decide +kernel) (by decide +kernel)) (goodIn_sub (fun _ h => List.mem_cons_of_mem _ (List.mem_append_right _ h)) (by decide +kernel))
set_option maxRecDepth 20000 in
theorem gX3_mark_X3_contractAt : GoodIn wsX3_mark (wsV RX3 83 RX3 yX3_contractAt wsX3_contractAt) := goodIn_app (goodIn_of _ (by decide +kernel)) ggX3_mark_X3_contractAt
set_option maxRecDepth 20000 in
theorem ggX3_mark_X3_checkSide : GoodIn wsX3_mark wsX3_checkSide := goodIn_ca (goodIn_r _ [45, 1, 2, 23, 24, 11, 25] (by decide +kernel) (by decide +kernel)) (goodIn_sub (fun _ h => List.mem_cons_of_mem _ (List.mem_append_left _ (List.mem_append_left _ (List.mem_append_right _ h)))) (by decide +kernel))
set_option maxRecDepth 20000 in
theorem gX3_mark_X3_checkSide : GoodIn wsX3_mark (va_wsS RX3 40 yX3_checkSide wsX3_checkSide) := goodIn_app (goodIn_of _ (by decide +kernel)) ggX3_mark_X3_checkSide
set_option maxRecDepth 20000 in
theorem ggX3_mark_X3_checkClause : GoodIn wsX3_mark wsX3_checkClause := goodIn_ca (goodIn_r _ [48, 1, 2, 23, 24, 11, 25] (by decide +kernel) (by decide +kernel)) (goodIn_sub (fun _ h => List.mem_cons_of_mem _ (List.mem_append_left _ (List.mem_append_left _ (List.mem_append_right _ h)))) (by decide +kernel))
set_option maxRecDepth 20000 in
theorem gX3_mark_X3_checkClause : GoodIn wsX3_mark (va_wsS RX3 36 yX3_checkClause wsX3_checkClause) := goodIn_app (goodIn_of _ (by decide +kernel)) ggX3_mark_X3_checkClause
set_option maxRecDepth 20000 in
theorem ggX3_mark_X3_isWithin : GoodIn wsX3_mark wsX3_isWithin := goodIn_r _ [25] (by decide +kernel) (by decide +kernel)
set_option maxRecDepth 20000 in
theorem gX3_mark_X3_isWithin : GoodIn wsX3_mark (va_wsS RX3 43 yX3_isWithin wsX3_isWithin) := goodIn_app (goodIn_of _ (by decide +kernel)) ggX3_mark_X3_isWithin
set_option maxRecDepth 20000 in
theorem ggX3_mark_X3_checkDraft : GoodIn wsX3_mark wsX3_checkDraft := goodIn_ca (goodIn_r _ [51, 3, 4, 52, 53, 54, 55, 56, 57, 72, 73, 74, 75, 76] (by decide +kernel) (by decide +kernel)) (goodIn_sub (fun _ h => List.mem_cons_of_mem _ (List.mem_append_left _ (List.mem_append_right _ h))) (by decide +kernel))
set_option maxRecDepth 20000 in
theorem gX3_mark_X3_checkDraft : GoodIn wsX3_mark (va_wsS RX3 89 yX3_checkDraft wsX3_checkDraft) := goodIn_app (goodIn_of _ (by decide +kernel)) ggX3_mark_X3_checkDraft
set_option maxRecDepth 20000 in
theorem ggX3_mark_X0_bringIn : GoodIn wsX3_mark wsX0_bringIn := goodIn_r _ [61, 62, 63, 64, 65, 66, 55, 67, 57, 72, 73, 74, 75, 76] (by decide +kernel) (by decide +kernel)
set_option maxRecDepth 20000 in
theorem gX3_mark_X0_bringIn : GoodIn wsX3_mark (wsV RX3 98 RX0 yX0_bringIn wsX0_bringIn) := goodIn_app (goodIn_of _ (by decide +kernel)) ggX3_mark_X0_bringIn
set_option maxRecDepth 20000 in
theorem ggX3_mark_X0_changeMark : GoodIn wsX3_mark wsX0_changeMark := goodIn_r _ [71, 63, 62, 64, 65, 66, 55, 67, 57, 72, 73, 74, 75, 76] (by decide +kernel) (by decide +kernel)
set_option maxRecDepth 20000 in
theorem gX3_mark_X0_changeMark : GoodIn wsX3_mark (wsV RX3 106 RX0 yX0_changeMark wsX0_changeMark) := goodIn_app (goodIn_of _ (by decide +kernel)) ggX3_mark_X0_changeMark
theorem dX3_mark_0 : decode cX3_mark 0 = .ok (.aload_n 0, 1) := by decide +kernel
theorem dX3_mark_1 : decode cX3_mark 1 = .ok (.iload_n 1, 1) := by decide +kernel
theorem dX3_mark_2 : decode cX3_mark 2 = .ok (.invokevirtual 83, 3) := by decide +kernel
theorem dX3_mark_5 : decode cX3_mark 5 = .ok (.astore 5, 2) := by decide +kernel
theorem dX3_mark_7 : decode cX3_mark 7 = .ok (.iload_n 2, 1) := by decide +kernel
theorem dX3_mark_8 : decode cX3_mark 8 = .ok (.invokestatic 40, 3) := by decide +kernel
theorem dX3_mark_11 : decode cX3_mark 11 = .ok (.iload_n 3, 1) := by decide +kernel
theorem dX3_mark_12 : decode cX3_mark 12 = .ok (.invokestatic 36, 3) := by decide +kernel
theorem dX3_mark_15 : decode cX3_mark 15 = .ok (.iload 4, 2) := by decide +kernel
theorem dX3_mark_17 : decode cX3_mark 17 = .ok (.iconst 1, 1) := by decide +kernel
theorem dX3_mark_18 : decode cX3_mark 18 = .ok (.iconst 2, 1) := by decide +kernel
theorem dX3_mark_19 : decode cX3_mark 19 = .ok (.invokestatic 43, 3) := by decide +kernel
theorem dX3_mark_22 : decode cX3_mark 22 = .ok (.ifCond .ne 13, 3) := by decide +kernel
theorem dX3_mark_25 : decode cX3_mark 25 = .ok (.new 47, 3) := by decide +kernel
theorem dX3_mark_28 : decode cX3_mark 28 = .ok (.dup, 1) := by decide +kernel
theorem dX3_mark_29 : decode cX3_mark 29 = .ok (.ldc 87, 2) := by decide +kernel
theorem dX3_mark_31 : decode cX3_mark 31 = .ok (.invokespecial 51, 3) := by decide +kernel
theorem dX3_mark_34 : decode cX3_mark 34 = .ok (.athrow, 1) := by decide +kernel
theorem dX3_mark_35 : decode cX3_mark 35 = .ok (.aload 5, 2) := by decide +kernel
theorem dX3_mark_37 : decode cX3_mark 37 = .ok (.invokestatic 89, 3) := by decide +kernel
theorem dX3_mark_40 : decode cX3_mark 40 = .ok (.aload 5, 2) := by decide +kernel
theorem dX3_mark_42 : decode cX3_mark 42 = .ok (.getfield 93, 3) := by decide +kernel
theorem dX3_mark_45 : decode cX3_mark 45 = .ok (.iload_n 3, 1) := by decide +kernel
theorem dX3_mark_46 : decode cX3_mark 46 = .ok (.aaload, 1) := by decide +kernel
theorem dX3_mark_47 : decode cX3_mark 47 = .ok (.ifnonnull 43, 3) := by decide +kernel
theorem dX3_mark_50 : decode cX3_mark 50 = .ok (.iload 4, 2) := by decide +kernel
theorem dX3_mark_52 : decode cX3_mark 52 = .ok (.iconst 2, 1) := by decide +kernel
theorem dX3_mark_53 : decode cX3_mark 53 = .ok (.if_icmp .eq 12, 3) := by decide +kernel
theorem dX3_mark_56 : decode cX3_mark 56 = .ok (.aload_n 0, 1) := by decide +kernel
theorem dX3_mark_57 : decode cX3_mark 57 = .ok (.getfield 11, 3) := by decide +kernel
theorem dX3_mark_60 : decode cX3_mark 60 = .ok (.iload_n 3, 1) := by decide +kernel
theorem dX3_mark_61 : decode cX3_mark 61 = .ok (.aaload, 1) := by decide +kernel
theorem dX3_mark_62 : decode cX3_mark 62 = .ok (.ifnonnull 13, 3) := by decide +kernel
theorem dX3_mark_65 : decode cX3_mark 65 = .ok (.new 58, 3) := by decide +kernel
theorem dX3_mark_68 : decode cX3_mark 68 = .ok (.dup, 1) := by decide +kernel
theorem dX3_mark_69 : decode cX3_mark 69 = .ok (.ldc 96, 2) := by decide +kernel
theorem dX3_mark_71 : decode cX3_mark 71 = .ok (.invokespecial 62, 3) := by decide +kernel
theorem dX3_mark_74 : decode cX3_mark 74 = .ok (.athrow, 1) := by decide +kernel
theorem dX3_mark_75 : decode cX3_mark 75 = .ok (.aload 5, 2) := by decide +kernel
theorem dX3_mark_77 : decode cX3_mark 77 = .ok (.aload_n 0, 1) := by decide +kernel
theorem dX3_mark_78 : decode cX3_mark 78 = .ok (.getfield 11, 3) := by decide +kernel
theorem dX3_mark_81 : decode cX3_mark 81 = .ok (.iload_n 3, 1) := by decide +kernel
theorem dX3_mark_82 : decode cX3_mark 82 = .ok (.aaload, 1) := by decide +kernel
theorem dX3_mark_83 : decode cX3_mark 83 = .ok (.iload_n 3, 1) := by decide +kernel
theorem dX3_mark_84 : decode cX3_mark 84 = .ok (.iload_n 2, 1) := by decide +kernel
theorem dX3_mark_85 : decode cX3_mark 85 = .ok (.invokevirtual 98, 3) := by decide +kernel
theorem dX3_mark_88 : decode cX3_mark 88 = .ok (.iconst 0, 1) := by decide +kernel
theorem dX3_mark_89 : decode cX3_mark 89 = .ok (.ireturn, 1) := by decide +kernel
theorem dX3_mark_90 : decode cX3_mark 90 = .ok (.aload 5, 2) := by decide +kernel
theorem dX3_mark_92 : decode cX3_mark 92 = .ok (.getfield 102, 3) := by decide +kernel
theorem dX3_mark_95 : decode cX3_mark 95 = .ok (.iload_n 2, 1) := by decide +kernel
theorem dX3_mark_96 : decode cX3_mark 96 = .ok (.aaload, 1) := by decide +kernel
theorem dX3_mark_97 : decode cX3_mark 97 = .ok (.iload_n 3, 1) := by decide +kernel
theorem dX3_mark_98 : decode cX3_mark 98 = .ok (.iaload, 1) := by decide +kernel
theorem dX3_mark_99 : decode cX3_mark 99 = .ok (.istore 6, 2) := by decide +kernel
theorem dX3_mark_101 : decode cX3_mark 101 = .ok (.aload 5, 2) := by decide +kernel
theorem dX3_mark_103 : decode cX3_mark 103 = .ok (.iload_n 2, 1) := by decide +kernel
theorem dX3_mark_104 : decode cX3_mark 104 = .ok (.iload_n 3, 1) := by decide +kernel
theorem dX3_mark_105 : decode cX3_mark 105 = .ok (.iload 4, 2) := by decide +kernel
theorem dX3_mark_107 : decode cX3_mark 107 = .ok (.invokevirtual 106, 3) := by decide +kernel
theorem dX3_mark_110 : decode cX3_mark 110 = .ok (.iload 6, 2) := by decide +kernel
theorem dX3_mark_112 : decode cX3_mark 112 = .ok (.ireturn, 1) := by decide +kernel
set_option maxRecDepth 20000 in
theorem ggX3_renew_X3_contractAt : GoodIn wsX3_renew wsX3_contractAt := goodIn_ca (goodIn_r _ [8, 9, 10, 11, 12, 13, 14, 15, 16, 17, 18, 19, 20, 7, 21, 22, 23, 24, 25, 26, 27, 28, 29, 30, 31, 32, 33, 34, 35, 36, 37, 38, 82, 83, 84, 85, 86, 87, 88, 89, 90] (by decide +kernel) (by decide +kernel)) (goodIn_sub (fun _ h => List.mem_cons_of_mem _ (List.mem_append_left _ (List.mem_append_right _ h))) (by decide +kernel))
set_option maxRecDepth 20000 in
theorem gX3_renew_X3_contractAt : GoodIn wsX3_renew (wsV RX3 83 RX3 yX3_contractAt wsX3_contractAt) := goodIn_app (goodIn_of _ (by decide +kernel)) ggX3_renew_X3_contractAt
set_option maxRecDepth 20000 in
theorem ggX3_renew_X3_checkSide : GoodIn wsX3_renew wsX3_checkSide := goodIn_ca (goodIn_r _ [41, 42, 43, 19, 20, 7, 21] (by decide +kernel) (by decide +kernel)) (goodIn_sub (fun _ h => List.mem_cons_of_mem _ (List.mem_append_right _ h)) (by decide +kernel))
set_option maxRecDepth 20000 in
theorem gX3_renew_X3_checkSide : GoodIn wsX3_renew (va_wsS RX3 40 yX3_checkSide wsX3_checkSide) := goodIn_app (goodIn_of _ (by decide +kernel)) ggX3_renew_X3_checkSide
set_option maxRecDepth 20000 in
theorem ggX3_renew_X3_checkClause : GoodIn wsX3_renew wsX3_checkClause := goodIn_ca (goodIn_r _ [46, 42, 43, 19, 20, 7, 21] (by decide +kernel) (by decide +kernel)) (goodIn_sub (fun _ h => List.mem_cons_of_mem _ (List.mem_append_right _ h)) (by decide +kernel))
set_option maxRecDepth 20000 in
theorem gX3_renew_X3_checkClause : GoodIn wsX3_renew (va_wsS RX3 36 yX3_checkClause wsX3_checkClause) := goodIn_app (goodIn_of _ (by decide +kernel)) ggX3_renew_X3_checkClause
set_option maxRecDepth 20000 in
theorem ggX3_renew_X3_checkDraft : GoodIn wsX3_renew wsX3_checkDraft := goodIn_ca (goodIn_r _ [49, 1, 2, 50, 51, 52, 53, 54, 55, 91, 92, 93, 94, 95] (by decide +kernel) (by decide +kernel)) (goodIn_sub (fun _ h => List.mem_cons_of_mem _ (List.mem_append_left _ (List.mem_append_left _ (List.mem_append_right _ h)))) (by decide +kernel))
set_option maxRecDepth 20000 in
theorem gX3_renew_X3_checkDraft : GoodIn wsX3_renew (va_wsS RX3 89 yX3_checkDraft wsX3_checkDraft) := goodIn_app (goodIn_of _ (by decide +kernel)) ggX3_renew_X3_checkDraft
set_option maxRecDepth 20000 in
theorem ggX3_renew_X3_hasLaterVersion : GoodIn wsX3_renew wsX3_hasLaterVersion := goodIn_r _ [59, 60, 61, 62, 7, 63, 64, 65, 66, 67, 68, 69, 70, 71, 3, 91, 92, 93, 94, 95, 96, 97, 98, 99, 100, 82, 83, 84, 85, 86, 87] (by decide +kernel) (by decide +kernel)
set_option maxRecDepth 20000 in
theorem gX3_renew_X3_hasLaterVersion : GoodIn wsX3_renew (wsV RX3 110 RX3 yX3_hasLaterVersion wsX3_hasLaterVersion) := goodIn_app (goodIn_of _ (by decide +kernel)) ggX3_renew_X3_hasLaterVersion
set_option maxRecDepth 20000 in
theorem ggX3_renew_X3_itemNumber : GoodIn wsX3_renew wsX3_itemNumber := goodIn_r _ [63, 60, 64, 65, 7, 66, 67, 91, 92, 93, 94, 95, 96, 97, 98, 99, 100] (by decide +kernel) (by decide +kernel)
set_option maxRecDepth 20000 in
theorem gX3_renew_X3_itemNumber : GoodIn wsX3_renew (va_wsS RX3 116 yX3_itemNumber wsX3_itemNumber) := goodIn_app (goodIn_of _ (by decide +kernel)) ggX3_renew_X3_itemNumber
set_option maxRecDepth 20000 in
theorem ggX3_renew_X0_bringIn : GoodIn wsX3_renew wsX0_bringIn := goodIn_r _ [75, 76, 77, 78, 79, 80, 53, 81, 55, 91, 92, 93, 94, 95] (by decide +kernel) (by decide +kernel)
set_option maxRecDepth 20000 in
theorem gX3_renew_X0_bringIn : GoodIn wsX3_renew (wsV RX3 98 RX0 yX0_bringIn wsX0_bringIn) := goodIn_app (goodIn_of _ (by decide +kernel)) ggX3_renew_X0_bringIn
theorem dX3_renew_0 : decode cX3_renew 0 = .ok (.aload_n 0, 1) := by decide +kernel
theorem dX3_renew_1 : decode cX3_renew 1 = .ok (.iload_n 1, 1) := by decide +kernel
theorem dX3_renew_2 : decode cX3_renew 2 = .ok (.invokevirtual 83, 3) := by decide +kernel
theorem dX3_renew_5 : decode cX3_renew 5 = .ok (.astore 4, 2) := by decide +kernel
theorem dX3_renew_7 : decode cX3_renew 7 = .ok (.iload_n 2, 1) := by decide +kernel
theorem dX3_renew_8 : decode cX3_renew 8 = .ok (.invokestatic 40, 3) := by decide +kernel
theorem dX3_renew_11 : decode cX3_renew 11 = .ok (.iload_n 3, 1) := by decide +kernel
theorem dX3_renew_12 : decode cX3_renew 12 = .ok (.invokestatic 36, 3) := by decide +kernel
theorem dX3_renew_15 : decode cX3_renew 15 = .ok (.aload 4, 2) := by decide +kernel
theorem dX3_renew_17 : decode cX3_renew 17 = .ok (.invokestatic 89, 3) := by decide +kernel
theorem dX3_renew_20 : decode cX3_renew 20 = .ok (.aload_n 0, 1) := by decide +kernel
theorem dX3_renew_21 : decode cX3_renew 21 = .ok (.aload 4, 2) := by decide +kernel
theorem dX3_renew_23 : decode cX3_renew 23 = .ok (.iload_n 3, 1) := by decide +kernel
theorem dX3_renew_24 : decode cX3_renew 24 = .ok (.invokevirtual 110, 3) := by decide +kernel
theorem dX3_renew_27 : decode cX3_renew 27 = .ok (.ifCond .ne 13, 3) := by decide +kernel
theorem dX3_renew_30 : decode cX3_renew 30 = .ok (.new 58, 3) := by decide +kernel
theorem dX3_renew_33 : decode cX3_renew 33 = .ok (.dup, 1) := by decide +kernel
theorem dX3_renew_34 : decode cX3_renew 34 = .ok (.ldc 114, 2) := by decide +kernel
theorem dX3_renew_36 : decode cX3_renew 36 = .ok (.invokespecial 62, 3) := by decide +kernel
theorem dX3_renew_39 : decode cX3_renew 39 = .ok (.athrow, 1) := by decide +kernel
theorem dX3_renew_40 : decode cX3_renew 40 = .ok (.aload 4, 2) := by decide +kernel
theorem dX3_renew_42 : decode cX3_renew 42 = .ok (.iload_n 3, 1) := by decide +kernel
theorem dX3_renew_43 : decode cX3_renew 43 = .ok (.invokestatic 116, 3) := by decide +kernel
theorem dX3_renew_46 : decode cX3_renew 46 = .ok (.istore 5, 2) := by decide +kernel
theorem dX3_renew_48 : decode cX3_renew 48 = .ok (.aload 4, 2) := by decide +kernel
theorem dX3_renew_50 : decode cX3_renew 50 = .ok (.aload_n 0, 1) := by decide +kernel
theorem dX3_renew_51 : decode cX3_renew 51 = .ok (.getfield 11, 3) := by decide +kernel
theorem dX3_renew_54 : decode cX3_renew 54 = .ok (.iload_n 3, 1) := by decide +kernel
theorem dX3_renew_55 : decode cX3_renew 55 = .ok (.aaload, 1) := by decide +kernel
theorem dX3_renew_56 : decode cX3_renew 56 = .ok (.iload_n 3, 1) := by decide +kernel
theorem dX3_renew_57 : decode cX3_renew 57 = .ok (.iload_n 2, 1) := by decide +kernel
theorem dX3_renew_58 : decode cX3_renew 58 = .ok (.invokevirtual 98, 3) := by decide +kernel
theorem dX3_renew_61 : decode cX3_renew 61 = .ok (.iload 5, 2) := by decide +kernel
theorem dX3_renew_63 : decode cX3_renew 63 = .ok (.ireturn, 1) := by decide +kernel
set_option maxRecDepth 20000 in
theorem ggX3_version_X3_contractAt : GoodIn wsX3_version wsX3_contractAt := goodIn_ca (goodIn_r _ [5, 6, 7, 8, 9, 10, 11, 12, 13, 14, 15, 16, 17, 4, 18, 19, 20, 21, 22, 23, 24, 25, 26, 27, 28, 29, 30, 31, 32, 33, 34, 35, 49, 50, 51, 52, 53, 54, 55, 56, 57] (by decide +kernel) (by decide +kernel)) (goodIn_sub (fun _ h => List.mem_cons_of_mem _ (List.mem_append_left _ (List.mem_append_right _ h))) (by decide +kernel))
set_option maxRecDepth 20000 in
theorem gX3_version_X3_contractAt : GoodIn wsX3_version (wsV RX3 83 RX3 yX3_contractAt wsX3_contractAt) := goodIn_app (goodIn_of _ (by decide +kernel)) ggX3_version_X3_contractAt
set_option maxRecDepth 20000 in
theorem ggX3_version_X3_checkClause : GoodIn wsX3_version wsX3_checkClause := goodIn_ca (goodIn_r _ [38, 39, 40, 16, 17, 4, 18] (by decide +kernel) (by decide +kernel)) (goodIn_sub (fun _ h => List.mem_cons_of_mem _ (List.mem_append_right _ h)) (by decide +kernel))
set_option maxRecDepth 20000 in
theorem gX3_version_X3_checkClause : GoodIn wsX3_version (va_wsS RX3 36 yX3_checkClause wsX3_checkClause) := goodIn_app (goodIn_of _ (by decide +kernel)) ggX3_version_X3_checkClause
set_option maxRecDepth 20000 in
theorem ggX3_version_X3_itemNumber : GoodIn wsX3_version wsX3_itemNumber := goodIn_r _ [43, 44, 45, 46, 4, 47, 48, 58, 59, 60, 61, 62, 63, 64, 65, 66, 67] (by decide +kernel) (by decide +kernel)
set_option maxRecDepth 20000 in
theorem gX3_version_X3_itemNumber : GoodIn wsX3_version (va_wsS RX3 116 yX3_itemNumber wsX3_itemNumber) := goodIn_app (goodIn_of _ (by decide +kernel)) ggX3_version_X3_itemNumber
theorem dX3_version_0 : decode cX3_version 0 = .ok (.aload_n 0, 1) := by decide +kernel
theorem dX3_version_1 : decode cX3_version 1 = .ok (.iload_n 1, 1) := by decide +kernel
theorem dX3_version_2 : decode cX3_version 2 = .ok (.invokevirtual 83, 3) := by decide +kernel
theorem dX3_version_5 : decode cX3_version 5 = .ok (.astore_n 3, 1) := by decide +kernel
theorem dX3_version_6 : decode cX3_version 6 = .ok (.iload_n 2, 1) := by decide +kernel
theorem dX3_version_7 : decode cX3_version 7 = .ok (.invokestatic 36, 3) := by decide +kernel
theorem dX3_version_10 : decode cX3_version 10 = .ok (.aload_n 3, 1) := by decide +kernel
theorem dX3_version_11 : decode cX3_version 11 = .ok (.iload_n 2, 1) := by decide +kernel
theorem dX3_version_12 : decode cX3_version 12 = .ok (.invokestatic 116, 3) := by decide +kernel
theorem dX3_version_15 : decode cX3_version 15 = .ok (.ireturn, 1) := by decide +kernel
set_option maxRecDepth 20000 in
theorem ggX3_offered_X3_contractAt : GoodIn wsX3_offered wsX3_contractAt := goodIn_ca (goodIn_r _ [5, 6, 7, 8, 9, 10, 11, 12, 13, 14, 15, 16, 17, 4, 18, 19, 20, 21, 22, 23, 24, 25, 26, 27, 28, 29, 30, 31, 32, 33, 34, 35, 59, 60, 61, 62, 63, 64, 65, 66, 67] (by decide +kernel) (by decide +kernel)) (goodIn_sub (fun _ h => List.mem_cons_of_mem _ (List.mem_append_right _ h)) (by decide +kernel))
set_option maxRecDepth 20000 in
theorem gX3_offered_X3_contractAt : GoodIn wsX3_offered (wsV RX3 83 RX3 yX3_contractAt wsX3_contractAt) := goodIn_app (goodIn_of _ (by decide +kernel)) ggX3_offered_X3_contractAt
set_option maxRecDepth 20000 in
theorem ggX3_offered_X0_isDraft : GoodIn wsX3_offered wsX0_isDraft := goodIn_r _ [40, 41, 68, 69, 70, 71, 72] (by decide +kernel) (by decide +kernel)
set_option maxRecDepth 20000 in
theorem gX3_offered_X0_isDraft : GoodIn wsX3_offered (wsV RX3 120 RX0 yX0_isDraft wsX0_isDraft) := goodIn_app (goodIn_of _ (by decide +kernel)) ggX3_offered_X0_isDraft
set_option maxRecDepth 20000 in
theorem ggX3_offered_X3_hasLaterVersion : GoodIn wsX3_offered wsX3_hasLaterVersion := goodIn_r _ [45, 46, 47, 48, 4, 49, 50, 51, 52, 53, 54, 55, 56, 57, 58, 68, 69, 70, 71, 72, 73, 74, 75, 76, 77, 59, 60, 61, 62, 63, 64] (by decide +kernel) (by decide +kernel)
set_option maxRecDepth 20000 in
theorem gX3_offered_X3_hasLaterVersion : GoodIn wsX3_offered (wsV RX3 110 RX3 yX3_hasLaterVersion wsX3_hasLaterVersion) := goodIn_app (goodIn_of _ (by decide +kernel)) ggX3_offered_X3_hasLaterVersion
theorem dX3_offered_0 : decode cX3_offered 0 = .ok (.aload_n 0, 1) := by decide +kernel
theorem dX3_offered_1 : decode cX3_offered 1 = .ok (.iload_n 1, 1) := by decide +kernel
theorem dX3_offered_2 : decode cX3_offered 2 = .ok (.invokevirtual 83, 3) := by decide +kernel
theorem dX3_offered_5 : decode cX3_offered 5 = .ok (.astore_n 2, 1) := by decide +kernel
theorem dX3_offered_6 : decode cX3_offered 6 = .ok (.aload_n 2, 1) := by decide +kernel
theorem dX3_offered_7 : decode cX3_offered 7 = .ok (.invokevirtual 120, 3) := by decide +kernel
theorem dX3_offered_10 : decode cX3_offered 10 = .ok (.ifCond .ne 5, 3) := by decide +kernel
theorem dX3_offered_13 : decode cX3_offered 13 = .ok (.iconst 0, 1) := by decide +kernel
theorem dX3_offered_14 : decode cX3_offered 14 = .ok (.ireturn, 1) := by decide +kernel
theorem dX3_offered_15 : decode cX3_offered 15 = .ok (.iconst 0, 1) := by decide +kernel
theorem dX3_offered_16 : decode cX3_offered 16 = .ok (.istore_n 3, 1) := by decide +kernel
theorem dX3_offered_17 : decode cX3_offered 17 = .ok (.iconst 0, 1) := by decide +kernel
theorem dX3_offered_18 : decode cX3_offered 18 = .ok (.istore 4, 2) := by decide +kernel
theorem dX3_offered_20 : decode cX3_offered 20 = .ok (.iload 4, 2) := by decide +kernel
theorem dX3_offered_22 : decode cX3_offered 22 = .ok (.bipush 10, 2) := by decide +kernel
theorem dX3_offered_24 : decode cX3_offered 24 = .ok (.if_icmp .ge 22, 3) := by decide +kernel
theorem dX3_offered_27 : decode cX3_offered 27 = .ok (.aload_n 0, 1) := by decide +kernel
theorem dX3_offered_28 : decode cX3_offered 28 = .ok (.aload_n 2, 1) := by decide +kernel
theorem dX3_offered_29 : decode cX3_offered 29 = .ok (.iload 4, 2) := by decide +kernel
theorem dX3_offered_31 : decode cX3_offered 31 = .ok (.invokevirtual 110, 3) := by decide +kernel
theorem dX3_offered_34 : decode cX3_offered 34 = .ok (.ifCond .eq 6, 3) := by decide +kernel
theorem dX3_offered_37 : decode cX3_offered 37 = .ok (.iinc 3 1, 3) := by decide +kernel
theorem dX3_offered_40 : decode cX3_offered 40 = .ok (.iinc 4 1, 3) := by decide +kernel
theorem dX3_offered_43 : decode cX3_offered 43 = .ok (.goto (-23), 3) := by decide +kernel
theorem dX3_offered_46 : decode cX3_offered 46 = .ok (.iload_n 3, 1) := by decide +kernel
theorem dX3_offered_47 : decode cX3_offered 47 = .ok (.ireturn, 1) := by decide +kernel
set_option maxRecDepth 20000 in
theorem ggX3_whyNot_X3_contractAt : GoodIn wsX3_whyNot wsX3_contractAt := goodIn_ca (goodIn_r _ [5, 6, 7, 8, 9, 10, 11, 12, 13, 14, 15, 16, 17, 4, 18, 19, 20, 21, 22, 23, 24, 25, 26, 27, 28, 29, 30, 31, 32, 33, 34, 35, 61, 62, 63, 64, 65, 66, 67, 68, 69] (by decide +kernel) (by decide +kernel)) (goodIn_sub (fun _ h => List.mem_cons_of_mem _ (List.mem_append_right _ h)) (by decide +kernel))
set_option maxRecDepth 20000 in
theorem gX3_whyNot_X3_contractAt : GoodIn wsX3_whyNot (wsV RX3 83 RX3 yX3_contractAt wsX3_contractAt) := goodIn_app (goodIn_of _ (by decide +kernel)) ggX3_whyNot_X3_contractAt
set_option maxRecDepth 20000 in
theorem ggX3_whyNot_X3_obstacle : GoodIn wsX3_whyNot wsX3_obstacle := goodIn_r _ [39, 40, 41, 42, 43, 44, 45, 46, 47, 48, 49, 50, 51, 52, 53, 54, 55, 56, 57, 58, 59, 4, 60, 61, 62, 63, 64, 65, 66, 70, 71, 72, 73, 74] (by decide +kernel) (by decide +kernel)
set_option maxRecDepth 20000 in
theorem gX3_whyNot_X3_obstacle : GoodIn wsX3_whyNot (wsV RX3 124 RX3 yX3_obstacle wsX3_obstacle) := goodIn_app (goodIn_of _ (by decide +kernel)) ggX3_whyNot_X3_obstacle
theorem dX3_whyNot_0 : decode cX3_whyNot 0 = .ok (.aload_n 0, 1) := by decide +kernel
theorem dX3_whyNot_1 : decode cX3_whyNot 1 = .ok (.aload_n 0, 1) := by decide +kernel
theorem dX3_whyNot_2 : decode cX3_whyNot 2 = .ok (.iload_n 1, 1) := by decide +kernel
theorem dX3_whyNot_3 : decode cX3_whyNot 3 = .ok (.invokevirtual 83, 3) := by decide +kernel
theorem dX3_whyNot_6 : decode cX3_whyNot 6 = .ok (.invokevirtual 124, 3) := by decide +kernel
theorem dX3_whyNot_9 : decode cX3_whyNot 9 = .ok (.ireturn, 1) := by decide +kernel
set_option maxRecDepth 20000 in
theorem ggX3_sign_X3_contractAt : GoodIn wsX3_sign wsX3_contractAt := goodIn_ca (goodIn_r _ [8, 9, 10, 11, 12, 13, 14, 15, 16, 17, 18, 19, 20, 7, 21, 22, 23, 24, 25, 26, 27, 28, 29, 30, 31, 32, 33, 34, 35, 36, 37, 38, 148, 149, 150, 151, 152, 153, 154, 155, 156] (by decide +kernel) (by decide +kernel)) (goodIn_sub (fun _ h => List.mem_cons_of_mem _ (List.mem_append_left _ (List.mem_append_right _ h))) (by decide +kernel))
set_option maxRecDepth 20000 in
theorem gX3_sign_X3_contractAt : GoodIn wsX3_sign (wsV RX3 83 RX3 yX3_contractAt wsX3_contractAt) := goodIn_app (goodIn_of _ (by decide +kernel)) ggX3_sign_X3_contractAt
set_option maxRecDepth 20000 in
theorem ggX3_sign_X3_checkSide : GoodIn wsX3_sign wsX3_checkSide := goodIn_ca (goodIn_r _ [41, 42, 43, 19, 20, 7, 21] (by decide +kernel) (by decide +kernel)) (goodIn_sub (fun _ h => List.mem_cons_of_mem _ (List.mem_append_right _ h)) (by decide +kernel))
set_option maxRecDepth 20000 in
theorem gX3_sign_X3_checkSide : GoodIn wsX3_sign (va_wsS RX3 40 yX3_checkSide wsX3_checkSide) := goodIn_app (goodIn_of _ (by decide +kernel)) ggX3_sign_X3_checkSide
set_option maxRecDepth 20000 in
theorem ggX3_sign_X3_obstacle : GoodIn wsX3_sign wsX3_obstacle := goodIn_r _ [47, 48, 49, 50, 51, 52, 53, 54, 55, 56, 57, 58, 59, 60, 61, 62, 63, 64, 65, 66, 67, 7, 68, 148, 149, 150, 151, 152, 153, 143, 144, 145, 146, 147] (by decide +kernel) (by decide +kernel)
set_option maxRecDepth 20000 in
theorem gX3_sign_X3_obstacle : GoodIn wsX3_sign (wsV RX3 124 RX3 yX3_obstacle wsX3_obstacle) := goodIn_app (goodIn_of _ (by decide +kernel)) ggX3_sign_X3_obstacle
set_option maxRecDepth 20000 in
theorem ggX3_sign_X0_isDraft : GoodIn wsX3_sign wsX0_isDraft := goodIn_r _ [59, 60, 143, 144, 145, 146, 147] (by decide +kernel) (by decide +kernel)
set_option maxRecDepth 20000 in
theorem gX3_sign_X0_isDraft : GoodIn wsX3_sign (wsV RX3 120 RX0 yX0_isDraft wsX0_isDraft) := goodIn_app (goodIn_of _ (by decide +kernel)) ggX3_sign_X0_isDraft
set_option maxRecDepth 20000 in
theorem ggX3_sign_X3_makeDuties : GoodIn wsX3_sign wsX3_makeDuties := goodIn_r _ [72, 73, 74, 75, 76, 77, 78, 79, 80, 81, 82, 83, 84, 85, 86, 87, 88, 89, 90, 91, 92, 16, 93, 94, 95, 38, 18, 96, 97, 98, 99, 100, 101, 102, 103, 104, 105, 106, 107, 108, 109, 110, 111, 112, 113, 114, 115, 116, 117, 118, 119, 120, 121, 122, 123, 124, 125, 126, 127, 128, 129, 130, 131, 132, 133, 134, 135, 136, 137, 138, 139, 140, 141, 142, 143, 144, 145, 146, 147, 148, 149, 150, 151, 152, 153, 157, 158, 159, 160, 161, 162, 163, 164, 165, 154, 155, 156] (by decide +kernel) (by decide +kernel)
set_option maxRecDepth 20000 in
theorem gX3_sign_X3_makeDuties : GoodIn wsX3_sign (wsV RX3 134 RX3 yX3_makeDuties wsX3_makeDuties) := goodIn_app (goodIn_of _ (by decide +kernel)) ggX3_sign_X3_makeDuties
theorem dX3_sign_0 : decode cX3_sign 0 = .ok (.aload_n 0, 1) := by decide +kernel
theorem dX3_sign_1 : decode cX3_sign 1 = .ok (.iload_n 1, 1) := by decide +kernel
theorem dX3_sign_2 : decode cX3_sign 2 = .ok (.invokevirtual 83, 3) := by decide +kernel
theorem dX3_sign_5 : decode cX3_sign 5 = .ok (.astore_n 3, 1) := by decide +kernel
theorem dX3_sign_6 : decode cX3_sign 6 = .ok (.iload_n 2, 1) := by decide +kernel
theorem dX3_sign_7 : decode cX3_sign 7 = .ok (.invokestatic 40, 3) := by decide +kernel
theorem dX3_sign_10 : decode cX3_sign 10 = .ok (.aload_n 0, 1) := by decide +kernel
theorem dX3_sign_11 : decode cX3_sign 11 = .ok (.aload_n 3, 1) := by decide +kernel
theorem dX3_sign_12 : decode cX3_sign 12 = .ok (.invokevirtual 124, 3) := by decide +kernel
theorem dX3_sign_15 : decode cX3_sign 15 = .ok (.ifCond .ne 12, 3) := by decide +kernel
theorem dX3_sign_18 : decode cX3_sign 18 = .ok (.aload_n 3, 1) := by decide +kernel
theorem dX3_sign_19 : decode cX3_sign 19 = .ok (.getfield 128, 3) := by decide +kernel
theorem dX3_sign_22 : decode cX3_sign 22 = .ok (.iload_n 2, 1) := by decide +kernel
theorem dX3_sign_23 : decode cX3_sign 23 = .ok (.baload, 1) := by decide +kernel
theorem dX3_sign_24 : decode cX3_sign 24 = .ok (.ifCond .eq 13, 3) := by decide +kernel
theorem dX3_sign_27 : decode cX3_sign 27 = .ok (.new 58, 3) := by decide +kernel
theorem dX3_sign_30 : decode cX3_sign 30 = .ok (.dup, 1) := by decide +kernel
theorem dX3_sign_31 : decode cX3_sign 31 = .ok (.ldc 132, 2) := by decide +kernel
theorem dX3_sign_33 : decode cX3_sign 33 = .ok (.invokespecial 62, 3) := by decide +kernel
theorem dX3_sign_36 : decode cX3_sign 36 = .ok (.athrow, 1) := by decide +kernel
theorem dX3_sign_37 : decode cX3_sign 37 = .ok (.aload_n 3, 1) := by decide +kernel
theorem dX3_sign_38 : decode cX3_sign 38 = .ok (.getfield 128, 3) := by decide +kernel
theorem dX3_sign_41 : decode cX3_sign 41 = .ok (.iload_n 2, 1) := by decide +kernel
theorem dX3_sign_42 : decode cX3_sign 42 = .ok (.iconst 1, 1) := by decide +kernel
theorem dX3_sign_43 : decode cX3_sign 43 = .ok (.bastore, 1) := by decide +kernel
theorem dX3_sign_44 : decode cX3_sign 44 = .ok (.aload_n 3, 1) := by decide +kernel
theorem dX3_sign_45 : decode cX3_sign 45 = .ok (.invokevirtual 120, 3) := by decide +kernel
theorem dX3_sign_48 : decode cX3_sign 48 = .ok (.ifCond .eq 7, 3) := by decide +kernel
theorem dX3_sign_51 : decode cX3_sign 51 = .ok (.iconst 0, 1) := by decide +kernel
theorem dX3_sign_52 : decode cX3_sign 52 = .ok (.goto 8, 3) := by decide +kernel
theorem dX3_sign_55 : decode cX3_sign 55 = .ok (.aload_n 0, 1) := by decide +kernel
theorem dX3_sign_56 : decode cX3_sign 56 = .ok (.aload_n 3, 1) := by decide +kernel
theorem dX3_sign_57 : decode cX3_sign 57 = .ok (.invokevirtual 134, 3) := by decide +kernel
theorem dX3_sign_60 : decode cX3_sign 60 = .ok (.ireturn, 1) := by decide +kernel
set_option maxRecDepth 20000 in
theorem ggX3_pass_X3_isWithin : GoodIn wsX3_pass wsX3_isWithin := goodIn_r _ [9] (by decide +kernel) (by decide +kernel)
set_option maxRecDepth 20000 in
theorem gX3_pass_X3_isWithin : GoodIn wsX3_pass (va_wsS RX3 43 yX3_isWithin wsX3_isWithin) := goodIn_app (goodIn_of _ (by decide +kernel)) ggX3_pass_X3_isWithin
set_option maxRecDepth 20000 in
theorem ggX3_pass_X3_putOffHeldUpDuties : GoodIn wsX3_pass wsX3_putOffHeldUpDuties := goodIn_r _ [13, 14, 15, 16, 17, 18, 19, 20, 21, 22, 23, 24, 25, 26, 27, 28, 29, 30, 31, 32, 33, 34, 35, 36, 37, 38, 39, 40, 41, 42, 43, 44, 45, 46, 47, 48, 49, 50, 51, 52, 53, 70, 71, 72, 73, 74, 75, 76, 77, 78, 79, 80, 81, 82, 83, 84, 85, 86, 87, 88, 89, 90, 91, 92] (by decide +kernel) (by decide +kernel)
set_option maxRecDepth 20000 in
theorem gX3_pass_X3_putOffHeldUpDuties : GoodIn wsX3_pass (wsV RX3 141 RX3 yX3_putOffHeldUpDuties wsX3_putOffHeldUpDuties) := goodIn_app (goodIn_of _ (by decide +kernel)) ggX3_pass_X3_putOffHeldUpDuties
set_option maxRecDepth 20000 in
theorem ggX3_pass_X3_breachUncuredDuties : GoodIn wsX3_pass wsX3_breachUncuredDuties := goodIn_r _ [57, 14, 15, 58, 5, 16, 17, 18, 19, 20, 21, 22, 23, 24, 25, 26, 27, 28, 29, 30, 31, 32, 33, 34, 35, 36, 37, 38, 39, 59, 60, 61, 43, 62, 53, 63, 64, 65, 66, 67, 45, 46, 47, 48, 68, 69, 70, 71, 72, 73, 74, 75, 76, 77, 78, 79, 80, 81, 82, 83, 84, 85, 86, 87, 88, 89, 90, 91, 92] (by decide +kernel) (by decide +kernel)
set_option maxRecDepth 20000 in
theorem gX3_pass_X3_breachUncuredDuties : GoodIn wsX3_pass (wsV RX3 144 RX3 yX3_breachUncuredDuties wsX3_breachUncuredDuties) := goodIn_app (goodIn_of _ (by decide +kernel)) ggX3_pass_X3_breachUncuredDuties
theorem dX3_pass_0 : decode cX3_pass 0 = .ok (.iload_n 1, 1) := by decide +kernel
theorem dX3_pass_1 : decode cX3_pass 1 = .ok (.iconst 1, 1) := by decide +kernel
theorem dX3_pass_2 : decode cX3_pass 2 = .ok (.bipush 100, 2) := by decide +kernel
theorem dX3_pass_4 : decode cX3_pass 4 = .ok (.invokestatic 43, 3) := by decide +kernel
theorem dX3_pass_7 : decode cX3_pass 7 = .ok (.ifCond .ne 13, 3) := by decide +kernel
theorem dX3_pass_10 : decode cX3_pass 10 = .ok (.new 47, 3) := by decide +kernel
theorem dX3_pass_13 : decode cX3_pass 13 = .ok (.dup, 1) := by decide +kernel
theorem dX3_pass_14 : decode cX3_pass 14 = .ok (.ldc 137, 2) := by decide +kernel
theorem dX3_pass_16 : decode cX3_pass 16 = .ok (.invokespecial 51, 3) := by decide +kernel
theorem dX3_pass_19 : decode cX3_pass 19 = .ok (.athrow, 1) := by decide +kernel
theorem dX3_pass_20 : decode cX3_pass 20 = .ok (.aload_n 0, 1) := by decide +kernel
theorem dX3_pass_21 : decode cX3_pass 21 = .ok (.getfield 32, 3) := by decide +kernel
theorem dX3_pass_24 : decode cX3_pass 24 = .ok (.iload_n 1, 1) := by decide +kernel
theorem dX3_pass_25 : decode cX3_pass 25 = .ok (.iadd, 1) := by decide +kernel
theorem dX3_pass_26 : decode cX3_pass 26 = .ok (.sipush 9999, 3) := by decide +kernel
theorem dX3_pass_29 : decode cX3_pass 29 = .ok (.if_icmp .le 13, 3) := by decide +kernel
theorem dX3_pass_32 : decode cX3_pass 32 = .ok (.new 58, 3) := by decide +kernel
theorem dX3_pass_35 : decode cX3_pass 35 = .ok (.dup, 1) := by decide +kernel
theorem dX3_pass_36 : decode cX3_pass 36 = .ok (.ldc 139, 2) := by decide +kernel
theorem dX3_pass_38 : decode cX3_pass 38 = .ok (.invokespecial 62, 3) := by decide +kernel
theorem dX3_pass_41 : decode cX3_pass 41 = .ok (.athrow, 1) := by decide +kernel
theorem dX3_pass_42 : decode cX3_pass 42 = .ok (.iconst 0, 1) := by decide +kernel
theorem dX3_pass_43 : decode cX3_pass 43 = .ok (.istore_n 2, 1) := by decide +kernel
theorem dX3_pass_44 : decode cX3_pass 44 = .ok (.iconst 0, 1) := by decide +kernel
theorem dX3_pass_45 : decode cX3_pass 45 = .ok (.istore_n 3, 1) := by decide +kernel
theorem dX3_pass_46 : decode cX3_pass 46 = .ok (.iload_n 3, 1) := by decide +kernel
theorem dX3_pass_47 : decode cX3_pass 47 = .ok (.iload_n 1, 1) := by decide +kernel
theorem dX3_pass_48 : decode cX3_pass 48 = .ok (.if_icmp .ge 30, 3) := by decide +kernel
theorem dX3_pass_51 : decode cX3_pass 51 = .ok (.aload_n 0, 1) := by decide +kernel
theorem dX3_pass_52 : decode cX3_pass 52 = .ok (.dup, 1) := by decide +kernel
theorem dX3_pass_53 : decode cX3_pass 53 = .ok (.getfield 32, 3) := by decide +kernel
theorem dX3_pass_56 : decode cX3_pass 56 = .ok (.iconst 1, 1) := by decide +kernel
theorem dX3_pass_57 : decode cX3_pass 57 = .ok (.iadd, 1) := by decide +kernel
theorem dX3_pass_58 : decode cX3_pass 58 = .ok (.putfield 32, 3) := by decide +kernel
theorem dX3_pass_61 : decode cX3_pass 61 = .ok (.aload_n 0, 1) := by decide +kernel
theorem dX3_pass_62 : decode cX3_pass 62 = .ok (.invokevirtual 141, 3) := by decide +kernel
theorem dX3_pass_65 : decode cX3_pass 65 = .ok (.iload_n 2, 1) := by decide +kernel
theorem dX3_pass_66 : decode cX3_pass 66 = .ok (.aload_n 0, 1) := by decide +kernel
theorem dX3_pass_67 : decode cX3_pass 67 = .ok (.invokevirtual 144, 3) := by decide +kernel
theorem dX3_pass_70 : decode cX3_pass 70 = .ok (.iadd, 1) := by decide +kernel
theorem dX3_pass_71 : decode cX3_pass 71 = .ok (.istore_n 2, 1) := by decide +kernel
theorem dX3_pass_72 : decode cX3_pass 72 = .ok (.iinc 3 1, 3) := by decide +kernel
theorem dX3_pass_75 : decode cX3_pass 75 = .ok (.goto (-29), 3) := by decide +kernel
theorem dX3_pass_78 : decode cX3_pass 78 = .ok (.iload_n 2, 1) := by decide +kernel
theorem dX3_pass_79 : decode cX3_pass 79 = .ok (.ireturn, 1) := by decide +kernel
set_option maxRecDepth 20000 in
theorem ggX3_duties_Jx4a65c_size_8abf5 : GoodIn wsX3_duties wsJx4a65c_size_8abf5 := goodIn_r _ [6, 7, 14, 15, 16] (by decide +kernel) (by decide +kernel)
set_option maxRecDepth 20000 in
theorem gX3_duties_Jx4a65c_size_8abf5 : GoodIn wsX3_duties (wsV RX3 70 RJx4a65c yJx4a65c_size_8abf5 wsJx4a65c_size_8abf5) := goodIn_app (goodIn_of _ (by decide +kernel)) ggX3_duties_Jx4a65c_size_8abf5
theorem dX3_duties_0 : decode cX3_duties 0 = .ok (.aload_n 0, 1) := by decide +kernel
theorem dX3_duties_1 : decode cX3_duties 1 = .ok (.getfield 29, 3) := by decide +kernel
theorem dX3_duties_4 : decode cX3_duties 4 = .ok (.invokevirtual 70, 3) := by decide +kernel
theorem dX3_duties_7 : decode cX3_duties 7 = .ok (.ireturn, 1) := by decide +kernel
set_option maxRecDepth 20000 in
theorem ggX3_state_X3_dutyAt : GoodIn wsX3_state wsX3_dutyAt := goodIn_ca (goodIn_r _ [6, 7, 8, 9, 10, 11, 12, 13, 14, 15, 16, 17, 18, 5, 19, 20, 21, 22, 23, 24, 25, 26, 27, 28, 29, 30, 31, 32, 33, 34, 35, 36, 41, 42, 43, 44, 45, 46, 47, 48, 49] (by decide +kernel) (by decide +kernel)) (goodIn_sub (fun _ h => List.mem_cons_of_mem _ (List.mem_append_right _ h)) (by decide +kernel))
set_option maxRecDepth 20000 in
theorem gX3_state_X3_dutyAt : GoodIn wsX3_state (wsV RX3 147 RX3 yX3_dutyAt wsX3_dutyAt) := goodIn_app (goodIn_of _ (by decide +kernel)) ggX3_state_X3_dutyAt
theorem dX3_state_0 : decode cX3_state 0 = .ok (.aload_n 0, 1) := by decide +kernel
theorem dX3_state_1 : decode cX3_state 1 = .ok (.iload_n 1, 1) := by decide +kernel
theorem dX3_state_2 : decode cX3_state 2 = .ok (.invokevirtual 147, 3) := by decide +kernel
theorem dX3_state_5 : decode cX3_state 5 = .ok (.getfield 151, 3) := by decide +kernel
theorem dX3_state_8 : decode cX3_state 8 = .ok (.ireturn, 1) := by decide +kernel
set_option maxRecDepth 20000 in
theorem ggX3_day_X3_dutyAt : GoodIn wsX3_day wsX3_dutyAt := goodIn_ca (goodIn_r _ [6, 7, 8, 9, 10, 11, 12, 13, 14, 15, 16, 17, 18, 5, 19, 20, 21, 22, 23, 24, 25, 26, 27, 28, 29, 30, 31, 32, 33, 34, 35, 36, 41, 42, 43, 44, 45, 46, 47, 48, 49] (by decide +kernel) (by decide +kernel)) (goodIn_sub (fun _ h => List.mem_cons_of_mem _ (List.mem_append_right _ h)) (by decide +kernel))
set_option maxRecDepth 20000 in
theorem gX3_day_X3_dutyAt : GoodIn wsX3_day (wsV RX3 147 RX3 yX3_dutyAt wsX3_dutyAt) := goodIn_app (goodIn_of _ (by decide +kernel)) ggX3_day_X3_dutyAt
theorem dX3_day_0 : decode cX3_day 0 = .ok (.aload_n 0, 1) := by decide +kernel
theorem dX3_day_1 : decode cX3_day 1 = .ok (.iload_n 1, 1) := by decide +kernel
theorem dX3_day_2 : decode cX3_day 2 = .ok (.invokevirtual 147, 3) := by decide +kernel
theorem dX3_day_5 : decode cX3_day 5 = .ok (.getfield 156, 3) := by decide +kernel
theorem dX3_day_8 : decode cX3_day 8 = .ok (.ireturn, 1) := by decide +kernel
set_option maxRecDepth 20000 in
theorem ggX3_isSuspended_X3_dutyAt : GoodIn wsX3_isSuspended wsX3_dutyAt := goodIn_ca (goodIn_r _ [5, 6, 7, 8, 9, 10, 11, 12, 13, 14, 15, 16, 17, 4, 18, 19, 20, 21, 22, 23, 24, 25, 26, 27, 28, 29, 30, 31, 32, 33, 34, 35, 50, 51, 52, 53, 54, 55, 56, 57, 58] (by decide +kernel) (by decide +kernel)) (goodIn_sub (fun _ h => List.mem_cons_of_mem _ (List.mem_append_right _ h)) (by decide +kernel))
set_option maxRecDepth 20000 in
theorem gX3_isSuspended_X3_dutyAt : GoodIn wsX3_isSuspended (wsV RX3 147 RX3 yX3_dutyAt wsX3_dutyAt) := goodIn_app (goodIn_of _ (by decide +kernel)) ggX3_isSuspended_X3_dutyAt
set_option maxRecDepth 20000 in
theorem ggX3_isSuspended_X1_isHeldUp : GoodIn wsX3_isSuspended wsX1_isHeldUp := goodIn_r _ [40, 41, 42, 43, 44, 45, 46, 47, 39, 48, 49, 59, 60, 61, 62, 63, 64, 65, 66, 67, 68, 69, 70, 71, 72] (by decide +kernel) (by decide +kernel)
set_option maxRecDepth 20000 in
theorem gX3_isSuspended_X1_isHeldUp : GoodIn wsX3_isSuspended (wsV RX3 159 RX1 yX1_isHeldUp wsX1_isHeldUp) := goodIn_app (goodIn_of _ (by decide +kernel)) ggX3_isSuspended_X1_isHeldUp
theorem dX3_isSuspended_0 : decode cX3_isSuspended 0 = .ok (.aload_n 0, 1) := by decide +kernel
theorem dX3_isSuspended_1 : decode cX3_isSuspended 1 = .ok (.iload_n 1, 1) := by decide +kernel
theorem dX3_isSuspended_2 : decode cX3_isSuspended 2 = .ok (.invokevirtual 147, 3) := by decide +kernel
theorem dX3_isSuspended_5 : decode cX3_isSuspended 5 = .ok (.invokevirtual 159, 3) := by decide +kernel
theorem dX3_isSuspended_8 : decode cX3_isSuspended 8 = .ok (.ireturn, 1) := by decide +kernel
set_option maxRecDepth 20000 in
theorem ggX3_perform_X3_dutyAt : GoodIn wsX3_perform wsX3_dutyAt := goodIn_ca (goodIn_r _ [10, 11, 12, 13, 14, 15, 16, 17, 18, 19, 20, 21, 22, 9, 23, 24, 25, 26, 27, 28, 29, 30, 31, 32, 33, 34, 35, 36, 37, 38, 39, 40, 56, 57, 58, 59, 60, 61, 62, 63, 64] (by decide +kernel) (by decide +kernel)) (goodIn_sub (fun _ h => List.mem_cons_of_mem _ (List.mem_append_right _ h)) (by decide +kernel))
set_option maxRecDepth 20000 in
theorem gX3_perform_X3_dutyAt : GoodIn wsX3_perform (wsV RX3 147 RX3 yX3_dutyAt wsX3_dutyAt) := goodIn_app (goodIn_of _ (by decide +kernel)) ggX3_perform_X3_dutyAt
set_option maxRecDepth 20000 in
theorem ggX3_perform_X1_canBeDone : GoodIn wsX3_perform wsX1_canBeDone := goodIn_r _ [45, 46, 52, 53, 54, 55] (by decide +kernel) (by decide +kernel)
set_option maxRecDepth 20000 in
theorem gX3_perform_X1_canBeDone : GoodIn wsX3_perform (wsV RX3 162 RX1 yX1_canBeDone wsX1_canBeDone) := goodIn_app (goodIn_of _ (by decide +kernel)) ggX3_perform_X1_canBeDone
set_option maxRecDepth 20000 in
theorem ggX3_perform_X1_move : GoodIn wsX3_perform wsX1_move := goodIn_r _ [50, 46, 51, 52, 53, 54, 55] (by decide +kernel) (by decide +kernel)
set_option maxRecDepth 20000 in
theorem gX3_perform_X1_move : GoodIn wsX3_perform (wsV RX3 167 RX1 yX1_move wsX1_move) := goodIn_app (goodIn_of _ (by decide +kernel)) ggX3_perform_X1_move
theorem dX3_perform_0 : decode cX3_perform 0 = .ok (.aload_n 0, 1) := by decide +kernel
theorem dX3_perform_1 : decode cX3_perform 1 = .ok (.iload_n 1, 1) := by decide +kernel
theorem dX3_perform_2 : decode cX3_perform 2 = .ok (.invokevirtual 147, 3) := by decide +kernel
theorem dX3_perform_5 : decode cX3_perform 5 = .ok (.astore_n 2, 1) := by decide +kernel
theorem dX3_perform_6 : decode cX3_perform 6 = .ok (.aload_n 2, 1) := by decide +kernel
theorem dX3_perform_7 : decode cX3_perform 7 = .ok (.invokevirtual 162, 3) := by decide +kernel
theorem dX3_perform_10 : decode cX3_perform 10 = .ok (.ifCond .ne 13, 3) := by decide +kernel
theorem dX3_perform_13 : decode cX3_perform 13 = .ok (.new 58, 3) := by decide +kernel
theorem dX3_perform_16 : decode cX3_perform 16 = .ok (.dup, 1) := by decide +kernel
theorem dX3_perform_17 : decode cX3_perform 17 = .ok (.ldc 165, 2) := by decide +kernel
theorem dX3_perform_19 : decode cX3_perform 19 = .ok (.invokespecial 62, 3) := by decide +kernel
theorem dX3_perform_22 : decode cX3_perform 22 = .ok (.athrow, 1) := by decide +kernel
theorem dX3_perform_23 : decode cX3_perform 23 = .ok (.aload_n 2, 1) := by decide +kernel
theorem dX3_perform_24 : decode cX3_perform 24 = .ok (.getfield 151, 3) := by decide +kernel
theorem dX3_perform_27 : decode cX3_perform 27 = .ok (.iconst 2, 1) := by decide +kernel
theorem dX3_perform_28 : decode cX3_perform 28 = .ok (.if_icmp .eq 14, 3) := by decide +kernel
theorem dX3_perform_31 : decode cX3_perform 31 = .ok (.aload_n 0, 1) := by decide +kernel
theorem dX3_perform_32 : decode cX3_perform 32 = .ok (.getfield 32, 3) := by decide +kernel
theorem dX3_perform_35 : decode cX3_perform 35 = .ok (.aload_n 2, 1) := by decide +kernel
theorem dX3_perform_36 : decode cX3_perform 36 = .ok (.getfield 156, 3) := by decide +kernel
theorem dX3_perform_39 : decode cX3_perform 39 = .ok (.if_icmp .le 7, 3) := by decide +kernel
theorem dX3_perform_42 : decode cX3_perform 42 = .ok (.iconst 1, 1) := by decide +kernel
theorem dX3_perform_43 : decode cX3_perform 43 = .ok (.goto 4, 3) := by decide +kernel
theorem dX3_perform_46 : decode cX3_perform 46 = .ok (.iconst 0, 1) := by decide +kernel
theorem dX3_perform_47 : decode cX3_perform 47 = .ok (.istore_n 3, 1) := by decide +kernel
theorem dX3_perform_48 : decode cX3_perform 48 = .ok (.aload_n 2, 1) := by decide +kernel
theorem dX3_perform_49 : decode cX3_perform 49 = .ok (.iconst 1, 1) := by decide +kernel
theorem dX3_perform_50 : decode cX3_perform 50 = .ok (.aload_n 0, 1) := by decide +kernel
theorem dX3_perform_51 : decode cX3_perform 51 = .ok (.getfield 32, 3) := by decide +kernel
theorem dX3_perform_54 : decode cX3_perform 54 = .ok (.invokevirtual 167, 3) := by decide +kernel
theorem dX3_perform_57 : decode cX3_perform 57 = .ok (.iload_n 3, 1) := by decide +kernel
theorem dX3_perform_58 : decode cX3_perform 58 = .ok (.ireturn, 1) := by decide +kernel
set_option maxRecDepth 20000 in
theorem ggX3_notice_X3_dutyAt : GoodIn wsX3_notice wsX3_dutyAt := goodIn_ca (goodIn_r _ [12, 13, 14, 15, 16, 17, 18, 19, 20, 21, 22, 23, 24, 11, 25, 26, 27, 28, 29, 30, 31, 32, 33, 34, 35, 36, 37, 38, 39, 40, 41, 42, 54, 55, 56, 57, 58, 59, 65, 66, 67] (by decide +kernel) (by decide +kernel)) (goodIn_sub (fun _ h => List.mem_cons_of_mem _ (List.mem_append_right _ h)) (by decide +kernel))
set_option maxRecDepth 20000 in
theorem gX3_notice_X3_dutyAt : GoodIn wsX3_notice (wsV RX3 147 RX3 yX3_dutyAt wsX3_dutyAt) := goodIn_app (goodIn_of _ (by decide +kernel)) ggX3_notice_X3_dutyAt
set_option maxRecDepth 20000 in
theorem ggX3_notice_X1_move : GoodIn wsX3_notice wsX1_move := goodIn_r _ [47, 48, 49, 50, 51, 52, 53] (by decide +kernel) (by decide +kernel)
set_option maxRecDepth 20000 in
theorem gX3_notice_X1_move : GoodIn wsX3_notice (wsV RX3 167 RX1 yX1_move wsX1_move) := goodIn_app (goodIn_of _ (by decide +kernel)) ggX3_notice_X1_move
theorem dX3_notice_0 : decode cX3_notice 0 = .ok (.aload_n 0, 1) := by decide +kernel
theorem dX3_notice_1 : decode cX3_notice 1 = .ok (.iload_n 1, 1) := by decide +kernel
theorem dX3_notice_2 : decode cX3_notice 2 = .ok (.invokevirtual 147, 3) := by decide +kernel
theorem dX3_notice_5 : decode cX3_notice 5 = .ok (.astore_n 2, 1) := by decide +kernel
theorem dX3_notice_6 : decode cX3_notice 6 = .ok (.aload_n 2, 1) := by decide +kernel
theorem dX3_notice_7 : decode cX3_notice 7 = .ok (.getfield 151, 3) := by decide +kernel
theorem dX3_notice_10 : decode cX3_notice 10 = .ok (.ifCond .ne 14, 3) := by decide +kernel
theorem dX3_notice_13 : decode cX3_notice 13 = .ok (.aload_n 0, 1) := by decide +kernel
theorem dX3_notice_14 : decode cX3_notice 14 = .ok (.getfield 32, 3) := by decide +kernel
theorem dX3_notice_17 : decode cX3_notice 17 = .ok (.aload_n 2, 1) := by decide +kernel
theorem dX3_notice_18 : decode cX3_notice 18 = .ok (.getfield 156, 3) := by decide +kernel
theorem dX3_notice_21 : decode cX3_notice 21 = .ok (.if_icmp .gt 13, 3) := by decide +kernel
theorem dX3_notice_24 : decode cX3_notice 24 = .ok (.new 58, 3) := by decide +kernel
theorem dX3_notice_27 : decode cX3_notice 27 = .ok (.dup, 1) := by decide +kernel
theorem dX3_notice_28 : decode cX3_notice 28 = .ok (.ldc 170, 2) := by decide +kernel
theorem dX3_notice_30 : decode cX3_notice 30 = .ok (.invokespecial 62, 3) := by decide +kernel
theorem dX3_notice_33 : decode cX3_notice 33 = .ok (.athrow, 1) := by decide +kernel
theorem dX3_notice_34 : decode cX3_notice 34 = .ok (.aload_n 2, 1) := by decide +kernel
theorem dX3_notice_35 : decode cX3_notice 35 = .ok (.iconst 2, 1) := by decide +kernel
theorem dX3_notice_36 : decode cX3_notice 36 = .ok (.aload_n 0, 1) := by decide +kernel
theorem dX3_notice_37 : decode cX3_notice 37 = .ok (.getfield 32, 3) := by decide +kernel
theorem dX3_notice_40 : decode cX3_notice 40 = .ok (.aload_n 2, 1) := by decide +kernel
theorem dX3_notice_41 : decode cX3_notice 41 = .ok (.getfield 172, 3) := by decide +kernel
theorem dX3_notice_44 : decode cX3_notice 44 = .ok (.getfield 176, 3) := by decide +kernel
theorem dX3_notice_47 : decode cX3_notice 47 = .ok (.iadd, 1) := by decide +kernel
theorem dX3_notice_48 : decode cX3_notice 48 = .ok (.invokevirtual 167, 3) := by decide +kernel
theorem dX3_notice_51 : decode cX3_notice 51 = .ok (.aload_n 2, 1) := by decide +kernel
theorem dX3_notice_52 : decode cX3_notice 52 = .ok (.getfield 156, 3) := by decide +kernel
theorem dX3_notice_55 : decode cX3_notice 55 = .ok (.ireturn, 1) := by decide +kernel
set_option maxRecDepth 20000 in
theorem ggX3_settle_X3_dutyAt : GoodIn wsX3_settle wsX3_dutyAt := goodIn_ca (goodIn_r _ [11, 12, 13, 14, 15, 16, 17, 18, 19, 20, 21, 22, 23, 10, 24, 25, 26, 27, 28, 29, 30, 31, 32, 33, 34, 35, 36, 37, 38, 39, 40, 41, 63, 64, 65, 66, 67, 68, 74, 75, 76] (by decide +kernel) (by decide +kernel)) (goodIn_sub (fun _ h => List.mem_cons_of_mem _ (List.mem_append_right _ h)) (by decide +kernel))
set_option maxRecDepth 20000 in
theorem gX3_settle_X3_dutyAt : GoodIn wsX3_settle (wsV RX3 147 RX3 yX3_dutyAt wsX3_dutyAt) := goodIn_app (goodIn_of _ (by decide +kernel)) ggX3_settle_X3_dutyAt
set_option maxRecDepth 20000 in
theorem ggX3_settle_X1_move : GoodIn wsX3_settle wsX1_move := goodIn_r _ [46, 47, 48, 59, 60, 61, 62] (by decide +kernel) (by decide +kernel)
set_option maxRecDepth 20000 in
theorem gX3_settle_X1_move : GoodIn wsX3_settle (wsV RX3 167 RX1 yX1_move wsX1_move) := goodIn_app (goodIn_of _ (by decide +kernel)) ggX3_settle_X1_move
set_option maxRecDepth 20000 in
theorem ggX3_settle_X1_countBreach : GoodIn wsX3_settle wsX1_countBreach := goodIn_r _ [52, 53, 54, 55, 56, 57, 58, 59, 60, 61, 62, 77, 78, 79, 80, 81, 69, 70, 71, 72, 73] (by decide +kernel) (by decide +kernel)
set_option maxRecDepth 20000 in
theorem gX3_settle_X1_countBreach : GoodIn wsX3_settle (wsV RX3 181 RX1 yX1_countBreach wsX1_countBreach) := goodIn_app (goodIn_of _ (by decide +kernel)) ggX3_settle_X1_countBreach
theorem dX3_settle_0 : decode cX3_settle 0 = .ok (.aload_n 0, 1) := by decide +kernel
theorem dX3_settle_1 : decode cX3_settle 1 = .ok (.iload_n 1, 1) := by decide +kernel
theorem dX3_settle_2 : decode cX3_settle 2 = .ok (.invokevirtual 147, 3) := by decide +kernel
theorem dX3_settle_5 : decode cX3_settle 5 = .ok (.astore_n 2, 1) := by decide +kernel
theorem dX3_settle_6 : decode cX3_settle 6 = .ok (.aload_n 2, 1) := by decide +kernel
theorem dX3_settle_7 : decode cX3_settle 7 = .ok (.getfield 151, 3) := by decide +kernel
theorem dX3_settle_10 : decode cX3_settle 10 = .ok (.iconst 3, 1) := by decide +kernel
theorem dX3_settle_11 : decode cX3_settle 11 = .ok (.if_icmp .eq 13, 3) := by decide +kernel
theorem dX3_settle_14 : decode cX3_settle 14 = .ok (.new 58, 3) := by decide +kernel
theorem dX3_settle_17 : decode cX3_settle 17 = .ok (.dup, 1) := by decide +kernel
theorem dX3_settle_18 : decode cX3_settle 18 = .ok (.ldc 179, 2) := by decide +kernel
theorem dX3_settle_20 : decode cX3_settle 20 = .ok (.invokespecial 62, 3) := by decide +kernel
theorem dX3_settle_23 : decode cX3_settle 23 = .ok (.athrow, 1) := by decide +kernel
theorem dX3_settle_24 : decode cX3_settle 24 = .ok (.aload_n 2, 1) := by decide +kernel
theorem dX3_settle_25 : decode cX3_settle 25 = .ok (.iconst 4, 1) := by decide +kernel
theorem dX3_settle_26 : decode cX3_settle 26 = .ok (.aload_n 0, 1) := by decide +kernel
theorem dX3_settle_27 : decode cX3_settle 27 = .ok (.getfield 32, 3) := by decide +kernel
theorem dX3_settle_30 : decode cX3_settle 30 = .ok (.invokevirtual 167, 3) := by decide +kernel
theorem dX3_settle_33 : decode cX3_settle 33 = .ok (.aload_n 2, 1) := by decide +kernel
theorem dX3_settle_34 : decode cX3_settle 34 = .ok (.iconst (-1), 1) := by decide +kernel
theorem dX3_settle_35 : decode cX3_settle 35 = .ok (.invokevirtual 181, 3) := by decide +kernel
theorem dX3_settle_38 : decode cX3_settle 38 = .ok (.aload_n 2, 1) := by decide +kernel
theorem dX3_settle_39 : decode cX3_settle 39 = .ok (.getfield 172, 3) := by decide +kernel
theorem dX3_settle_42 : decode cX3_settle 42 = .ok (.getfield 184, 3) := by decide +kernel
theorem dX3_settle_45 : decode cX3_settle 45 = .ok (.ireturn, 1) := by decide +kernel
set_option maxRecDepth 20000 in
theorem ggX3_owes_X3_contractAt : GoodIn wsX3_owes wsX3_contractAt := goodIn_ca (goodIn_r _ [10, 11, 12, 13, 14, 15, 16, 17, 18, 19, 20, 21, 22, 9, 23, 24, 25, 26, 27, 28, 29, 30, 31, 32, 33, 34, 35, 36, 37, 38, 39, 40, 51, 52, 53, 54, 55, 56, 57, 58, 59] (by decide +kernel) (by decide +kernel)) (goodIn_sub (fun _ h => List.mem_cons_of_mem _ (List.mem_append_left _ (List.mem_append_right _ h))) (by decide +kernel))
set_option maxRecDepth 20000 in
theorem gX3_owes_X3_contractAt : GoodIn wsX3_owes (wsV RX3 83 RX3 yX3_contractAt wsX3_contractAt) := goodIn_app (goodIn_of _ (by decide +kernel)) ggX3_owes_X3_contractAt
set_option maxRecDepth 20000 in
theorem ggX3_owes_X3_checkSide : GoodIn wsX3_owes wsX3_checkSide := goodIn_ca (goodIn_r _ [43, 44, 45, 21, 22, 9, 23] (by decide +kernel) (by decide +kernel)) (goodIn_sub (fun _ h => List.mem_cons_of_mem _ (List.mem_append_right _ h)) (by decide +kernel))
set_option maxRecDepth 20000 in
theorem gX3_owes_X3_checkSide : GoodIn wsX3_owes (va_wsS RX3 40 yX3_checkSide wsX3_checkSide) := goodIn_app (goodIn_of _ (by decide +kernel)) ggX3_owes_X3_checkSide
theorem dX3_owes_0 : decode cX3_owes 0 = .ok (.aload_n 0, 1) := by decide +kernel
theorem dX3_owes_1 : decode cX3_owes 1 = .ok (.iload_n 1, 1) := by decide +kernel
theorem dX3_owes_2 : decode cX3_owes 2 = .ok (.invokevirtual 83, 3) := by decide +kernel
theorem dX3_owes_5 : decode cX3_owes 5 = .ok (.astore_n 3, 1) := by decide +kernel
theorem dX3_owes_6 : decode cX3_owes 6 = .ok (.iload_n 2, 1) := by decide +kernel
theorem dX3_owes_7 : decode cX3_owes 7 = .ok (.invokestatic 40, 3) := by decide +kernel
theorem dX3_owes_10 : decode cX3_owes 10 = .ok (.iconst 0, 1) := by decide +kernel
theorem dX3_owes_11 : decode cX3_owes 11 = .ok (.aload_n 3, 1) := by decide +kernel
theorem dX3_owes_12 : decode cX3_owes 12 = .ok (.getfield 187, 3) := by decide +kernel
theorem dX3_owes_15 : decode cX3_owes 15 = .ok (.iload_n 2, 1) := by decide +kernel
theorem dX3_owes_16 : decode cX3_owes 16 = .ok (.iaload, 1) := by decide +kernel
theorem dX3_owes_17 : decode cX3_owes 17 = .ok (.aload_n 3, 1) := by decide +kernel
theorem dX3_owes_18 : decode cX3_owes 18 = .ok (.getfield 187, 3) := by decide +kernel
theorem dX3_owes_21 : decode cX3_owes 21 = .ok (.iconst 1, 1) := by decide +kernel
theorem dX3_owes_22 : decode cX3_owes 22 = .ok (.iload_n 2, 1) := by decide +kernel
theorem dX3_owes_23 : decode cX3_owes 23 = .ok (.isub, 1) := by decide +kernel
theorem dX3_owes_24 : decode cX3_owes 24 = .ok (.iaload, 1) := by decide +kernel
theorem dX3_owes_25 : decode cX3_owes 25 = .ok (.isub, 1) := by decide +kernel
theorem dX3_owes_26 : decode cX3_owes 26 = .ok (.invokestatic 190, 3) := by decide +kernel
theorem dX3_owes_29 : decode cX3_owes 29 = .ok (.ireturn, 1) := by decide +kernel
theorem dX3_isWithin_0 : decode cX3_isWithin 0 = .ok (.iload_n 0, 1) := by decide +kernel
theorem dX3_isWithin_1 : decode cX3_isWithin 1 = .ok (.iload_n 1, 1) := by decide +kernel
theorem dX3_isWithin_2 : decode cX3_isWithin 2 = .ok (.if_icmp .lt 12, 3) := by decide +kernel
theorem dX3_isWithin_5 : decode cX3_isWithin 5 = .ok (.iload_n 0, 1) := by decide +kernel
theorem dX3_isWithin_6 : decode cX3_isWithin 6 = .ok (.iload_n 2, 1) := by decide +kernel
theorem dX3_isWithin_7 : decode cX3_isWithin 7 = .ok (.if_icmp .gt 7, 3) := by decide +kernel
theorem dX3_isWithin_10 : decode cX3_isWithin 10 = .ok (.iconst 1, 1) := by decide +kernel
theorem dX3_isWithin_11 : decode cX3_isWithin 11 = .ok (.goto 4, 3) := by decide +kernel
theorem dX3_isWithin_14 : decode cX3_isWithin 14 = .ok (.iconst 0, 1) := by decide +kernel
theorem dX3_isWithin_15 : decode cX3_isWithin 15 = .ok (.ireturn, 1) := by decide +kernel
set_option maxRecDepth 20000 in
theorem ggX3_checkClause_X3_isWithin : GoodIn wsX3_checkClause wsX3_isWithin := goodIn_r _ [6] (by decide +kernel) (by decide +kernel)
set_option maxRecDepth 20000 in
theorem gX3_checkClause_X3_isWithin : GoodIn wsX3_checkClause (va_wsS RX3 43 yX3_isWithin wsX3_isWithin) := goodIn_app (goodIn_of _ (by decide +kernel)) ggX3_checkClause_X3_isWithin
theorem dX3_checkClause_0 : decode cX3_checkClause 0 = .ok (.iload_n 0, 1) := by decide +kernel
theorem dX3_checkClause_1 : decode cX3_checkClause 1 = .ok (.iconst 0, 1) := by decide +kernel
end
section
theorem dX3_checkClause_2 : decode cX3_checkClause 2 = .ok (.bipush 9, 2) := by decide +kernel
theorem dX3_checkClause_4 : decode cX3_checkClause 4 = .ok (.invokestatic 43, 3) := by decide +kernel
theorem dX3_checkClause_7 : decode cX3_checkClause 7 = .ok (.ifCond .ne 13, 3) := by decide +kernel
theorem dX3_checkClause_10 : decode cX3_checkClause 10 = .ok (.new 47, 3) := by decide +kernel
theorem dX3_checkClause_13 : decode cX3_checkClause 13 = .ok (.dup, 1) := by decide +kernel
theorem dX3_checkClause_14 : decode cX3_checkClause 14 = .ok (.ldc 196, 2) := by decide +kernel
theorem dX3_checkClause_16 : decode cX3_checkClause 16 = .ok (.invokespecial 51, 3) := by decide +kernel
theorem dX3_checkClause_19 : decode cX3_checkClause 19 = .ok (.athrow, 1) := by decide +kernel
theorem dX3_checkClause_20 : decode cX3_checkClause 20 = .ok (.return_, 1) := by decide +kernel
set_option maxRecDepth 20000 in
theorem ggX3_checkSide_X3_isWithin : GoodIn wsX3_checkSide wsX3_isWithin := goodIn_r _ [6] (by decide +kernel) (by decide +kernel)
set_option maxRecDepth 20000 in
theorem gX3_checkSide_X3_isWithin : GoodIn wsX3_checkSide (va_wsS RX3 43 yX3_isWithin wsX3_isWithin) := goodIn_app (goodIn_of _ (by decide +kernel)) ggX3_checkSide_X3_isWithin
theorem dX3_checkSide_0 : decode cX3_checkSide 0 = .ok (.iload_n 0, 1) := by decide +kernel
theorem dX3_checkSide_1 : decode cX3_checkSide 1 = .ok (.iconst 0, 1) := by decide +kernel
theorem dX3_checkSide_2 : decode cX3_checkSide 2 = .ok (.iconst 1, 1) := by decide +kernel
theorem dX3_checkSide_3 : decode cX3_checkSide 3 = .ok (.invokestatic 43, 3) := by decide +kernel
theorem dX3_checkSide_6 : decode cX3_checkSide 6 = .ok (.ifCond .ne 13, 3) := by decide +kernel
theorem dX3_checkSide_9 : decode cX3_checkSide 9 = .ok (.new 47, 3) := by decide +kernel
theorem dX3_checkSide_12 : decode cX3_checkSide 12 = .ok (.dup, 1) := by decide +kernel
theorem dX3_checkSide_13 : decode cX3_checkSide 13 = .ok (.ldc 198, 2) := by decide +kernel
theorem dX3_checkSide_15 : decode cX3_checkSide 15 = .ok (.invokespecial 51, 3) := by decide +kernel
theorem dX3_checkSide_18 : decode cX3_checkSide 18 = .ok (.athrow, 1) := by decide +kernel
theorem dX3_checkSide_19 : decode cX3_checkSide 19 = .ok (.return_, 1) := by decide +kernel
set_option maxRecDepth 20000 in
theorem ggX3_checkOtherClauses_X3_isWithin : GoodIn wsX3_checkOtherClauses wsX3_isWithin := goodIn_r _ [6] (by decide +kernel) (by decide +kernel)
set_option maxRecDepth 20000 in
theorem gX3_checkOtherClauses_X3_isWithin : GoodIn wsX3_checkOtherClauses (va_wsS RX3 43 yX3_isWithin wsX3_isWithin) := goodIn_app (goodIn_of _ (by decide +kernel)) ggX3_checkOtherClauses_X3_isWithin
theorem dX3_checkOtherClauses_0 : decode cX3_checkOtherClauses 0 = .ok (.iload_n 1, 1) := by decide +kernel
theorem dX3_checkOtherClauses_1 : decode cX3_checkOtherClauses 1 = .ok (.iconst 0, 1) := by decide +kernel
theorem dX3_checkOtherClauses_2 : decode cX3_checkOtherClauses 2 = .ok (.sipush 1023, 3) := by decide +kernel
theorem dX3_checkOtherClauses_5 : decode cX3_checkOtherClauses 5 = .ok (.invokestatic 43, 3) := by decide +kernel
theorem dX3_checkOtherClauses_8 : decode cX3_checkOtherClauses 8 = .ok (.ifCond .eq 11, 3) := by decide +kernel
theorem dX3_checkOtherClauses_11 : decode cX3_checkOtherClauses 11 = .ok (.iload_n 1, 1) := by decide +kernel
theorem dX3_checkOtherClauses_12 : decode cX3_checkOtherClauses 12 = .ok (.iconst 1, 1) := by decide +kernel
theorem dX3_checkOtherClauses_13 : decode cX3_checkOtherClauses 13 = .ok (.iload_n 0, 1) := by decide +kernel
theorem dX3_checkOtherClauses_14 : decode cX3_checkOtherClauses 14 = .ok (.ishl, 1) := by decide +kernel
theorem dX3_checkOtherClauses_15 : decode cX3_checkOtherClauses 15 = .ok (.iand, 1) := by decide +kernel
theorem dX3_checkOtherClauses_16 : decode cX3_checkOtherClauses 16 = .ok (.ifCond .eq 13, 3) := by decide +kernel
theorem dX3_checkOtherClauses_19 : decode cX3_checkOtherClauses 19 = .ok (.new 47, 3) := by decide +kernel
theorem dX3_checkOtherClauses_22 : decode cX3_checkOtherClauses 22 = .ok (.dup, 1) := by decide +kernel
theorem dX3_checkOtherClauses_23 : decode cX3_checkOtherClauses 23 = .ok (.ldc 200, 2) := by decide +kernel
theorem dX3_checkOtherClauses_25 : decode cX3_checkOtherClauses 25 = .ok (.invokespecial 51, 3) := by decide +kernel
theorem dX3_checkOtherClauses_28 : decode cX3_checkOtherClauses 28 = .ok (.athrow, 1) := by decide +kernel
theorem dX3_checkOtherClauses_29 : decode cX3_checkOtherClauses 29 = .ok (.return_, 1) := by decide +kernel
set_option maxRecDepth 20000 in
theorem ggX3_checkDraft_X0_isDraft : GoodIn wsX3_checkDraft wsX0_isDraft := goodIn_r _ [7, 8, 9, 10, 11, 12, 13] (by decide +kernel) (by decide +kernel)
set_option maxRecDepth 20000 in
theorem gX3_checkDraft_X0_isDraft : GoodIn wsX3_checkDraft (wsV RX3 120 RX0 yX0_isDraft wsX0_isDraft) := goodIn_app (goodIn_of _ (by decide +kernel)) ggX3_checkDraft_X0_isDraft
theorem dX3_checkDraft_0 : decode cX3_checkDraft 0 = .ok (.aload_n 0, 1) := by decide +kernel
theorem dX3_checkDraft_1 : decode cX3_checkDraft 1 = .ok (.invokevirtual 120, 3) := by decide +kernel
theorem dX3_checkDraft_4 : decode cX3_checkDraft 4 = .ok (.ifCond .ne 13, 3) := by decide +kernel
theorem dX3_checkDraft_7 : decode cX3_checkDraft 7 = .ok (.new 58, 3) := by decide +kernel
theorem dX3_checkDraft_10 : decode cX3_checkDraft 10 = .ok (.dup, 1) := by decide +kernel
theorem dX3_checkDraft_11 : decode cX3_checkDraft 11 = .ok (.ldc 202, 2) := by decide +kernel
theorem dX3_checkDraft_13 : decode cX3_checkDraft 13 = .ok (.invokespecial 62, 3) := by decide +kernel
theorem dX3_checkDraft_16 : decode cX3_checkDraft 16 = .ok (.athrow, 1) := by decide +kernel
theorem dX3_checkDraft_17 : decode cX3_checkDraft 17 = .ok (.return_, 1) := by decide +kernel
set_option maxRecDepth 20000 in
theorem ggX3_contractAt_Jx4a65c_size_8abf5 : GoodIn wsX3_contractAt wsJx4a65c_size_8abf5 := goodIn_r _ [9, 10, 38, 39, 40] (by decide +kernel) (by decide +kernel)
set_option maxRecDepth 20000 in
theorem gX3_contractAt_Jx4a65c_size_8abf5 : GoodIn wsX3_contractAt (wsV RX3 70 RJx4a65c yJx4a65c_size_8abf5 wsJx4a65c_size_8abf5) := goodIn_app (goodIn_of _ (by decide +kernel)) ggX3_contractAt_Jx4a65c_size_8abf5
set_option maxRecDepth 20000 in
theorem ggX3_contractAt_X3_isWithin : GoodIn wsX3_contractAt wsX3_isWithin := goodIn_r _ [14] (by decide +kernel) (by decide +kernel)
set_option maxRecDepth 20000 in
theorem gX3_contractAt_X3_isWithin : GoodIn wsX3_contractAt (va_wsS RX3 43 yX3_isWithin wsX3_isWithin) := goodIn_app (goodIn_of _ (by decide +kernel)) ggX3_contractAt_X3_isWithin
set_option maxRecDepth 20000 in
theorem ggX3_contractAt_Jx4a65c_get_915e3 : GoodIn wsX3_contractAt wsJx4a65c_get_915e3 := goodIn_r _ [18, 10, 19, 20, 21, 22, 23, 24, 25, 26, 27, 28, 29, 8, 30, 31, 38, 39, 40] (by decide +kernel) (by decide +kernel)
set_option maxRecDepth 20000 in
theorem gX3_contractAt_Jx4a65c_get_915e3 : GoodIn wsX3_contractAt (wsV RX3 209 RJx4a65c yJx4a65c_get_915e3 wsJx4a65c_get_915e3) := goodIn_app (goodIn_of _ (by decide +kernel)) ggX3_contractAt_Jx4a65c_get_915e3
theorem dX3_contractAt_0 : decode cX3_contractAt 0 = .ok (.iload_n 1, 1) := by decide +kernel
theorem dX3_contractAt_1 : decode cX3_contractAt 1 = .ok (.iconst 0, 1) := by decide +kernel
theorem dX3_contractAt_2 : decode cX3_contractAt 2 = .ok (.aload_n 0, 1) := by decide +kernel
theorem dX3_contractAt_3 : decode cX3_contractAt 3 = .ok (.getfield 25, 3) := by decide +kernel
theorem dX3_contractAt_6 : decode cX3_contractAt 6 = .ok (.invokevirtual 70, 3) := by decide +kernel
theorem dX3_contractAt_9 : decode cX3_contractAt 9 = .ok (.iconst 1, 1) := by decide +kernel
theorem dX3_contractAt_10 : decode cX3_contractAt 10 = .ok (.isub, 1) := by decide +kernel
theorem dX3_contractAt_11 : decode cX3_contractAt 11 = .ok (.invokestatic 43, 3) := by decide +kernel
theorem dX3_contractAt_14 : decode cX3_contractAt 14 = .ok (.ifCond .ne 13, 3) := by decide +kernel
theorem dX3_contractAt_17 : decode cX3_contractAt 17 = .ok (.new 204, 3) := by decide +kernel
theorem dX3_contractAt_20 : decode cX3_contractAt 20 = .ok (.dup, 1) := by decide +kernel
theorem dX3_contractAt_21 : decode cX3_contractAt 21 = .ok (.ldc 206, 2) := by decide +kernel
theorem dX3_contractAt_23 : decode cX3_contractAt 23 = .ok (.invokespecial 208, 3) := by decide +kernel
theorem dX3_contractAt_26 : decode cX3_contractAt 26 = .ok (.athrow, 1) := by decide +kernel
theorem dX3_contractAt_27 : decode cX3_contractAt 27 = .ok (.aload_n 0, 1) := by decide +kernel
theorem dX3_contractAt_28 : decode cX3_contractAt 28 = .ok (.getfield 25, 3) := by decide +kernel
theorem dX3_contractAt_31 : decode cX3_contractAt 31 = .ok (.iload_n 1, 1) := by decide +kernel
theorem dX3_contractAt_32 : decode cX3_contractAt 32 = .ok (.invokevirtual 209, 3) := by decide +kernel
theorem dX3_contractAt_35 : decode cX3_contractAt 35 = .ok (.checkcast 76, 3) := by decide +kernel
theorem dX3_contractAt_38 : decode cX3_contractAt 38 = .ok (.areturn, 1) := by decide +kernel
set_option maxRecDepth 20000 in
theorem ggX3_dutyAt_Jx4a65c_size_8abf5 : GoodIn wsX3_dutyAt wsJx4a65c_size_8abf5 := goodIn_r _ [9, 10, 38, 39, 40] (by decide +kernel) (by decide +kernel)
set_option maxRecDepth 20000 in
theorem gX3_dutyAt_Jx4a65c_size_8abf5 : GoodIn wsX3_dutyAt (wsV RX3 70 RJx4a65c yJx4a65c_size_8abf5 wsJx4a65c_size_8abf5) := goodIn_app (goodIn_of _ (by decide +kernel)) ggX3_dutyAt_Jx4a65c_size_8abf5
set_option maxRecDepth 20000 in
theorem ggX3_dutyAt_X3_isWithin : GoodIn wsX3_dutyAt wsX3_isWithin := goodIn_r _ [14] (by decide +kernel) (by decide +kernel)
set_option maxRecDepth 20000 in
theorem gX3_dutyAt_X3_isWithin : GoodIn wsX3_dutyAt (va_wsS RX3 43 yX3_isWithin wsX3_isWithin) := goodIn_app (goodIn_of _ (by decide +kernel)) ggX3_dutyAt_X3_isWithin
set_option maxRecDepth 20000 in
theorem ggX3_dutyAt_Jx4a65c_get_915e3 : GoodIn wsX3_dutyAt wsJx4a65c_get_915e3 := goodIn_r _ [18, 10, 19, 20, 21, 22, 23, 24, 25, 26, 27, 28, 29, 8, 30, 31, 38, 39, 40] (by decide +kernel) (by decide +kernel)
set_option maxRecDepth 20000 in
theorem gX3_dutyAt_Jx4a65c_get_915e3 : GoodIn wsX3_dutyAt (wsV RX3 209 RJx4a65c yJx4a65c_get_915e3 wsJx4a65c_get_915e3) := goodIn_app (goodIn_of _ (by decide +kernel)) ggX3_dutyAt_Jx4a65c_get_915e3
theorem dX3_dutyAt_0 : decode cX3_dutyAt 0 = .ok (.iload_n 1, 1) := by decide +kernel
theorem dX3_dutyAt_1 : decode cX3_dutyAt 1 = .ok (.iconst 0, 1) := by decide +kernel
theorem dX3_dutyAt_2 : decode cX3_dutyAt 2 = .ok (.aload_n 0, 1) := by decide +kernel
theorem dX3_dutyAt_3 : decode cX3_dutyAt 3 = .ok (.getfield 29, 3) := by decide +kernel
theorem dX3_dutyAt_6 : decode cX3_dutyAt 6 = .ok (.invokevirtual 70, 3) := by decide +kernel
theorem dX3_dutyAt_9 : decode cX3_dutyAt 9 = .ok (.iconst 1, 1) := by decide +kernel
theorem dX3_dutyAt_10 : decode cX3_dutyAt 10 = .ok (.isub, 1) := by decide +kernel
theorem dX3_dutyAt_11 : decode cX3_dutyAt 11 = .ok (.invokestatic 43, 3) := by decide +kernel
theorem dX3_dutyAt_14 : decode cX3_dutyAt 14 = .ok (.ifCond .ne 13, 3) := by decide +kernel
theorem dX3_dutyAt_17 : decode cX3_dutyAt 17 = .ok (.new 204, 3) := by decide +kernel
theorem dX3_dutyAt_20 : decode cX3_dutyAt 20 = .ok (.dup, 1) := by decide +kernel
theorem dX3_dutyAt_21 : decode cX3_dutyAt 21 = .ok (.ldc 213, 2) := by decide +kernel
theorem dX3_dutyAt_23 : decode cX3_dutyAt 23 = .ok (.invokespecial 208, 3) := by decide +kernel
theorem dX3_dutyAt_26 : decode cX3_dutyAt 26 = .ok (.athrow, 1) := by decide +kernel
theorem dX3_dutyAt_27 : decode cX3_dutyAt 27 = .ok (.aload_n 0, 1) := by decide +kernel
theorem dX3_dutyAt_28 : decode cX3_dutyAt 28 = .ok (.getfield 29, 3) := by decide +kernel
theorem dX3_dutyAt_31 : decode cX3_dutyAt 31 = .ok (.iload_n 1, 1) := by decide +kernel
theorem dX3_dutyAt_32 : decode cX3_dutyAt 32 = .ok (.invokevirtual 209, 3) := by decide +kernel
theorem dX3_dutyAt_35 : decode cX3_dutyAt 35 = .ok (.checkcast 152, 3) := by decide +kernel
theorem dX3_dutyAt_38 : decode cX3_dutyAt 38 = .ok (.areturn, 1) := by decide +kernel
theorem dX3_numberOf_0 : decode cX3_numberOf 0 = .ok (.aload_n 0, 1) := by decide +kernel
theorem dX3_numberOf_1 : decode cX3_numberOf 1 = .ok (.ifnonnull 7, 3) := by decide +kernel
theorem dX3_numberOf_4 : decode cX3_numberOf 4 = .ok (.iconst 0, 1) := by decide +kernel
theorem dX3_numberOf_5 : decode cX3_numberOf 5 = .ok (.goto 7, 3) := by decide +kernel
theorem dX3_numberOf_8 : decode cX3_numberOf 8 = .ok (.aload_n 0, 1) := by decide +kernel
theorem dX3_numberOf_9 : decode cX3_numberOf 9 = .ok (.getfield 215, 3) := by decide +kernel
theorem dX3_numberOf_12 : decode cX3_numberOf 12 = .ok (.ireturn, 1) := by decide +kernel
set_option maxRecDepth 20000 in
theorem ggX3_newestNumber_X3_numberOf : GoodIn wsX3_newestNumber wsX3_numberOf := goodIn_r _ [5, 6, 13, 14, 15, 16, 17] (by decide +kernel) (by decide +kernel)
set_option maxRecDepth 20000 in
theorem gX3_newestNumber_X3_numberOf : GoodIn wsX3_newestNumber (va_wsS RX3 218 yX3_numberOf wsX3_numberOf) := goodIn_app (goodIn_of _ (by decide +kernel)) ggX3_newestNumber_X3_numberOf
theorem dX3_newestNumber_0 : decode cX3_newestNumber 0 = .ok (.aload_n 0, 1) := by decide +kernel
theorem dX3_newestNumber_1 : decode cX3_newestNumber 1 = .ok (.getfield 11, 3) := by decide +kernel
theorem dX3_newestNumber_4 : decode cX3_newestNumber 4 = .ok (.iload_n 1, 1) := by decide +kernel
theorem dX3_newestNumber_5 : decode cX3_newestNumber 5 = .ok (.aaload, 1) := by decide +kernel
theorem dX3_newestNumber_6 : decode cX3_newestNumber 6 = .ok (.invokestatic 218, 3) := by decide +kernel
theorem dX3_newestNumber_9 : decode cX3_newestNumber 9 = .ok (.ireturn, 1) := by decide +kernel
set_option maxRecDepth 20000 in
theorem ggX3_itemNumber_X3_numberOf : GoodIn wsX3_itemNumber wsX3_numberOf := goodIn_r _ [5, 6, 12, 13, 14, 15, 16] (by decide +kernel) (by decide +kernel)
set_option maxRecDepth 20000 in
theorem gX3_itemNumber_X3_numberOf : GoodIn wsX3_itemNumber (va_wsS RX3 218 yX3_numberOf wsX3_numberOf) := goodIn_app (goodIn_of _ (by decide +kernel)) ggX3_itemNumber_X3_numberOf
theorem dX3_itemNumber_0 : decode cX3_itemNumber 0 = .ok (.aload_n 0, 1) := by decide +kernel
theorem dX3_itemNumber_1 : decode cX3_itemNumber 1 = .ok (.getfield 93, 3) := by decide +kernel
theorem dX3_itemNumber_4 : decode cX3_itemNumber 4 = .ok (.iload_n 1, 1) := by decide +kernel
theorem dX3_itemNumber_5 : decode cX3_itemNumber 5 = .ok (.aaload, 1) := by decide +kernel
theorem dX3_itemNumber_6 : decode cX3_itemNumber 6 = .ok (.invokestatic 218, 3) := by decide +kernel
theorem dX3_itemNumber_9 : decode cX3_itemNumber 9 = .ok (.ireturn, 1) := by decide +kernel
set_option maxRecDepth 20000 in
theorem ggX3_hasLaterVersion_X3_itemNumber : GoodIn wsX3_hasLaterVersion wsX3_itemNumber := goodIn_r _ [5, 1, 6, 7, 4, 8, 9, 15, 16, 17, 18, 19, 20, 21, 22, 23, 24] (by decide +kernel) (by decide +kernel)
set_option maxRecDepth 20000 in
theorem gX3_hasLaterVersion_X3_itemNumber : GoodIn wsX3_hasLaterVersion (va_wsS RX3 116 yX3_itemNumber wsX3_itemNumber) := goodIn_app (goodIn_of _ (by decide +kernel)) ggX3_hasLaterVersion_X3_itemNumber
set_option maxRecDepth 20000 in
theorem ggX3_hasLaterVersion_X3_newestNumber : GoodIn wsX3_hasLaterVersion wsX3_newestNumber := goodIn_r _ [13, 14, 6, 7, 4, 8, 9, 25, 26, 27, 28, 29, 30, 20, 21, 22, 23, 24] (by decide +kernel) (by decide +kernel)
set_option maxRecDepth 20000 in
theorem gX3_hasLaterVersion_X3_newestNumber : GoodIn wsX3_hasLaterVersion (wsV RX3 54 RX3 yX3_newestNumber wsX3_newestNumber) := goodIn_app (goodIn_of _ (by decide +kernel)) ggX3_hasLaterVersion_X3_newestNumber
theorem dX3_hasLaterVersion_0 : decode cX3_hasLaterVersion 0 = .ok (.aload_n 1, 1) := by decide +kernel
theorem dX3_hasLaterVersion_1 : decode cX3_hasLaterVersion 1 = .ok (.getfield 93, 3) := by decide +kernel
theorem dX3_hasLaterVersion_4 : decode cX3_hasLaterVersion 4 = .ok (.iload_n 2, 1) := by decide +kernel
theorem dX3_hasLaterVersion_5 : decode cX3_hasLaterVersion 5 = .ok (.aaload, 1) := by decide +kernel
theorem dX3_hasLaterVersion_6 : decode cX3_hasLaterVersion 6 = .ok (.ifnull 20, 3) := by decide +kernel
theorem dX3_hasLaterVersion_9 : decode cX3_hasLaterVersion 9 = .ok (.aload_n 1, 1) := by decide +kernel
theorem dX3_hasLaterVersion_10 : decode cX3_hasLaterVersion 10 = .ok (.iload_n 2, 1) := by decide +kernel
theorem dX3_hasLaterVersion_11 : decode cX3_hasLaterVersion 11 = .ok (.invokestatic 116, 3) := by decide +kernel
theorem dX3_hasLaterVersion_14 : decode cX3_hasLaterVersion 14 = .ok (.aload_n 0, 1) := by decide +kernel
theorem dX3_hasLaterVersion_15 : decode cX3_hasLaterVersion 15 = .ok (.iload_n 2, 1) := by decide +kernel
theorem dX3_hasLaterVersion_16 : decode cX3_hasLaterVersion 16 = .ok (.invokevirtual 54, 3) := by decide +kernel
theorem dX3_hasLaterVersion_19 : decode cX3_hasLaterVersion 19 = .ok (.if_icmp .ge 7, 3) := by decide +kernel
theorem dX3_hasLaterVersion_22 : decode cX3_hasLaterVersion 22 = .ok (.iconst 1, 1) := by decide +kernel
theorem dX3_hasLaterVersion_23 : decode cX3_hasLaterVersion 23 = .ok (.goto 4, 3) := by decide +kernel
theorem dX3_hasLaterVersion_26 : decode cX3_hasLaterVersion 26 = .ok (.iconst 0, 1) := by decide +kernel
theorem dX3_hasLaterVersion_27 : decode cX3_hasLaterVersion 27 = .ok (.ireturn, 1) := by decide +kernel
set_option maxRecDepth 20000 in
theorem ggX3_obstacle_X0_clauseSet : GoodIn wsX3_obstacle wsX0_clauseSet := goodIn_r _ [7, 8, 29, 30, 31, 32, 33] (by decide +kernel) (by decide +kernel)
set_option maxRecDepth 20000 in
theorem gX3_obstacle_X0_clauseSet : GoodIn wsX3_obstacle (wsV RX3 222 RX0 yX0_clauseSet wsX0_clauseSet) := goodIn_app (goodIn_of _ (by decide +kernel)) ggX3_obstacle_X0_clauseSet
set_option maxRecDepth 20000 in
theorem ggX3_obstacle_X0_isDraft : GoodIn wsX3_obstacle wsX0_isDraft := goodIn_r _ [12, 13, 29, 30, 31, 32, 33] (by decide +kernel) (by decide +kernel)
set_option maxRecDepth 20000 in
theorem gX3_obstacle_X0_isDraft : GoodIn wsX3_obstacle (wsV RX3 120 RX0 yX0_isDraft wsX0_isDraft) := goodIn_app (goodIn_of _ (by decide +kernel)) ggX3_obstacle_X0_isDraft
set_option maxRecDepth 20000 in
theorem ggX3_obstacle_X0_isAgreed : GoodIn wsX3_obstacle wsX0_isAgreed := goodIn_r _ [17, 8, 18, 29, 30, 31, 32, 33] (by decide +kernel) (by decide +kernel)
set_option maxRecDepth 20000 in
theorem gX3_obstacle_X0_isAgreed : GoodIn wsX3_obstacle (wsV RX3 225 RX0 yX0_isAgreed wsX0_isAgreed) := goodIn_app (goodIn_of _ (by decide +kernel)) ggX3_obstacle_X0_isAgreed
set_option maxRecDepth 20000 in
theorem ggX3_obstacle_X3_unionOver : GoodIn wsX3_obstacle wsX3_unionOver := goodIn_r _ [22] (by decide +kernel) (by decide +kernel)
set_option maxRecDepth 20000 in
theorem gX3_obstacle_X3_unionOver : GoodIn wsX3_obstacle (va_wsS RX3 228 yX3_unionOver wsX3_unionOver) := goodIn_app (goodIn_of _ (by decide +kernel)) ggX3_obstacle_X3_unionOver
theorem dX3_obstacle_0 : decode cX3_obstacle 0 = .ok (.aload_n 1, 1) := by decide +kernel
theorem dX3_obstacle_1 : decode cX3_obstacle 1 = .ok (.invokevirtual 222, 3) := by decide +kernel
theorem dX3_obstacle_4 : decode cX3_obstacle 4 = .ok (.istore_n 2, 1) := by decide +kernel
theorem dX3_obstacle_5 : decode cX3_obstacle 5 = .ok (.aload_n 1, 1) := by decide +kernel
theorem dX3_obstacle_6 : decode cX3_obstacle 6 = .ok (.invokevirtual 120, 3) := by decide +kernel
theorem dX3_obstacle_9 : decode cX3_obstacle 9 = .ok (.ifCond .ne 5, 3) := by decide +kernel
theorem dX3_obstacle_12 : decode cX3_obstacle 12 = .ok (.iconst 1, 1) := by decide +kernel
theorem dX3_obstacle_13 : decode cX3_obstacle 13 = .ok (.ireturn, 1) := by decide +kernel
theorem dX3_obstacle_14 : decode cX3_obstacle 14 = .ok (.iload_n 2, 1) := by decide +kernel
theorem dX3_obstacle_15 : decode cX3_obstacle 15 = .ok (.ifCond .ne 5, 3) := by decide +kernel
theorem dX3_obstacle_18 : decode cX3_obstacle 18 = .ok (.iconst 2, 1) := by decide +kernel
theorem dX3_obstacle_19 : decode cX3_obstacle 19 = .ok (.ireturn, 1) := by decide +kernel
theorem dX3_obstacle_20 : decode cX3_obstacle 20 = .ok (.aload_n 1, 1) := by decide +kernel
theorem dX3_obstacle_21 : decode cX3_obstacle 21 = .ok (.invokevirtual 225, 3) := by decide +kernel
theorem dX3_obstacle_24 : decode cX3_obstacle 24 = .ok (.ifCond .ne 5, 3) := by decide +kernel
theorem dX3_obstacle_27 : decode cX3_obstacle 27 = .ok (.iconst 3, 1) := by decide +kernel
theorem dX3_obstacle_28 : decode cX3_obstacle 28 = .ok (.ireturn, 1) := by decide +kernel
theorem dX3_obstacle_29 : decode cX3_obstacle 29 = .ok (.iload_n 2, 1) := by decide +kernel
theorem dX3_obstacle_30 : decode cX3_obstacle 30 = .ok (.aload_n 0, 1) := by decide +kernel
theorem dX3_obstacle_31 : decode cX3_obstacle 31 = .ok (.getfield 15, 3) := by decide +kernel
theorem dX3_obstacle_34 : decode cX3_obstacle 34 = .ok (.invokestatic 228, 3) := by decide +kernel
theorem dX3_obstacle_37 : decode cX3_obstacle 37 = .ok (.iload_n 2, 1) := by decide +kernel
theorem dX3_obstacle_38 : decode cX3_obstacle 38 = .ok (.iconst (-1), 1) := by decide +kernel
theorem dX3_obstacle_39 : decode cX3_obstacle 39 = .ok (.ixor, 1) := by decide +kernel
theorem dX3_obstacle_40 : decode cX3_obstacle 40 = .ok (.iand, 1) := by decide +kernel
theorem dX3_obstacle_41 : decode cX3_obstacle 41 = .ok (.ifCond .eq 5, 3) := by decide +kernel
theorem dX3_obstacle_44 : decode cX3_obstacle 44 = .ok (.iconst 4, 1) := by decide +kernel
theorem dX3_obstacle_45 : decode cX3_obstacle 45 = .ok (.ireturn, 1) := by decide +kernel
theorem dX3_obstacle_46 : decode cX3_obstacle 46 = .ok (.iload_n 2, 1) := by decide +kernel
theorem dX3_obstacle_47 : decode cX3_obstacle 47 = .ok (.aload_n 0, 1) := by decide +kernel
theorem dX3_obstacle_48 : decode cX3_obstacle 48 = .ok (.getfield 19, 3) := by decide +kernel
theorem dX3_obstacle_51 : decode cX3_obstacle 51 = .ok (.invokestatic 228, 3) := by decide +kernel
theorem dX3_obstacle_54 : decode cX3_obstacle 54 = .ok (.iload_n 2, 1) := by decide +kernel
theorem dX3_obstacle_55 : decode cX3_obstacle 55 = .ok (.iand, 1) := by decide +kernel
theorem dX3_obstacle_56 : decode cX3_obstacle 56 = .ok (.ifCond .eq 7, 3) := by decide +kernel
theorem dX3_obstacle_59 : decode cX3_obstacle 59 = .ok (.iconst 5, 1) := by decide +kernel
theorem dX3_obstacle_60 : decode cX3_obstacle 60 = .ok (.goto 4, 3) := by decide +kernel
theorem dX3_obstacle_63 : decode cX3_obstacle 63 = .ok (.iconst 0, 1) := by decide +kernel
theorem dX3_obstacle_64 : decode cX3_obstacle 64 = .ok (.ireturn, 1) := by decide +kernel
theorem dX3_unionOver_0 : decode cX3_unionOver 0 = .ok (.iconst 0, 1) := by decide +kernel
theorem dX3_unionOver_1 : decode cX3_unionOver 1 = .ok (.istore_n 2, 1) := by decide +kernel
theorem dX3_unionOver_2 : decode cX3_unionOver 2 = .ok (.iconst 0, 1) := by decide +kernel
theorem dX3_unionOver_3 : decode cX3_unionOver 3 = .ok (.istore_n 3, 1) := by decide +kernel
theorem dX3_unionOver_4 : decode cX3_unionOver 4 = .ok (.iload_n 3, 1) := by decide +kernel
theorem dX3_unionOver_5 : decode cX3_unionOver 5 = .ok (.bipush 10, 2) := by decide +kernel
theorem dX3_unionOver_7 : decode cX3_unionOver 7 = .ok (.if_icmp .ge 23, 3) := by decide +kernel
theorem dX3_unionOver_10 : decode cX3_unionOver 10 = .ok (.iload_n 0, 1) := by decide +kernel
theorem dX3_unionOver_11 : decode cX3_unionOver 11 = .ok (.iconst 1, 1) := by decide +kernel
theorem dX3_unionOver_12 : decode cX3_unionOver 12 = .ok (.iload_n 3, 1) := by decide +kernel
theorem dX3_unionOver_13 : decode cX3_unionOver 13 = .ok (.ishl, 1) := by decide +kernel
theorem dX3_unionOver_14 : decode cX3_unionOver 14 = .ok (.iand, 1) := by decide +kernel
theorem dX3_unionOver_15 : decode cX3_unionOver 15 = .ok (.ifCond .eq 9, 3) := by decide +kernel
theorem dX3_unionOver_18 : decode cX3_unionOver 18 = .ok (.iload_n 2, 1) := by decide +kernel
theorem dX3_unionOver_19 : decode cX3_unionOver 19 = .ok (.aload_n 1, 1) := by decide +kernel
theorem dX3_unionOver_20 : decode cX3_unionOver 20 = .ok (.iload_n 3, 1) := by decide +kernel
theorem dX3_unionOver_21 : decode cX3_unionOver 21 = .ok (.iaload, 1) := by decide +kernel
theorem dX3_unionOver_22 : decode cX3_unionOver 22 = .ok (.ior, 1) := by decide +kernel
theorem dX3_unionOver_23 : decode cX3_unionOver 23 = .ok (.istore_n 2, 1) := by decide +kernel
theorem dX3_unionOver_24 : decode cX3_unionOver 24 = .ok (.iinc 3 1, 3) := by decide +kernel
theorem dX3_unionOver_27 : decode cX3_unionOver 27 = .ok (.goto (-23), 3) := by decide +kernel
theorem dX3_unionOver_30 : decode cX3_unionOver 30 = .ok (.iload_n 2, 1) := by decide +kernel
theorem dX3_unionOver_31 : decode cX3_unionOver 31 = .ok (.ireturn, 1) := by decide +kernel
set_option maxRecDepth 20000 in
theorem ggX3_makeDuties_X1_init : GoodIn wsX3_makeDuties wsX1_init := goodIn_r _ [10, 11, 12, 13, 14, 15, 16, 17, 85, 86, 87, 88] (by decide +kernel) (by decide +kernel)
set_option maxRecDepth 20000 in
theorem gX3_makeDuties_X1_init : GoodIn wsX3_makeDuties (wsX1_init) := ggX3_makeDuties_X1_init
set_option maxRecDepth 20000 in
theorem ggX3_makeDuties_Jx4a65c_add_9ea2d : GoodIn wsX3_makeDuties wsJx4a65c_add_9ea2d := goodIn_r _ [22, 23, 24, 25, 26, 27, 28, 29, 21, 30, 31, 32, 33, 34, 35, 36, 37, 38, 39, 40, 41, 42, 43, 44, 45, 46, 47, 48, 49, 50, 51, 52, 53, 54, 55, 56, 57, 58, 59, 60, 61, 62, 63, 64, 65, 66, 67, 68, 69, 70, 71, 72, 73, 94, 95, 96] (by decide +kernel) (by decide +kernel)
set_option maxRecDepth 20000 in
theorem gX3_makeDuties_Jx4a65c_add_9ea2d : GoodIn wsX3_makeDuties (wsV RX3 79 RJx4a65c yJx4a65c_add_9ea2d wsJx4a65c_add_9ea2d) := goodIn_app (goodIn_of _ (by decide +kernel)) ggX3_makeDuties_Jx4a65c_add_9ea2d
theorem dX3_makeDuties_0 : decode cX3_makeDuties 0 = .ok (.iconst 0, 1) := by decide +kernel
theorem dX3_makeDuties_1 : decode cX3_makeDuties 1 = .ok (.istore_n 2, 1) := by decide +kernel
theorem dX3_makeDuties_2 : decode cX3_makeDuties 2 = .ok (.iconst 0, 1) := by decide +kernel
theorem dX3_makeDuties_3 : decode cX3_makeDuties 3 = .ok (.istore_n 3, 1) := by decide +kernel
theorem dX3_makeDuties_4 : decode cX3_makeDuties 4 = .ok (.iload_n 3, 1) := by decide +kernel
theorem dX3_makeDuties_5 : decode cX3_makeDuties 5 = .ok (.bipush 10, 2) := by decide +kernel
theorem dX3_makeDuties_7 : decode cX3_makeDuties 7 = .ok (.if_icmp .ge 53, 3) := by decide +kernel
theorem dX3_makeDuties_10 : decode cX3_makeDuties 10 = .ok (.aload_n 1, 1) := by decide +kernel
theorem dX3_makeDuties_11 : decode cX3_makeDuties 11 = .ok (.getfield 93, 3) := by decide +kernel
theorem dX3_makeDuties_14 : decode cX3_makeDuties 14 = .ok (.iload_n 3, 1) := by decide +kernel
theorem dX3_makeDuties_15 : decode cX3_makeDuties 15 = .ok (.aaload, 1) := by decide +kernel
theorem dX3_makeDuties_16 : decode cX3_makeDuties 16 = .ok (.astore 4, 2) := by decide +kernel
theorem dX3_makeDuties_18 : decode cX3_makeDuties 18 = .ok (.aload 4, 2) := by decide +kernel
theorem dX3_makeDuties_20 : decode cX3_makeDuties 20 = .ok (.ifnull 34, 3) := by decide +kernel
theorem dX3_makeDuties_23 : decode cX3_makeDuties 23 = .ok (.aload_n 0, 1) := by decide +kernel
theorem dX3_makeDuties_24 : decode cX3_makeDuties 24 = .ok (.getfield 29, 3) := by decide +kernel
theorem dX3_makeDuties_27 : decode cX3_makeDuties 27 = .ok (.new 152, 3) := by decide +kernel
theorem dX3_makeDuties_30 : decode cX3_makeDuties 30 = .ok (.dup, 1) := by decide +kernel
theorem dX3_makeDuties_31 : decode cX3_makeDuties 31 = .ok (.aload_n 1, 1) := by decide +kernel
theorem dX3_makeDuties_32 : decode cX3_makeDuties 32 = .ok (.aload 4, 2) := by decide +kernel
theorem dX3_makeDuties_34 : decode cX3_makeDuties 34 = .ok (.aload_n 0, 1) := by decide +kernel
theorem dX3_makeDuties_35 : decode cX3_makeDuties 35 = .ok (.getfield 32, 3) := by decide +kernel
theorem dX3_makeDuties_38 : decode cX3_makeDuties 38 = .ok (.aload 4, 2) := by decide +kernel
theorem dX3_makeDuties_40 : decode cX3_makeDuties 40 = .ok (.getfield 232, 3) := by decide +kernel
theorem dX3_makeDuties_43 : decode cX3_makeDuties 43 = .ok (.iadd, 1) := by decide +kernel
theorem dX3_makeDuties_44 : decode cX3_makeDuties 44 = .ok (.invokespecial 235, 3) := by decide +kernel
theorem dX3_makeDuties_47 : decode cX3_makeDuties 47 = .ok (.invokevirtual 79, 3) := by decide +kernel
theorem dX3_makeDuties_50 : decode cX3_makeDuties 50 = .ok (.pop, 1) := by decide +kernel
theorem dX3_makeDuties_51 : decode cX3_makeDuties 51 = .ok (.iinc 2 1, 3) := by decide +kernel
theorem dX3_makeDuties_54 : decode cX3_makeDuties 54 = .ok (.iinc 3 1, 3) := by decide +kernel
theorem dX3_makeDuties_57 : decode cX3_makeDuties 57 = .ok (.goto (-53), 3) := by decide +kernel
theorem dX3_makeDuties_60 : decode cX3_makeDuties 60 = .ok (.iload_n 2, 1) := by decide +kernel
theorem dX3_makeDuties_61 : decode cX3_makeDuties 61 = .ok (.ireturn, 1) := by decide +kernel
set_option maxRecDepth 20000 in
theorem ggX3_putOffHeldUpDuties_Jx4a65c_size_8abf5 : GoodIn wsX3_putOffHeldUpDuties wsJx4a65c_size_8abf5 := goodIn_r _ [8, 9, 51, 52, 53] (by decide +kernel) (by decide +kernel)
set_option maxRecDepth 20000 in
theorem gX3_putOffHeldUpDuties_Jx4a65c_size_8abf5 : GoodIn wsX3_putOffHeldUpDuties (wsV RX3 70 RJx4a65c yJx4a65c_size_8abf5 wsJx4a65c_size_8abf5) := goodIn_app (goodIn_of _ (by decide +kernel)) ggX3_putOffHeldUpDuties_Jx4a65c_size_8abf5
set_option maxRecDepth 20000 in
theorem ggX3_putOffHeldUpDuties_Jx4a65c_get_915e3 : GoodIn wsX3_putOffHeldUpDuties wsJx4a65c_get_915e3 := goodIn_r _ [13, 9, 14, 15, 16, 17, 18, 19, 20, 21, 22, 23, 24, 7, 25, 26, 51, 52, 53] (by decide +kernel) (by decide +kernel)
set_option maxRecDepth 20000 in
theorem gX3_putOffHeldUpDuties_Jx4a65c_get_915e3 : GoodIn wsX3_putOffHeldUpDuties (wsV RX3 209 RJx4a65c yJx4a65c_get_915e3 wsJx4a65c_get_915e3) := goodIn_app (goodIn_of _ (by decide +kernel)) ggX3_putOffHeldUpDuties_Jx4a65c_get_915e3
set_option maxRecDepth 20000 in
theorem ggX3_putOffHeldUpDuties_X1_isHeldUp : GoodIn wsX3_putOffHeldUpDuties wsX1_isHeldUp := goodIn_r _ [31, 32, 33, 34, 35, 36, 37, 38, 30, 39, 40, 47, 48, 49, 50, 54, 55, 56, 57, 58, 59, 60, 61, 62, 63] (by decide +kernel) (by decide +kernel)
set_option maxRecDepth 20000 in
theorem gX3_putOffHeldUpDuties_X1_isHeldUp : GoodIn wsX3_putOffHeldUpDuties (wsV RX3 159 RX1 yX1_isHeldUp wsX1_isHeldUp) := goodIn_app (goodIn_of _ (by decide +kernel)) ggX3_putOffHeldUpDuties_X1_isHeldUp
theorem dX3_putOffHeldUpDuties_0 : decode cX3_putOffHeldUpDuties 0 = .ok (.iconst 0, 1) := by decide +kernel
theorem dX3_putOffHeldUpDuties_1 : decode cX3_putOffHeldUpDuties 1 = .ok (.istore_n 1, 1) := by decide +kernel
theorem dX3_putOffHeldUpDuties_2 : decode cX3_putOffHeldUpDuties 2 = .ok (.iload_n 1, 1) := by decide +kernel
theorem dX3_putOffHeldUpDuties_3 : decode cX3_putOffHeldUpDuties 3 = .ok (.aload_n 0, 1) := by decide +kernel
theorem dX3_putOffHeldUpDuties_4 : decode cX3_putOffHeldUpDuties 4 = .ok (.getfield 29, 3) := by decide +kernel
theorem dX3_putOffHeldUpDuties_7 : decode cX3_putOffHeldUpDuties 7 = .ok (.invokevirtual 70, 3) := by decide +kernel
theorem dX3_putOffHeldUpDuties_10 : decode cX3_putOffHeldUpDuties 10 = .ok (.if_icmp .ge 38, 3) := by decide +kernel
theorem dX3_putOffHeldUpDuties_13 : decode cX3_putOffHeldUpDuties 13 = .ok (.aload_n 0, 1) := by decide +kernel
theorem dX3_putOffHeldUpDuties_14 : decode cX3_putOffHeldUpDuties 14 = .ok (.getfield 29, 3) := by decide +kernel
theorem dX3_putOffHeldUpDuties_17 : decode cX3_putOffHeldUpDuties 17 = .ok (.iload_n 1, 1) := by decide +kernel
theorem dX3_putOffHeldUpDuties_18 : decode cX3_putOffHeldUpDuties 18 = .ok (.invokevirtual 209, 3) := by decide +kernel
theorem dX3_putOffHeldUpDuties_21 : decode cX3_putOffHeldUpDuties 21 = .ok (.checkcast 152, 3) := by decide +kernel
theorem dX3_putOffHeldUpDuties_24 : decode cX3_putOffHeldUpDuties 24 = .ok (.astore_n 2, 1) := by decide +kernel
theorem dX3_putOffHeldUpDuties_25 : decode cX3_putOffHeldUpDuties 25 = .ok (.aload_n 2, 1) := by decide +kernel
theorem dX3_putOffHeldUpDuties_26 : decode cX3_putOffHeldUpDuties 26 = .ok (.invokevirtual 159, 3) := by decide +kernel
theorem dX3_putOffHeldUpDuties_29 : decode cX3_putOffHeldUpDuties 29 = .ok (.ifCond .eq 13, 3) := by decide +kernel
theorem dX3_putOffHeldUpDuties_32 : decode cX3_putOffHeldUpDuties 32 = .ok (.aload_n 2, 1) := by decide +kernel
theorem dX3_putOffHeldUpDuties_33 : decode cX3_putOffHeldUpDuties 33 = .ok (.dup, 1) := by decide +kernel
theorem dX3_putOffHeldUpDuties_34 : decode cX3_putOffHeldUpDuties 34 = .ok (.getfield 156, 3) := by decide +kernel
theorem dX3_putOffHeldUpDuties_37 : decode cX3_putOffHeldUpDuties 37 = .ok (.iconst 1, 1) := by decide +kernel
theorem dX3_putOffHeldUpDuties_38 : decode cX3_putOffHeldUpDuties 38 = .ok (.iadd, 1) := by decide +kernel
theorem dX3_putOffHeldUpDuties_39 : decode cX3_putOffHeldUpDuties 39 = .ok (.putfield 156, 3) := by decide +kernel
theorem dX3_putOffHeldUpDuties_42 : decode cX3_putOffHeldUpDuties 42 = .ok (.iinc 1 1, 3) := by decide +kernel
theorem dX3_putOffHeldUpDuties_45 : decode cX3_putOffHeldUpDuties 45 = .ok (.goto (-43), 3) := by decide +kernel
theorem dX3_putOffHeldUpDuties_48 : decode cX3_putOffHeldUpDuties 48 = .ok (.return_, 1) := by decide +kernel
set_option maxRecDepth 20000 in
theorem ggX3_breachUncuredDuties_Jx4a65c_size_8abf5 : GoodIn wsX3_breachUncuredDuties wsJx4a65c_size_8abf5 := goodIn_r _ [10, 11, 56, 57, 58] (by decide +kernel) (by decide +kernel)
set_option maxRecDepth 20000 in
theorem gX3_breachUncuredDuties_Jx4a65c_size_8abf5 : GoodIn wsX3_breachUncuredDuties (wsV RX3 70 RJx4a65c yJx4a65c_size_8abf5 wsJx4a65c_size_8abf5) := goodIn_app (goodIn_of _ (by decide +kernel)) ggX3_breachUncuredDuties_Jx4a65c_size_8abf5
set_option maxRecDepth 20000 in
theorem ggX3_breachUncuredDuties_Jx4a65c_get_915e3 : GoodIn wsX3_breachUncuredDuties wsJx4a65c_get_915e3 := goodIn_r _ [15, 11, 16, 17, 18, 19, 20, 21, 22, 23, 24, 25, 26, 9, 27, 28, 56, 57, 58] (by decide +kernel) (by decide +kernel)
set_option maxRecDepth 20000 in
theorem gX3_breachUncuredDuties_Jx4a65c_get_915e3 : GoodIn wsX3_breachUncuredDuties (wsV RX3 209 RJx4a65c yJx4a65c_get_915e3 wsJx4a65c_get_915e3) := goodIn_app (goodIn_of _ (by decide +kernel)) ggX3_breachUncuredDuties_Jx4a65c_get_915e3
set_option maxRecDepth 20000 in
theorem ggX3_breachUncuredDuties_X1_move : GoodIn wsX3_breachUncuredDuties wsX1_move := goodIn_r _ [33, 34, 35, 52, 53, 54, 55] (by decide +kernel) (by decide +kernel)
set_option maxRecDepth 20000 in
theorem gX3_breachUncuredDuties_X1_move : GoodIn wsX3_breachUncuredDuties (wsV RX3 167 RX1 yX1_move wsX1_move) := goodIn_app (goodIn_of _ (by decide +kernel)) ggX3_breachUncuredDuties_X1_move
set_option maxRecDepth 20000 in
theorem ggX3_breachUncuredDuties_X1_countBreach : GoodIn wsX3_breachUncuredDuties wsX1_countBreach := goodIn_r _ [39, 40, 41, 42, 43, 44, 45, 52, 53, 54, 55, 59, 60, 61, 62, 63, 64, 65, 66, 67, 68] (by decide +kernel) (by decide +kernel)
set_option maxRecDepth 20000 in
theorem gX3_breachUncuredDuties_X1_countBreach : GoodIn wsX3_breachUncuredDuties (wsV RX3 181 RX1 yX1_countBreach wsX1_countBreach) := goodIn_app (goodIn_of _ (by decide +kernel)) ggX3_breachUncuredDuties_X1_countBreach
theorem dX3_breachUncuredDuties_0 : decode cX3_breachUncuredDuties 0 = .ok (.iconst 0, 1) := by decide +kernel
theorem dX3_breachUncuredDuties_1 : decode cX3_breachUncuredDuties 1 = .ok (.istore_n 1, 1) := by decide +kernel
theorem dX3_breachUncuredDuties_2 : decode cX3_breachUncuredDuties 2 = .ok (.iconst 0, 1) := by decide +kernel
theorem dX3_breachUncuredDuties_3 : decode cX3_breachUncuredDuties 3 = .ok (.istore_n 2, 1) := by decide +kernel
theorem dX3_breachUncuredDuties_4 : decode cX3_breachUncuredDuties 4 = .ok (.iload_n 2, 1) := by decide +kernel
theorem dX3_breachUncuredDuties_5 : decode cX3_breachUncuredDuties 5 = .ok (.aload_n 0, 1) := by decide +kernel
theorem dX3_breachUncuredDuties_6 : decode cX3_breachUncuredDuties 6 = .ok (.getfield 29, 3) := by decide +kernel
theorem dX3_breachUncuredDuties_9 : decode cX3_breachUncuredDuties 9 = .ok (.invokevirtual 70, 3) := by decide +kernel
theorem dX3_breachUncuredDuties_12 : decode cX3_breachUncuredDuties 12 = .ok (.if_icmp .ge 57, 3) := by decide +kernel
theorem dX3_breachUncuredDuties_15 : decode cX3_breachUncuredDuties 15 = .ok (.aload_n 0, 1) := by decide +kernel
theorem dX3_breachUncuredDuties_16 : decode cX3_breachUncuredDuties 16 = .ok (.getfield 29, 3) := by decide +kernel
theorem dX3_breachUncuredDuties_19 : decode cX3_breachUncuredDuties 19 = .ok (.iload_n 2, 1) := by decide +kernel
theorem dX3_breachUncuredDuties_20 : decode cX3_breachUncuredDuties 20 = .ok (.invokevirtual 209, 3) := by decide +kernel
theorem dX3_breachUncuredDuties_23 : decode cX3_breachUncuredDuties 23 = .ok (.checkcast 152, 3) := by decide +kernel
theorem dX3_breachUncuredDuties_26 : decode cX3_breachUncuredDuties 26 = .ok (.astore_n 3, 1) := by decide +kernel
theorem dX3_breachUncuredDuties_27 : decode cX3_breachUncuredDuties 27 = .ok (.aload_n 3, 1) := by decide +kernel
theorem dX3_breachUncuredDuties_28 : decode cX3_breachUncuredDuties 28 = .ok (.getfield 151, 3) := by decide +kernel
theorem dX3_breachUncuredDuties_31 : decode cX3_breachUncuredDuties 31 = .ok (.iconst 2, 1) := by decide +kernel
theorem dX3_breachUncuredDuties_32 : decode cX3_breachUncuredDuties 32 = .ok (.if_icmp .ne 31, 3) := by decide +kernel
theorem dX3_breachUncuredDuties_35 : decode cX3_breachUncuredDuties 35 = .ok (.aload_n 0, 1) := by decide +kernel
theorem dX3_breachUncuredDuties_36 : decode cX3_breachUncuredDuties 36 = .ok (.getfield 32, 3) := by decide +kernel
theorem dX3_breachUncuredDuties_39 : decode cX3_breachUncuredDuties 39 = .ok (.aload_n 3, 1) := by decide +kernel
theorem dX3_breachUncuredDuties_40 : decode cX3_breachUncuredDuties 40 = .ok (.getfield 156, 3) := by decide +kernel
theorem dX3_breachUncuredDuties_43 : decode cX3_breachUncuredDuties 43 = .ok (.if_icmp .le 20, 3) := by decide +kernel
theorem dX3_breachUncuredDuties_46 : decode cX3_breachUncuredDuties 46 = .ok (.aload_n 3, 1) := by decide +kernel
theorem dX3_breachUncuredDuties_47 : decode cX3_breachUncuredDuties 47 = .ok (.iconst 3, 1) := by decide +kernel
theorem dX3_breachUncuredDuties_48 : decode cX3_breachUncuredDuties 48 = .ok (.aload_n 0, 1) := by decide +kernel
theorem dX3_breachUncuredDuties_49 : decode cX3_breachUncuredDuties 49 = .ok (.getfield 32, 3) := by decide +kernel
theorem dX3_breachUncuredDuties_52 : decode cX3_breachUncuredDuties 52 = .ok (.invokevirtual 167, 3) := by decide +kernel
theorem dX3_breachUncuredDuties_55 : decode cX3_breachUncuredDuties 55 = .ok (.aload_n 3, 1) := by decide +kernel
theorem dX3_breachUncuredDuties_56 : decode cX3_breachUncuredDuties 56 = .ok (.iconst 1, 1) := by decide +kernel
theorem dX3_breachUncuredDuties_57 : decode cX3_breachUncuredDuties 57 = .ok (.invokevirtual 181, 3) := by decide +kernel
theorem dX3_breachUncuredDuties_60 : decode cX3_breachUncuredDuties 60 = .ok (.iinc 1 1, 3) := by decide +kernel
theorem dX3_breachUncuredDuties_63 : decode cX3_breachUncuredDuties 63 = .ok (.iinc 2 1, 3) := by decide +kernel
theorem dX3_breachUncuredDuties_66 : decode cX3_breachUncuredDuties 66 = .ok (.goto (-62), 3) := by decide +kernel
theorem dX3_breachUncuredDuties_69 : decode cX3_breachUncuredDuties 69 = .ok (.iload_n 1, 1) := by decide +kernel
theorem dX3_breachUncuredDuties_70 : decode cX3_breachUncuredDuties 70 = .ok (.ireturn, 1) := by decide +kernel
theorem dJ9_max_7cf53_0 : decode cJ9_max_7cf53 0 = .ok (.iload_n 0, 1) := by decide +kernel
theorem dJ9_max_7cf53_1 : decode cJ9_max_7cf53 1 = .ok (.iload_n 1, 1) := by decide +kernel
theorem dJ9_max_7cf53_2 : decode cJ9_max_7cf53 2 = .ok (.if_icmp .lt 7, 3) := by decide +kernel
theorem dJ9_max_7cf53_5 : decode cJ9_max_7cf53 5 = .ok (.iload_n 0, 1) := by decide +kernel
theorem dJ9_max_7cf53_6 : decode cJ9_max_7cf53 6 = .ok (.goto 4, 3) := by decide +kernel
theorem dJ9_max_7cf53_9 : decode cJ9_max_7cf53 9 = .ok (.iload_n 1, 1) := by decide +kernel
theorem dJ9_max_7cf53_10 : decode cJ9_max_7cf53 10 = .ok (.ireturn, 1) := by decide +kernel
theorem dJ9_min_7cf53_0 : decode cJ9_min_7cf53 0 = .ok (.iload_n 0, 1) := by decide +kernel
theorem dJ9_min_7cf53_1 : decode cJ9_min_7cf53 1 = .ok (.iload_n 1, 1) := by decide +kernel
theorem dJ9_min_7cf53_2 : decode cJ9_min_7cf53 2 = .ok (.if_icmp .gt 7, 3) := by decide +kernel
theorem dJ9_min_7cf53_5 : decode cJ9_min_7cf53 5 = .ok (.iload_n 0, 1) := by decide +kernel
theorem dJ9_min_7cf53_6 : decode cJ9_min_7cf53 6 = .ok (.goto 4, 3) := by decide +kernel
theorem dJ9_min_7cf53_9 : decode cJ9_min_7cf53 9 = .ok (.iload_n 1, 1) := by decide +kernel
theorem dJ9_min_7cf53_10 : decode cJ9_min_7cf53 10 = .ok (.ireturn, 1) := by decide +kernel
theorem dJxa1e45_init_da8c8_0 : decode cJxa1e45_init_da8c8 0 = .ok (.aload_n 0, 1) := by decide +kernel
theorem dJxa1e45_init_da8c8_1 : decode cJxa1e45_init_da8c8 1 = .ok (.invokespecial 1, 3) := by decide +kernel
theorem dJxa1e45_init_da8c8_4 : decode cJxa1e45_init_da8c8 4 = .ok (.return_, 1) := by decide +kernel
set_option maxRecDepth 20000 in
theorem ggJxc12de_init_da8c8_Jxa1e45_init_da8c8 : GoodIn wsJxc12de_init_da8c8 wsJxa1e45_init_da8c8 := goodIn_r _ [5, 6, 7, 8] (by decide +kernel) (by decide +kernel)
set_option maxRecDepth 20000 in
theorem gJxc12de_init_da8c8_Jxa1e45_init_da8c8 : GoodIn wsJxc12de_init_da8c8 (wsJxa1e45_init_da8c8) := ggJxc12de_init_da8c8_Jxa1e45_init_da8c8
theorem dJxc12de_init_da8c8_0 : decode cJxc12de_init_da8c8 0 = .ok (.aload_n 0, 1) := by decide +kernel
theorem dJxc12de_init_da8c8_1 : decode cJxc12de_init_da8c8 1 = .ok (.invokespecial 1, 3) := by decide +kernel
theorem dJxc12de_init_da8c8_4 : decode cJxc12de_init_da8c8 4 = .ok (.aload_n 0, 1) := by decide +kernel
theorem dJxc12de_init_da8c8_5 : decode cJxc12de_init_da8c8 5 = .ok (.iconst 0, 1) := by decide +kernel
theorem dJxc12de_init_da8c8_6 : decode cJxc12de_init_da8c8 6 = .ok (.putfield 7, 3) := by decide +kernel
theorem dJxc12de_init_da8c8_9 : decode cJxc12de_init_da8c8 9 = .ok (.return_, 1) := by decide +kernel
set_option maxRecDepth 20000 in
theorem ggJx4a65c_init_da8c8_Jxc12de_init_da8c8 : GoodIn wsJx4a65c_init_da8c8 wsJxc12de_init_da8c8 := goodIn_r _ [6, 7, 8, 9, 10, 11, 12, 13, 14, 15, 16, 17] (by decide +kernel) (by decide +kernel)
set_option maxRecDepth 20000 in
theorem gJx4a65c_init_da8c8_Jxc12de_init_da8c8 : GoodIn wsJx4a65c_init_da8c8 (wsJxc12de_init_da8c8) := ggJx4a65c_init_da8c8_Jxc12de_init_da8c8
theorem dJx4a65c_init_da8c8_0 : decode cJx4a65c_init_da8c8 0 = .ok (.aload_n 0, 1) := by decide +kernel
theorem dJx4a65c_init_da8c8_1 : decode cJx4a65c_init_da8c8 1 = .ok (.invokespecial 1, 3) := by decide +kernel
theorem dJx4a65c_init_da8c8_4 : decode cJx4a65c_init_da8c8 4 = .ok (.aload_n 0, 1) := by decide +kernel
theorem dJx4a65c_init_da8c8_5 : decode cJx4a65c_init_da8c8 5 = .ok (.getstatic 39, 3) := by decide +kernel
theorem dJx4a65c_init_da8c8_8 : decode cJx4a65c_init_da8c8 8 = .ok (.putfield 9, 3) := by decide +kernel
theorem dJx4a65c_init_da8c8_11 : decode cJx4a65c_init_da8c8 11 = .ok (.return_, 1) := by decide +kernel
set_option maxRecDepth 20000 in
theorem ggJx4a65c_grow_92f84_J8_newLength_cabcc : GoodIn wsJx4a65c_grow_92f84 wsJ8_newLength_cabcc := goodIn_r _ [11, 12, 4, 5, 6, 13, 14, 15, 10, 16] (by decide +kernel) (by decide +kernel)
set_option maxRecDepth 20000 in
theorem gJx4a65c_grow_92f84_J8_newLength_cabcc : GoodIn wsJx4a65c_grow_92f84 (va_wsS RJx4a65c 73 yJ8_newLength_cabcc wsJ8_newLength_cabcc) := goodIn_app (goodIn_of _ (by decide +kernel)) ggJx4a65c_grow_92f84_J8_newLength_cabcc
set_option maxRecDepth 20000 in
theorem ggJx4a65c_grow_92f84_J7_copyOf_1904c : GoodIn wsJx4a65c_grow_92f84 wsJ7_copyOf_1904c := goodIn_r _ [20, 21, 22, 23, 24, 25, 26, 19, 27, 28, 29, 30, 31, 5, 32, 33, 34, 35, 36] (by decide +kernel) (by decide +kernel)
set_option maxRecDepth 20000 in
theorem gJx4a65c_grow_92f84_J7_copyOf_1904c : GoodIn wsJx4a65c_grow_92f84 (va_wsS RJx4a65c 66 yJ7_copyOf_1904c wsJ7_copyOf_1904c) := goodIn_app (goodIn_of _ (by decide +kernel)) ggJx4a65c_grow_92f84_J7_copyOf_1904c
theorem dJx4a65c_grow_92f84_0 : decode cJx4a65c_grow_92f84 0 = .ok (.aload_n 0, 1) := by decide +kernel
theorem dJx4a65c_grow_92f84_1 : decode cJx4a65c_grow_92f84 1 = .ok (.getfield 9, 3) := by decide +kernel
theorem dJx4a65c_grow_92f84_4 : decode cJx4a65c_grow_92f84 4 = .ok (.arraylength, 1) := by decide +kernel
theorem dJx4a65c_grow_92f84_5 : decode cJx4a65c_grow_92f84 5 = .ok (.istore_n 2, 1) := by decide +kernel
theorem dJx4a65c_grow_92f84_6 : decode cJx4a65c_grow_92f84 6 = .ok (.iload_n 2, 1) := by decide +kernel
theorem dJx4a65c_grow_92f84_7 : decode cJx4a65c_grow_92f84 7 = .ok (.ifCond .gt 13, 3) := by decide +kernel
theorem dJx4a65c_grow_92f84_10 : decode cJx4a65c_grow_92f84 10 = .ok (.aload_n 0, 1) := by decide +kernel
theorem dJx4a65c_grow_92f84_11 : decode cJx4a65c_grow_92f84 11 = .ok (.getfield 9, 3) := by decide +kernel
theorem dJx4a65c_grow_92f84_14 : decode cJx4a65c_grow_92f84 14 = .ok (.getstatic 39, 3) := by decide +kernel
theorem dJx4a65c_grow_92f84_17 : decode cJx4a65c_grow_92f84 17 = .ok (.if_acmp .eq 28, 3) := by decide +kernel
theorem dJx4a65c_grow_92f84_20 : decode cJx4a65c_grow_92f84 20 = .ok (.iload_n 2, 1) := by decide +kernel
theorem dJx4a65c_grow_92f84_21 : decode cJx4a65c_grow_92f84 21 = .ok (.iload_n 1, 1) := by decide +kernel
theorem dJx4a65c_grow_92f84_22 : decode cJx4a65c_grow_92f84 22 = .ok (.iload_n 2, 1) := by decide +kernel
theorem dJx4a65c_grow_92f84_23 : decode cJx4a65c_grow_92f84 23 = .ok (.isub, 1) := by decide +kernel
theorem dJx4a65c_grow_92f84_24 : decode cJx4a65c_grow_92f84 24 = .ok (.iload_n 2, 1) := by decide +kernel
theorem dJx4a65c_grow_92f84_25 : decode cJx4a65c_grow_92f84 25 = .ok (.iconst 1, 1) := by decide +kernel
theorem dJx4a65c_grow_92f84_26 : decode cJx4a65c_grow_92f84 26 = .ok (.ishr, 1) := by decide +kernel
theorem dJx4a65c_grow_92f84_27 : decode cJx4a65c_grow_92f84 27 = .ok (.invokestatic 73, 3) := by decide +kernel
theorem dJx4a65c_grow_92f84_30 : decode cJx4a65c_grow_92f84 30 = .ok (.istore_n 3, 1) := by decide +kernel
theorem dJx4a65c_grow_92f84_31 : decode cJx4a65c_grow_92f84 31 = .ok (.aload_n 0, 1) := by decide +kernel
theorem dJx4a65c_grow_92f84_32 : decode cJx4a65c_grow_92f84 32 = .ok (.aload_n 0, 1) := by decide +kernel
theorem dJx4a65c_grow_92f84_33 : decode cJx4a65c_grow_92f84 33 = .ok (.getfield 9, 3) := by decide +kernel
theorem dJx4a65c_grow_92f84_36 : decode cJx4a65c_grow_92f84 36 = .ok (.iload_n 3, 1) := by decide +kernel
theorem dJx4a65c_grow_92f84_37 : decode cJx4a65c_grow_92f84 37 = .ok (.invokestatic 66, 3) := by decide +kernel
theorem dJx4a65c_grow_92f84_40 : decode cJx4a65c_grow_92f84 40 = .ok (.dup_x1, 1) := by decide +kernel
theorem dJx4a65c_grow_92f84_41 : decode cJx4a65c_grow_92f84 41 = .ok (.putfield 9, 3) := by decide +kernel
theorem dJx4a65c_grow_92f84_44 : decode cJx4a65c_grow_92f84 44 = .ok (.areturn, 1) := by decide +kernel
theorem dJx4a65c_grow_92f84_45 : decode cJx4a65c_grow_92f84 45 = .ok (.aload_n 0, 1) := by decide +kernel
theorem dJx4a65c_grow_92f84_46 : decode cJx4a65c_grow_92f84 46 = .ok (.bipush 10, 2) := by decide +kernel
theorem dJx4a65c_grow_92f84_48 : decode cJx4a65c_grow_92f84 48 = .ok (.iload_n 1, 1) := by decide +kernel
theorem dJx4a65c_grow_92f84_49 : decode cJx4a65c_grow_92f84 49 = .ok (.invokestatic 79, 3) := by decide +kernel
theorem dJx4a65c_grow_92f84_52 : decode cJx4a65c_grow_92f84 52 = .ok (.anewarray 7, 3) := by decide +kernel
theorem dJx4a65c_grow_92f84_55 : decode cJx4a65c_grow_92f84 55 = .ok (.dup_x1, 1) := by decide +kernel
theorem dJx4a65c_grow_92f84_56 : decode cJx4a65c_grow_92f84 56 = .ok (.putfield 9, 3) := by decide +kernel
theorem dJx4a65c_grow_92f84_59 : decode cJx4a65c_grow_92f84 59 = .ok (.areturn, 1) := by decide +kernel
set_option maxRecDepth 20000 in
theorem ggJx4a65c_grow_d5877_Jx4a65c_grow_92f84 : GoodIn wsJx4a65c_grow_d5877 wsJx4a65c_grow_92f84 := goodIn_r _ [6, 7, 8, 9, 10, 11, 12, 13, 14, 15, 16, 17, 18, 19, 20, 21, 22, 23, 24, 25, 26, 27, 28, 29, 30, 31, 32, 33, 34, 35, 36, 37, 38, 39, 40, 41, 42, 43, 44, 45] (by decide +kernel) (by decide +kernel)
set_option maxRecDepth 20000 in
theorem gJx4a65c_grow_d5877_Jx4a65c_grow_92f84 : GoodIn wsJx4a65c_grow_d5877 (wsV RJx4a65c 69 RJx4a65c yJx4a65c_grow_92f84 wsJx4a65c_grow_92f84) := goodIn_app (goodIn_of _ (by decide +kernel)) ggJx4a65c_grow_d5877_Jx4a65c_grow_92f84
theorem dJx4a65c_grow_d5877_0 : decode cJx4a65c_grow_d5877 0 = .ok (.aload_n 0, 1) := by decide +kernel
theorem dJx4a65c_grow_d5877_1 : decode cJx4a65c_grow_d5877 1 = .ok (.aload_n 0, 1) := by decide +kernel
theorem dJx4a65c_grow_d5877_2 : decode cJx4a65c_grow_d5877 2 = .ok (.getfield 48, 3) := by decide +kernel
theorem dJx4a65c_grow_d5877_5 : decode cJx4a65c_grow_d5877 5 = .ok (.iconst 1, 1) := by decide +kernel
theorem dJx4a65c_grow_d5877_6 : decode cJx4a65c_grow_d5877 6 = .ok (.iadd, 1) := by decide +kernel
theorem dJx4a65c_grow_d5877_7 : decode cJx4a65c_grow_d5877 7 = .ok (.invokevirtual 69, 3) := by decide +kernel
theorem dJx4a65c_grow_d5877_10 : decode cJx4a65c_grow_d5877 10 = .ok (.areturn, 1) := by decide +kernel
theorem dJx4a65c_size_8abf5_0 : decode cJx4a65c_size_8abf5 0 = .ok (.aload_n 0, 1) := by decide +kernel
theorem dJx4a65c_size_8abf5_1 : decode cJx4a65c_size_8abf5 1 = .ok (.getfield 48, 3) := by decide +kernel
theorem dJx4a65c_size_8abf5_4 : decode cJx4a65c_size_8abf5 4 = .ok (.ireturn, 1) := by decide +kernel
theorem dJx4a65c_elementData_915e3_0 : decode cJx4a65c_elementData_915e3 0 = .ok (.aload_n 0, 1) := by decide +kernel
theorem dJx4a65c_elementData_915e3_1 : decode cJx4a65c_elementData_915e3 1 = .ok (.getfield 9, 3) := by decide +kernel
theorem dJx4a65c_elementData_915e3_4 : decode cJx4a65c_elementData_915e3 4 = .ok (.iload_n 1, 1) := by decide +kernel
theorem dJx4a65c_elementData_915e3_5 : decode cJx4a65c_elementData_915e3 5 = .ok (.aaload, 1) := by decide +kernel
theorem dJx4a65c_elementData_915e3_6 : decode cJx4a65c_elementData_915e3 6 = .ok (.areturn, 1) := by decide +kernel
set_option maxRecDepth 20000 in
theorem ggJx4a65c_get_915e3_J15_checkIndex_7cf53 : GoodIn wsJx4a65c_get_915e3 wsJ15_checkIndex_7cf53 := goodIn_r _ [5, 6, 7, 8, 9] (by decide +kernel) (by decide +kernel)
set_option maxRecDepth 20000 in
theorem gJx4a65c_get_915e3_J15_checkIndex_7cf53 : GoodIn wsJx4a65c_get_915e3 (va_wsS RJx4a65c 118 yJ15_checkIndex_7cf53 wsJ15_checkIndex_7cf53) := goodIn_app (goodIn_of _ (by decide +kernel)) ggJx4a65c_get_915e3_J15_checkIndex_7cf53
set_option maxRecDepth 20000 in
theorem ggJx4a65c_get_915e3_Jx4a65c_elementData_915e3 : GoodIn wsJx4a65c_get_915e3 wsJx4a65c_elementData_915e3 := goodIn_r _ [14, 15, 16, 17, 18] (by decide +kernel) (by decide +kernel)
set_option maxRecDepth 20000 in
theorem gJx4a65c_get_915e3_Jx4a65c_elementData_915e3 : GoodIn wsJx4a65c_get_915e3 (wsV RJx4a65c 123 RJx4a65c yJx4a65c_elementData_915e3 wsJx4a65c_elementData_915e3) := goodIn_app (goodIn_of _ (by decide +kernel)) ggJx4a65c_get_915e3_Jx4a65c_elementData_915e3
theorem dJx4a65c_get_915e3_0 : decode cJx4a65c_get_915e3 0 = .ok (.iload_n 1, 1) := by decide +kernel
theorem dJx4a65c_get_915e3_1 : decode cJx4a65c_get_915e3 1 = .ok (.aload_n 0, 1) := by decide +kernel
theorem dJx4a65c_get_915e3_2 : decode cJx4a65c_get_915e3 2 = .ok (.getfield 48, 3) := by decide +kernel
theorem dJx4a65c_get_915e3_5 : decode cJx4a65c_get_915e3 5 = .ok (.invokestatic 118, 3) := by decide +kernel
theorem dJx4a65c_get_915e3_8 : decode cJx4a65c_get_915e3 8 = .ok (.pop, 1) := by decide +kernel
theorem dJx4a65c_get_915e3_9 : decode cJx4a65c_get_915e3 9 = .ok (.aload_n 0, 1) := by decide +kernel
theorem dJx4a65c_get_915e3_10 : decode cJx4a65c_get_915e3 10 = .ok (.iload_n 1, 1) := by decide +kernel
theorem dJx4a65c_get_915e3_11 : decode cJx4a65c_get_915e3 11 = .ok (.invokevirtual 123, 3) := by decide +kernel
theorem dJx4a65c_get_915e3_14 : decode cJx4a65c_get_915e3 14 = .ok (.areturn, 1) := by decide +kernel
set_option maxRecDepth 20000 in
theorem ggJx4a65c_add_72be8_Jx4a65c_grow_d5877 : GoodIn wsJx4a65c_add_72be8 wsJx4a65c_grow_d5877 := goodIn_r _ [6, 1, 7, 8, 9, 5, 10, 11, 12, 13, 14, 15, 16, 17, 18, 19, 20, 21, 22, 23, 24, 25, 26, 27, 28, 29, 30, 31, 32, 33, 34, 35, 36, 37, 38, 39, 40, 41, 42, 43, 44, 45, 46, 47, 48, 49] (by decide +kernel) (by decide +kernel)
set_option maxRecDepth 20000 in
theorem gJx4a65c_add_72be8_Jx4a65c_grow_d5877 : GoodIn wsJx4a65c_add_72be8 (wsV RJx4a65c 129 RJx4a65c yJx4a65c_grow_d5877 wsJx4a65c_grow_d5877) := goodIn_app (goodIn_of _ (by decide +kernel)) ggJx4a65c_add_72be8_Jx4a65c_grow_d5877
theorem dJx4a65c_add_72be8_0 : decode cJx4a65c_add_72be8 0 = .ok (.iload_n 3, 1) := by decide +kernel
theorem dJx4a65c_add_72be8_1 : decode cJx4a65c_add_72be8 1 = .ok (.aload_n 2, 1) := by decide +kernel
theorem dJx4a65c_add_72be8_2 : decode cJx4a65c_add_72be8 2 = .ok (.arraylength, 1) := by decide +kernel
theorem dJx4a65c_add_72be8_3 : decode cJx4a65c_add_72be8 3 = .ok (.if_icmp .ne 8, 3) := by decide +kernel
theorem dJx4a65c_add_72be8_6 : decode cJx4a65c_add_72be8 6 = .ok (.aload_n 0, 1) := by decide +kernel
theorem dJx4a65c_add_72be8_7 : decode cJx4a65c_add_72be8 7 = .ok (.invokevirtual 129, 3) := by decide +kernel
theorem dJx4a65c_add_72be8_10 : decode cJx4a65c_add_72be8 10 = .ok (.astore_n 2, 1) := by decide +kernel
theorem dJx4a65c_add_72be8_11 : decode cJx4a65c_add_72be8 11 = .ok (.aload_n 2, 1) := by decide +kernel
theorem dJx4a65c_add_72be8_12 : decode cJx4a65c_add_72be8 12 = .ok (.iload_n 3, 1) := by decide +kernel
theorem dJx4a65c_add_72be8_13 : decode cJx4a65c_add_72be8 13 = .ok (.aload_n 1, 1) := by decide +kernel
theorem dJx4a65c_add_72be8_14 : decode cJx4a65c_add_72be8 14 = .ok (.aastore, 1) := by decide +kernel
theorem dJx4a65c_add_72be8_15 : decode cJx4a65c_add_72be8 15 = .ok (.aload_n 0, 1) := by decide +kernel
theorem dJx4a65c_add_72be8_16 : decode cJx4a65c_add_72be8 16 = .ok (.iload_n 3, 1) := by decide +kernel
theorem dJx4a65c_add_72be8_17 : decode cJx4a65c_add_72be8 17 = .ok (.iconst 1, 1) := by decide +kernel
theorem dJx4a65c_add_72be8_18 : decode cJx4a65c_add_72be8 18 = .ok (.iadd, 1) := by decide +kernel
theorem dJx4a65c_add_72be8_19 : decode cJx4a65c_add_72be8 19 = .ok (.putfield 48, 3) := by decide +kernel
theorem dJx4a65c_add_72be8_22 : decode cJx4a65c_add_72be8 22 = .ok (.return_, 1) := by decide +kernel
set_option maxRecDepth 20000 in
theorem ggJx4a65c_add_9ea2d_Jx4a65c_add_72be8 : GoodIn wsJx4a65c_add_9ea2d wsJx4a65c_add_72be8 := goodIn_r _ [9, 4, 10, 11, 12, 8, 13, 14, 15, 16, 17, 3, 18, 19, 20, 21, 22, 23, 24, 25, 26, 27, 28, 29, 30, 31, 32, 33, 34, 35, 36, 37, 38, 39, 40, 41, 42, 43, 44, 45, 46, 47, 48, 49, 50, 51, 52, 53, 54, 55] (by decide +kernel) (by decide +kernel)
set_option maxRecDepth 20000 in
theorem gJx4a65c_add_9ea2d_Jx4a65c_add_72be8 : GoodIn wsJx4a65c_add_9ea2d (wsV RJx4a65c 131 RJx4a65c yJx4a65c_add_72be8 wsJx4a65c_add_72be8) := goodIn_app (goodIn_of _ (by decide +kernel)) ggJx4a65c_add_9ea2d_Jx4a65c_add_72be8
theorem dJx4a65c_add_9ea2d_0 : decode cJx4a65c_add_9ea2d 0 = .ok (.aload_n 0, 1) := by decide +kernel
theorem dJx4a65c_add_9ea2d_1 : decode cJx4a65c_add_9ea2d 1 = .ok (.dup, 1) := by decide +kernel
theorem dJx4a65c_add_9ea2d_2 : decode cJx4a65c_add_9ea2d 2 = .ok (.getfield 63, 3) := by decide +kernel
theorem dJx4a65c_add_9ea2d_5 : decode cJx4a65c_add_9ea2d 5 = .ok (.iconst 1, 1) := by decide +kernel
theorem dJx4a65c_add_9ea2d_6 : decode cJx4a65c_add_9ea2d 6 = .ok (.iadd, 1) := by decide +kernel
theorem dJx4a65c_add_9ea2d_7 : decode cJx4a65c_add_9ea2d 7 = .ok (.putfield 63, 3) := by decide +kernel
theorem dJx4a65c_add_9ea2d_10 : decode cJx4a65c_add_9ea2d 10 = .ok (.aload_n 0, 1) := by decide +kernel
theorem dJx4a65c_add_9ea2d_11 : decode cJx4a65c_add_9ea2d 11 = .ok (.aload_n 1, 1) := by decide +kernel
theorem dJx4a65c_add_9ea2d_12 : decode cJx4a65c_add_9ea2d 12 = .ok (.aload_n 0, 1) := by decide +kernel
theorem dJx4a65c_add_9ea2d_13 : decode cJx4a65c_add_9ea2d 13 = .ok (.getfield 9, 3) := by decide +kernel
theorem dJx4a65c_add_9ea2d_16 : decode cJx4a65c_add_9ea2d 16 = .ok (.aload_n 0, 1) := by decide +kernel
theorem dJx4a65c_add_9ea2d_17 : decode cJx4a65c_add_9ea2d 17 = .ok (.getfield 48, 3) := by decide +kernel
theorem dJx4a65c_add_9ea2d_20 : decode cJx4a65c_add_9ea2d 20 = .ok (.invokevirtual 131, 3) := by decide +kernel
theorem dJx4a65c_add_9ea2d_23 : decode cJx4a65c_add_9ea2d 23 = .ok (.iconst 1, 1) := by decide +kernel
theorem dJx4a65c_add_9ea2d_24 : decode cJx4a65c_add_9ea2d 24 = .ok (.ireturn, 1) := by decide +kernel
set_option maxRecDepth 20000 in
theorem ggJ7_copyOf_1904c_J7_copyOf_6403c : GoodIn wsJ7_copyOf_1904c wsJ7_copyOf_6403c := goodIn_r _ [8, 9, 10, 11, 12, 13, 14, 15, 16, 17, 18] (by decide +kernel) (by decide +kernel)
set_option maxRecDepth 20000 in
theorem gJ7_copyOf_1904c_J7_copyOf_6403c : GoodIn wsJ7_copyOf_1904c (va_wsS RJ7 300 yJ7_copyOf_6403c wsJ7_copyOf_6403c) := goodIn_app (goodIn_of _ (by decide +kernel)) ggJ7_copyOf_1904c_J7_copyOf_6403c
theorem dJ7_copyOf_1904c_0 : decode cJ7_copyOf_1904c 0 = .ok (.aload_n 0, 1) := by decide +kernel
theorem dJ7_copyOf_1904c_1 : decode cJ7_copyOf_1904c 1 = .ok (.iload_n 1, 1) := by decide +kernel
theorem dJ7_copyOf_1904c_2 : decode cJ7_copyOf_1904c 2 = .ok (.aload_n 0, 1) := by decide +kernel
theorem dJ7_copyOf_1904c_3 : decode cJ7_copyOf_1904c 3 = .ok (.invokevirtual 86, 3) := by decide +kernel
theorem dJ7_copyOf_1904c_6 : decode cJ7_copyOf_1904c 6 = .ok (.invokestatic 300, 3) := by decide +kernel
theorem dJ7_copyOf_1904c_9 : decode cJ7_copyOf_1904c 9 = .ok (.areturn, 1) := by decide +kernel
theorem dJ7_copyOf_6403c_0 : decode cJ7_copyOf_6403c 0 = .ok (.aload_n 2, 1) := by decide +kernel
theorem dJ7_copyOf_6403c_1 : decode cJ7_copyOf_6403c 1 = .ok (.ldc 110, 2) := by decide +kernel
theorem dJ7_copyOf_6403c_3 : decode cJ7_copyOf_6403c 3 = .ok (.if_acmp .ne 10, 3) := by decide +kernel
theorem dJ7_copyOf_6403c_6 : decode cJ7_copyOf_6403c 6 = .ok (.iload_n 1, 1) := by decide +kernel
theorem dJ7_copyOf_6403c_7 : decode cJ7_copyOf_6403c 7 = .ok (.anewarray 2, 3) := by decide +kernel
theorem dJ7_copyOf_6403c_10 : decode cJ7_copyOf_6403c 10 = .ok (.goto 14, 3) := by decide +kernel
theorem dJ7_copyOf_6403c_13 : decode cJ7_copyOf_6403c 13 = .ok (.aload_n 2, 1) := by decide +kernel
theorem dJ7_copyOf_6403c_14 : decode cJ7_copyOf_6403c 14 = .ok (.invokevirtual 90, 3) := by decide +kernel
theorem dJ7_copyOf_6403c_17 : decode cJ7_copyOf_6403c 17 = .ok (.iload_n 1, 1) := by decide +kernel
theorem dJ7_copyOf_6403c_18 : decode cJ7_copyOf_6403c 18 = .ok (.invokestatic 95, 3) := by decide +kernel
theorem dJ7_copyOf_6403c_21 : decode cJ7_copyOf_6403c 21 = .ok (.checkcast 110, 3) := by decide +kernel
theorem dJ7_copyOf_6403c_24 : decode cJ7_copyOf_6403c 24 = .ok (.astore_n 3, 1) := by decide +kernel
theorem dJ7_copyOf_6403c_25 : decode cJ7_copyOf_6403c 25 = .ok (.aload_n 0, 1) := by decide +kernel
theorem dJ7_copyOf_6403c_26 : decode cJ7_copyOf_6403c 26 = .ok (.iconst 0, 1) := by decide +kernel
theorem dJ7_copyOf_6403c_27 : decode cJ7_copyOf_6403c 27 = .ok (.aload_n 3, 1) := by decide +kernel
theorem dJ7_copyOf_6403c_28 : decode cJ7_copyOf_6403c 28 = .ok (.iconst 0, 1) := by decide +kernel
theorem dJ7_copyOf_6403c_29 : decode cJ7_copyOf_6403c 29 = .ok (.aload_n 0, 1) := by decide +kernel
theorem dJ7_copyOf_6403c_30 : decode cJ7_copyOf_6403c 30 = .ok (.arraylength, 1) := by decide +kernel
theorem dJ7_copyOf_6403c_31 : decode cJ7_copyOf_6403c 31 = .ok (.iload_n 1, 1) := by decide +kernel
theorem dJ7_copyOf_6403c_32 : decode cJ7_copyOf_6403c 32 = .ok (.invokestatic 304, 3) := by decide +kernel
theorem dJ7_copyOf_6403c_35 : decode cJ7_copyOf_6403c 35 = .ok (.invokestatic 150, 3) := by decide +kernel
theorem dJ7_copyOf_6403c_38 : decode cJ7_copyOf_6403c 38 = .ok (.aload_n 3, 1) := by decide +kernel
theorem dJ7_copyOf_6403c_39 : decode cJ7_copyOf_6403c 39 = .ok (.areturn, 1) := by decide +kernel
set_option maxRecDepth 20000 in
theorem ggJ15_checkIndex_7cf53_J3_checkIndex_8e157 : GoodIn wsJ15_checkIndex_7cf53 wsJ3_checkIndex_8e157 := goodIn_r _ [4] (by decide +kernel) (by decide +kernel)
set_option maxRecDepth 20000 in
theorem gJ15_checkIndex_7cf53_J3_checkIndex_8e157 : GoodIn wsJ15_checkIndex_7cf53 (va_wsS RJ15 105 yJ3_checkIndex_8e157 wsJ3_checkIndex_8e157) := goodIn_app (goodIn_of _ (by decide +kernel)) ggJ15_checkIndex_7cf53_J3_checkIndex_8e157
theorem dJ15_checkIndex_7cf53_0 : decode cJ15_checkIndex_7cf53 0 = .ok (.iload_n 0, 1) := by decide +kernel
theorem dJ15_checkIndex_7cf53_1 : decode cJ15_checkIndex_7cf53 1 = .ok (.iload_n 1, 1) := by decide +kernel
theorem dJ15_checkIndex_7cf53_2 : decode cJ15_checkIndex_7cf53 2 = .ok (.aconst_null, 1) := by decide +kernel
theorem dJ15_checkIndex_7cf53_3 : decode cJ15_checkIndex_7cf53 3 = .ok (.invokestatic 105, 3) := by decide +kernel
theorem dJ15_checkIndex_7cf53_6 : decode cJ15_checkIndex_7cf53 6 = .ok (.ireturn, 1) := by decide +kernel
set_option maxRecDepth 20000 in
theorem ggJ8_newLength_cabcc_J8_hugeLength_7cf53 : GoodIn wsJ8_newLength_cabcc wsJ8_hugeLength_7cf53 := goodIn_r _ [9, 5] (by decide +kernel) (by decide +kernel)
set_option maxRecDepth 20000 in
theorem gJ8_newLength_cabcc_J8_hugeLength_7cf53 : GoodIn wsJ8_newLength_cabcc (va_wsS RJ8 201 yJ8_hugeLength_7cf53 wsJ8_hugeLength_7cf53) := goodIn_app (goodIn_of _ (by decide +kernel)) ggJ8_newLength_cabcc_J8_hugeLength_7cf53
theorem dJ8_newLength_cabcc_0 : decode cJ8_newLength_cabcc 0 = .ok (.iload_n 0, 1) := by decide +kernel
theorem dJ8_newLength_cabcc_1 : decode cJ8_newLength_cabcc 1 = .ok (.iload_n 1, 1) := by decide +kernel
theorem dJ8_newLength_cabcc_2 : decode cJ8_newLength_cabcc 2 = .ok (.iload_n 2, 1) := by decide +kernel
theorem dJ8_newLength_cabcc_3 : decode cJ8_newLength_cabcc 3 = .ok (.invokestatic 194, 3) := by decide +kernel
theorem dJ8_newLength_cabcc_6 : decode cJ8_newLength_cabcc 6 = .ok (.iadd, 1) := by decide +kernel
theorem dJ8_newLength_cabcc_7 : decode cJ8_newLength_cabcc 7 = .ok (.istore_n 3, 1) := by decide +kernel
theorem dJ8_newLength_cabcc_8 : decode cJ8_newLength_cabcc 8 = .ok (.iconst 0, 1) := by decide +kernel
theorem dJ8_newLength_cabcc_9 : decode cJ8_newLength_cabcc 9 = .ok (.iload_n 3, 1) := by decide +kernel
theorem dJ8_newLength_cabcc_10 : decode cJ8_newLength_cabcc 10 = .ok (.if_icmp .ge 11, 3) := by decide +kernel
theorem dJ8_newLength_cabcc_13 : decode cJ8_newLength_cabcc 13 = .ok (.iload_n 3, 1) := by decide +kernel
theorem dJ8_newLength_cabcc_14 : decode cJ8_newLength_cabcc 14 = .ok (.ldc 200, 2) := by decide +kernel
theorem dJ8_newLength_cabcc_16 : decode cJ8_newLength_cabcc 16 = .ok (.if_icmp .gt 5, 3) := by decide +kernel
theorem dJ8_newLength_cabcc_19 : decode cJ8_newLength_cabcc 19 = .ok (.iload_n 3, 1) := by decide +kernel
theorem dJ8_newLength_cabcc_20 : decode cJ8_newLength_cabcc 20 = .ok (.ireturn, 1) := by decide +kernel
theorem dJ8_newLength_cabcc_21 : decode cJ8_newLength_cabcc 21 = .ok (.iload_n 0, 1) := by decide +kernel
theorem dJ8_newLength_cabcc_22 : decode cJ8_newLength_cabcc 22 = .ok (.iload_n 1, 1) := by decide +kernel
theorem dJ8_newLength_cabcc_23 : decode cJ8_newLength_cabcc 23 = .ok (.invokestatic 201, 3) := by decide +kernel
theorem dJ8_newLength_cabcc_26 : decode cJ8_newLength_cabcc 26 = .ok (.ireturn, 1) := by decide +kernel
theorem dJ8_hugeLength_7cf53_0 : decode cJ8_hugeLength_7cf53 0 = .ok (.iload_n 0, 1) := by decide +kernel
theorem dJ8_hugeLength_7cf53_1 : decode cJ8_hugeLength_7cf53 1 = .ok (.iload_n 1, 1) := by decide +kernel
theorem dJ8_hugeLength_7cf53_2 : decode cJ8_hugeLength_7cf53 2 = .ok (.iadd, 1) := by decide +kernel
theorem dJ8_hugeLength_7cf53_3 : decode cJ8_hugeLength_7cf53 3 = .ok (.istore_n 2, 1) := by decide +kernel
theorem dJ8_hugeLength_7cf53_4 : decode cJ8_hugeLength_7cf53 4 = .ok (.iload_n 2, 1) := by decide +kernel
theorem dJ8_hugeLength_7cf53_5 : decode cJ8_hugeLength_7cf53 5 = .ok (.ifCond .ge 44, 3) := by decide +kernel
theorem dJ8_hugeLength_7cf53_8 : decode cJ8_hugeLength_7cf53 8 = .ok (.new 204, 3) := by decide +kernel
theorem dJ8_hugeLength_7cf53_11 : decode cJ8_hugeLength_7cf53 11 = .ok (.dup, 1) := by decide +kernel
theorem dJ8_hugeLength_7cf53_12 : decode cJ8_hugeLength_7cf53 12 = .ok (.new 89, 3) := by decide +kernel
theorem dJ8_hugeLength_7cf53_15 : decode cJ8_hugeLength_7cf53 15 = .ok (.dup, 1) := by decide +kernel
theorem dJ8_hugeLength_7cf53_16 : decode cJ8_hugeLength_7cf53 16 = .ok (.invokespecial 91, 3) := by decide +kernel
theorem dJ8_hugeLength_7cf53_19 : decode cJ8_hugeLength_7cf53 19 = .ok (.ldc 206, 2) := by decide +kernel
theorem dJ8_hugeLength_7cf53_21 : decode cJ8_hugeLength_7cf53 21 = .ok (.invokevirtual 94, 3) := by decide +kernel
theorem dJ8_hugeLength_7cf53_24 : decode cJ8_hugeLength_7cf53 24 = .ok (.iload_n 0, 1) := by decide +kernel
theorem dJ8_hugeLength_7cf53_25 : decode cJ8_hugeLength_7cf53 25 = .ok (.invokevirtual 98, 3) := by decide +kernel
theorem dJ8_hugeLength_7cf53_28 : decode cJ8_hugeLength_7cf53 28 = .ok (.ldc 208, 2) := by decide +kernel
theorem dJ8_hugeLength_7cf53_30 : decode cJ8_hugeLength_7cf53 30 = .ok (.invokevirtual 94, 3) := by decide +kernel
theorem dJ8_hugeLength_7cf53_33 : decode cJ8_hugeLength_7cf53 33 = .ok (.iload_n 1, 1) := by decide +kernel
theorem dJ8_hugeLength_7cf53_34 : decode cJ8_hugeLength_7cf53 34 = .ok (.invokevirtual 98, 3) := by decide +kernel
theorem dJ8_hugeLength_7cf53_37 : decode cJ8_hugeLength_7cf53 37 = .ok (.ldc 210, 2) := by decide +kernel
theorem dJ8_hugeLength_7cf53_39 : decode cJ8_hugeLength_7cf53 39 = .ok (.invokevirtual 94, 3) := by decide +kernel
theorem dJ8_hugeLength_7cf53_42 : decode cJ8_hugeLength_7cf53 42 = .ok (.invokevirtual 101, 3) := by decide +kernel
theorem dJ8_hugeLength_7cf53_45 : decode cJ8_hugeLength_7cf53 45 = .ok (.invokespecial 212, 3) := by decide +kernel
theorem dJ8_hugeLength_7cf53_48 : decode cJ8_hugeLength_7cf53 48 = .ok (.athrow, 1) := by decide +kernel
theorem dJ8_hugeLength_7cf53_49 : decode cJ8_hugeLength_7cf53 49 = .ok (.iload_n 2, 1) := by decide +kernel
theorem dJ8_hugeLength_7cf53_50 : decode cJ8_hugeLength_7cf53 50 = .ok (.ldc 200, 2) := by decide +kernel
theorem dJ8_hugeLength_7cf53_52 : decode cJ8_hugeLength_7cf53 52 = .ok (.if_icmp .gt 6, 3) := by decide +kernel
theorem dJ8_hugeLength_7cf53_55 : decode cJ8_hugeLength_7cf53 55 = .ok (.ldc 200, 2) := by decide +kernel
theorem dJ8_hugeLength_7cf53_57 : decode cJ8_hugeLength_7cf53 57 = .ok (.ireturn, 1) := by decide +kernel
theorem dJ8_hugeLength_7cf53_58 : decode cJ8_hugeLength_7cf53 58 = .ok (.iload_n 2, 1) := by decide +kernel
theorem dJ8_hugeLength_7cf53_59 : decode cJ8_hugeLength_7cf53 59 = .ok (.ireturn, 1) := by decide +kernel
theorem dJ3_checkIndex_8e157_0 : decode cJ3_checkIndex_8e157 0 = .ok (.iload_n 0, 1) := by decide +kernel
theorem dJ3_checkIndex_8e157_1 : decode cJ3_checkIndex_8e157 1 = .ok (.ifCond .lt 8, 3) := by decide +kernel
theorem dJ3_checkIndex_8e157_4 : decode cJ3_checkIndex_8e157 4 = .ok (.iload_n 0, 1) := by decide +kernel
theorem dJ3_checkIndex_8e157_5 : decode cJ3_checkIndex_8e157 5 = .ok (.iload_n 1, 1) := by decide +kernel
theorem dJ3_checkIndex_8e157_6 : decode cJ3_checkIndex_8e157 6 = .ok (.if_icmp .lt 10, 3) := by decide +kernel
theorem dJ3_checkIndex_8e157_9 : decode cJ3_checkIndex_8e157 9 = .ok (.aload_n 2, 1) := by decide +kernel
theorem dJ3_checkIndex_8e157_10 : decode cJ3_checkIndex_8e157 10 = .ok (.iload_n 0, 1) := by decide +kernel
theorem dJ3_checkIndex_8e157_11 : decode cJ3_checkIndex_8e157 11 = .ok (.iload_n 1, 1) := by decide +kernel
theorem dJ3_checkIndex_8e157_12 : decode cJ3_checkIndex_8e157 12 = .ok (.invokestatic 95, 3) := by decide +kernel
theorem dJ3_checkIndex_8e157_15 : decode cJ3_checkIndex_8e157 15 = .ok (.athrow, 1) := by decide +kernel
theorem dJ3_checkIndex_8e157_16 : decode cJ3_checkIndex_8e157 16 = .ok (.iload_n 0, 1) := by decide +kernel
theorem dJ3_checkIndex_8e157_17 : decode cJ3_checkIndex_8e157 17 = .ok (.ireturn, 1) := by decide +kernel
theorem dL_cell_0 : decode cL_cell 0 = .ok (.iload_n 1, 1) := by decide +kernel
theorem dL_cell_1 : decode cL_cell 1 = .ok (.aload_n 0, 1) := by decide +kernel
theorem dL_cell_2 : decode cL_cell 2 = .ok (.arraylength, 1) := by decide +kernel
theorem dL_cell_3 : decode cL_cell 3 = .ok (.if_icmp .ge 9, 3) := by decide +kernel
theorem dL_cell_6 : decode cL_cell 6 = .ok (.aload_n 0, 1) := by decide +kernel
theorem dL_cell_7 : decode cL_cell 7 = .ok (.iload_n 1, 1) := by decide +kernel
theorem dL_cell_8 : decode cL_cell 8 = .ok (.iaload, 1) := by decide +kernel
theorem dL_cell_9 : decode cL_cell 9 = .ok (.goto 10, 3) := by decide +kernel
theorem dL_cell_12 : decode cL_cell 12 = .ok (.ldc 7, 2) := by decide +kernel
theorem dL_cell_14 : decode cL_cell 14 = .ok (.iload_n 1, 1) := by decide +kernel
theorem dL_cell_15 : decode cL_cell 15 = .ok (.bipush 6, 2) := by decide +kernel
theorem dL_cell_17 : decode cL_cell 17 = .ok (.iadd, 1) := by decide +kernel
theorem dL_cell_18 : decode cL_cell 18 = .ok (.imul, 1) := by decide +kernel
theorem dL_cell_19 : decode cL_cell 19 = .ok (.ireturn, 1) := by decide +kernel
theorem dL_low_0 : decode cL_low 0 = .ok (.iload_n 0, 1) := by decide +kernel
theorem dL_low_1 : decode cL_low 1 = .ok (.iconst 1, 1) := by decide +kernel
theorem dL_low_2 : decode cL_low 2 = .ok (.iushr, 1) := by decide +kernel
theorem dL_low_3 : decode cL_low 3 = .ok (.iload_n 1, 1) := by decide +kernel
theorem dL_low_4 : decode cL_low 4 = .ok (.irem, 1) := by decide +kernel
theorem dL_low_5 : decode cL_low 5 = .ok (.ireturn, 1) := by decide +kernel
set_option maxRecDepth 20000 in
theorem ggL_issue_X3_issue : GoodIn wsL_issue wsX3_issue := goodIn_ca (goodIn_ca (goodIn_r _ [7, 8, 9, 10, 11, 12, 13, 14, 15, 16, 17, 6, 18, 19, 20, 21, 22, 23, 24, 25, 26, 27, 28, 29, 30, 31, 32, 33, 34, 35, 36, 37, 38, 39, 40, 41, 42, 43, 44, 45, 46, 47, 48, 49, 50, 51, 52, 53, 54] (by decide +kernel) (by decide +kernel)) (goodIn_sub (fun _ h => List.mem_cons_of_mem _ (List.mem_append_left _ (List.mem_append_right _ h))) (by decide +kernel))) (goodIn_sub (fun _ h => List.mem_cons_of_mem _ (List.mem_append_right _ h)) (by decide +kernel))
set_option maxRecDepth 20000 in
theorem gL_issue_X3_issue : GoodIn wsL_issue (wsV RL 8 RX3 yX3_issue wsX3_issue) := goodIn_app (goodIn_of _ (by decide +kernel)) ggL_issue_X3_issue
theorem dL_issue_0 : decode cL_issue 0 = .ok (.aload_n 0, 1) := by decide +kernel
theorem dL_issue_1 : decode cL_issue 1 = .ok (.iload_n 1, 1) := by decide +kernel
theorem dL_issue_2 : decode cL_issue 2 = .ok (.iload_n 2, 1) := by decide +kernel
theorem dL_issue_3 : decode cL_issue 3 = .ok (.iload_n 3, 1) := by decide +kernel
theorem dL_issue_4 : decode cL_issue 4 = .ok (.iload 4, 2) := by decide +kernel
theorem dL_issue_6 : decode cL_issue 6 = .ok (.iload 5, 2) := by decide +kernel
theorem dL_issue_8 : decode cL_issue 8 = .ok (.invokevirtual 8, 3) := by decide +kernel
theorem dL_issue_11 : decode cL_issue 11 = .ok (.istore 6, 2) := by decide +kernel
theorem dL_issue_13 : decode cL_issue 13 = .ok (.goto 13, 3) := by decide +kernel
theorem dL_issue_16 : decode cL_issue 16 = .ok (.astore 7, 2) := by decide +kernel
theorem dL_issue_18 : decode cL_issue 18 = .ok (.bipush (-72), 2) := by decide +kernel
theorem dL_issue_20 : decode cL_issue 20 = .ok (.ireturn, 1) := by decide +kernel
theorem dL_issue_21 : decode cL_issue 21 = .ok (.astore 7, 2) := by decide +kernel
theorem dL_issue_23 : decode cL_issue 23 = .ok (.bipush (-73), 2) := by decide +kernel
theorem dL_issue_25 : decode cL_issue 25 = .ok (.ireturn, 1) := by decide +kernel
theorem dL_issue_26 : decode cL_issue 26 = .ok (.iload 6, 2) := by decide +kernel
theorem dL_issue_28 : decode cL_issue 28 = .ok (.ireturn, 1) := by decide +kernel
set_option maxRecDepth 20000 in
theorem ggL_relate_X3_relate : GoodIn wsL_relate wsX3_relate := goodIn_ca (goodIn_r _ [6, 7, 8, 9, 10, 5, 11, 12, 13, 14, 15, 16, 17, 18, 19, 20, 21, 22, 23, 24, 25] (by decide +kernel) (by decide +kernel)) (goodIn_sub (fun _ h => List.mem_cons_of_mem _ (List.mem_append_right _ h)) (by decide +kernel))
set_option maxRecDepth 20000 in
theorem gL_relate_X3_relate : GoodIn wsL_relate (wsV RL 18 RX3 yX3_relate wsX3_relate) := goodIn_app (goodIn_of _ (by decide +kernel)) ggL_relate_X3_relate
theorem dL_relate_0 : decode cL_relate 0 = .ok (.aload_n 0, 1) := by decide +kernel
theorem dL_relate_1 : decode cL_relate 1 = .ok (.iload_n 1, 1) := by decide +kernel
theorem dL_relate_2 : decode cL_relate 2 = .ok (.iload_n 2, 1) := by decide +kernel
theorem dL_relate_3 : decode cL_relate 3 = .ok (.iload_n 3, 1) := by decide +kernel
theorem dL_relate_4 : decode cL_relate 4 = .ok (.invokevirtual 18, 3) := by decide +kernel
theorem dL_relate_7 : decode cL_relate 7 = .ok (.goto 8, 3) := by decide +kernel
theorem dL_relate_10 : decode cL_relate 10 = .ok (.astore 4, 2) := by decide +kernel
theorem dL_relate_12 : decode cL_relate 12 = .ok (.bipush (-72), 2) := by decide +kernel
theorem dL_relate_14 : decode cL_relate 14 = .ok (.ireturn, 1) := by decide +kernel
theorem dL_relate_15 : decode cL_relate 15 = .ok (.iconst 0, 1) := by decide +kernel
theorem dL_relate_16 : decode cL_relate 16 = .ok (.ireturn, 1) := by decide +kernel
set_option maxRecDepth 20000 in
theorem ggL_latest_X3_latest : GoodIn wsL_latest wsX3_latest := goodIn_ca (goodIn_r _ [6, 7, 8, 5, 9, 10, 11, 12, 13, 14, 15, 16, 17, 18, 19, 20, 21, 22, 23, 24, 25, 26, 27, 28, 29, 30, 31, 32, 33, 34] (by decide +kernel) (by decide +kernel)) (goodIn_sub (fun _ h => List.mem_cons_of_mem _ (List.mem_append_right _ h)) (by decide +kernel))
set_option maxRecDepth 20000 in
theorem gL_latest_X3_latest : GoodIn wsL_latest (wsV RL 22 RX3 yX3_latest wsX3_latest) := goodIn_app (goodIn_of _ (by decide +kernel)) ggL_latest_X3_latest
theorem dL_latest_0 : decode cL_latest 0 = .ok (.aload_n 0, 1) := by decide +kernel
theorem dL_latest_1 : decode cL_latest 1 = .ok (.iload_n 1, 1) := by decide +kernel
theorem dL_latest_2 : decode cL_latest 2 = .ok (.invokevirtual 22, 3) := by decide +kernel
theorem dL_latest_5 : decode cL_latest 5 = .ok (.istore_n 2, 1) := by decide +kernel
theorem dL_latest_6 : decode cL_latest 6 = .ok (.goto 7, 3) := by decide +kernel
theorem dL_latest_9 : decode cL_latest 9 = .ok (.astore_n 3, 1) := by decide +kernel
theorem dL_latest_10 : decode cL_latest 10 = .ok (.bipush (-72), 2) := by decide +kernel
theorem dL_latest_12 : decode cL_latest 12 = .ok (.ireturn, 1) := by decide +kernel
theorem dL_latest_13 : decode cL_latest 13 = .ok (.iload_n 2, 1) := by decide +kernel
theorem dL_latest_14 : decode cL_latest 14 = .ok (.ireturn, 1) := by decide +kernel
set_option maxRecDepth 20000 in
theorem ggL_begin_X3_begin : GoodIn wsL_begin wsX3_begin := goodIn_ca (goodIn_r _ [6, 7, 8, 9, 10, 11, 12, 13, 14, 15, 16, 17, 18, 19, 20, 21, 22, 23, 24, 25, 26, 27, 28, 29, 30, 31, 32, 33, 34, 35, 36, 37, 38, 39, 40, 41, 42, 43, 44, 45, 46, 47, 48, 49, 50, 51, 52, 53, 54, 55, 56, 57, 58, 59, 60, 61, 62, 63, 64, 65, 66, 67, 68, 69, 70, 71, 72, 73, 74, 75, 76, 77, 78, 79, 80, 81, 82, 83, 84, 85, 86, 87, 88, 89, 90, 91, 92, 93, 94, 95, 96, 97, 98, 99, 100] (by decide +kernel) (by decide +kernel)) (goodIn_sub (fun _ h => List.mem_cons_of_mem _ (List.mem_append_right _ h)) (by decide +kernel))
set_option maxRecDepth 20000 in
theorem gL_begin_X3_begin : GoodIn wsL_begin (wsV RL 26 RX3 yX3_begin wsX3_begin) := goodIn_app (goodIn_of _ (by decide +kernel)) ggL_begin_X3_begin
theorem dL_begin_0 : decode cL_begin 0 = .ok (.aload_n 0, 1) := by decide +kernel
theorem dL_begin_1 : decode cL_begin 1 = .ok (.invokevirtual 26, 3) := by decide +kernel
theorem dL_begin_4 : decode cL_begin 4 = .ok (.istore_n 1, 1) := by decide +kernel
theorem dL_begin_5 : decode cL_begin 5 = .ok (.goto 7, 3) := by decide +kernel
theorem dL_begin_8 : decode cL_begin 8 = .ok (.astore_n 2, 1) := by decide +kernel
theorem dL_begin_9 : decode cL_begin 9 = .ok (.bipush (-73), 2) := by decide +kernel
theorem dL_begin_11 : decode cL_begin 11 = .ok (.ireturn, 1) := by decide +kernel
theorem dL_begin_12 : decode cL_begin 12 = .ok (.iload_n 1, 1) := by decide +kernel
theorem dL_begin_13 : decode cL_begin 13 = .ok (.ireturn, 1) := by decide +kernel
set_option maxRecDepth 20000 in
theorem ggL_mark_X3_mark : GoodIn wsL_mark wsX3_mark := goodIn_ca (goodIn_ca (goodIn_ca (goodIn_r _ [8, 9, 10, 11, 12, 13, 14, 15, 16, 17, 18, 7, 19, 20, 21, 22, 23, 24, 25, 26, 27, 28, 29, 30, 31, 32, 33, 34, 35, 36, 37, 38, 39, 40, 41, 42, 43, 44, 45, 46, 47, 48, 49, 50, 51, 52, 53, 54, 55, 56, 57, 58, 59, 60, 61, 62, 63, 64, 65, 66, 67, 68, 69, 70, 71, 72, 73, 74, 75, 76, 77, 78, 79, 80, 81, 82, 83, 84, 85, 86, 87, 88, 89, 90, 91, 92] (by decide +kernel) (by decide +kernel)) (goodIn_sub (fun _ h => List.mem_cons_of_mem _ (List.mem_append_left _ (List.mem_append_left _ (List.mem_append_right _ h)))) (by decide +kernel))) (goodIn_sub (fun _ h => List.mem_cons_of_mem _ (List.mem_append_left _ (List.mem_append_right _ h))) (by decide +kernel))) (goodIn_sub (fun _ h => List.mem_cons_of_mem _ (List.mem_append_right _ h)) (by decide +kernel))
set_option maxRecDepth 20000 in
theorem gL_mark_X3_mark : GoodIn wsL_mark (wsV RL 30 RX3 yX3_mark wsX3_mark) := goodIn_app (goodIn_of _ (by decide +kernel)) ggL_mark_X3_mark
theorem dL_mark_0 : decode cL_mark 0 = .ok (.aload_n 0, 1) := by decide +kernel
theorem dL_mark_1 : decode cL_mark 1 = .ok (.iload_n 1, 1) := by decide +kernel
theorem dL_mark_2 : decode cL_mark 2 = .ok (.iload_n 2, 1) := by decide +kernel
theorem dL_mark_3 : decode cL_mark 3 = .ok (.iload_n 3, 1) := by decide +kernel
theorem dL_mark_4 : decode cL_mark 4 = .ok (.iload 4, 2) := by decide +kernel
theorem dL_mark_6 : decode cL_mark 6 = .ok (.invokevirtual 30, 3) := by decide +kernel
theorem dL_mark_9 : decode cL_mark 9 = .ok (.istore 5, 2) := by decide +kernel
theorem dL_mark_11 : decode cL_mark 11 = .ok (.goto 18, 3) := by decide +kernel
theorem dL_mark_14 : decode cL_mark 14 = .ok (.astore 6, 2) := by decide +kernel
theorem dL_mark_16 : decode cL_mark 16 = .ok (.bipush (-71), 2) := by decide +kernel
theorem dL_mark_18 : decode cL_mark 18 = .ok (.ireturn, 1) := by decide +kernel
theorem dL_mark_19 : decode cL_mark 19 = .ok (.astore 6, 2) := by decide +kernel
theorem dL_mark_21 : decode cL_mark 21 = .ok (.bipush (-72), 2) := by decide +kernel
theorem dL_mark_23 : decode cL_mark 23 = .ok (.ireturn, 1) := by decide +kernel
theorem dL_mark_24 : decode cL_mark 24 = .ok (.astore 6, 2) := by decide +kernel
theorem dL_mark_26 : decode cL_mark 26 = .ok (.bipush (-73), 2) := by decide +kernel
theorem dL_mark_28 : decode cL_mark 28 = .ok (.ireturn, 1) := by decide +kernel
theorem dL_mark_29 : decode cL_mark 29 = .ok (.iload 5, 2) := by decide +kernel
theorem dL_mark_31 : decode cL_mark 31 = .ok (.ireturn, 1) := by decide +kernel
set_option maxRecDepth 20000 in
theorem ggL_renew_X3_renew : GoodIn wsL_renew wsX3_renew := goodIn_ca (goodIn_ca (goodIn_ca (goodIn_r _ [8, 9, 10, 11, 12, 13, 14, 7, 15, 16, 17, 18, 19, 20, 21, 22, 23, 24, 25, 26, 27, 28, 29, 30, 31, 32, 33, 34, 35, 36, 37, 38, 39, 40, 41, 42, 43, 44, 45, 46, 47, 48, 49, 50, 51, 52, 53, 54, 55, 56, 57, 58, 59, 60, 61, 62, 63, 64, 65, 66, 67, 68, 69, 70, 71, 72, 73, 74, 75, 76, 77, 78, 79, 80, 81, 82, 83, 84, 85, 86, 87, 88, 89, 90, 91, 92, 93, 94, 95, 96, 97, 98, 99, 100, 101, 102, 103, 104, 105, 106, 107] (by decide +kernel) (by decide +kernel)) (goodIn_sub (fun _ h => List.mem_cons_of_mem _ (List.mem_append_left _ (List.mem_append_left _ (List.mem_append_right _ h)))) (by decide +kernel))) (goodIn_sub (fun _ h => List.mem_cons_of_mem _ (List.mem_append_left _ (List.mem_append_right _ h))) (by decide +kernel))) (goodIn_sub (fun _ h => List.mem_cons_of_mem _ (List.mem_append_right _ h)) (by decide +kernel))
set_option maxRecDepth 20000 in
theorem gL_renew_X3_renew : GoodIn wsL_renew (wsV RL 36 RX3 yX3_renew wsX3_renew) := goodIn_app (goodIn_of _ (by decide +kernel)) ggL_renew_X3_renew
theorem dL_renew_0 : decode cL_renew 0 = .ok (.aload_n 0, 1) := by decide +kernel
theorem dL_renew_1 : decode cL_renew 1 = .ok (.iload_n 1, 1) := by decide +kernel
theorem dL_renew_2 : decode cL_renew 2 = .ok (.iload_n 2, 1) := by decide +kernel
theorem dL_renew_3 : decode cL_renew 3 = .ok (.iload_n 3, 1) := by decide +kernel
theorem dL_renew_4 : decode cL_renew 4 = .ok (.invokevirtual 36, 3) := by decide +kernel
theorem dL_renew_7 : decode cL_renew 7 = .ok (.istore 4, 2) := by decide +kernel
theorem dL_renew_9 : decode cL_renew 9 = .ok (.goto 18, 3) := by decide +kernel
theorem dL_renew_12 : decode cL_renew 12 = .ok (.astore 5, 2) := by decide +kernel
theorem dL_renew_14 : decode cL_renew 14 = .ok (.bipush (-71), 2) := by decide +kernel
theorem dL_renew_16 : decode cL_renew 16 = .ok (.ireturn, 1) := by decide +kernel
theorem dL_renew_17 : decode cL_renew 17 = .ok (.astore 5, 2) := by decide +kernel
theorem dL_renew_19 : decode cL_renew 19 = .ok (.bipush (-72), 2) := by decide +kernel
theorem dL_renew_21 : decode cL_renew 21 = .ok (.ireturn, 1) := by decide +kernel
theorem dL_renew_22 : decode cL_renew 22 = .ok (.astore 5, 2) := by decide +kernel
theorem dL_renew_24 : decode cL_renew 24 = .ok (.bipush (-73), 2) := by decide +kernel
theorem dL_renew_26 : decode cL_renew 26 = .ok (.ireturn, 1) := by decide +kernel
theorem dL_renew_27 : decode cL_renew 27 = .ok (.iload 4, 2) := by decide +kernel
theorem dL_renew_29 : decode cL_renew 29 = .ok (.ireturn, 1) := by decide +kernel
set_option maxRecDepth 20000 in
theorem ggL_version_X3_version : GoodIn wsL_version wsX3_version := goodIn_ca (goodIn_ca (goodIn_r _ [7, 8, 9, 10, 6, 11, 12, 13, 14, 15, 16, 17, 18, 19, 20, 21, 22, 23, 24, 25, 26, 27, 28, 29, 30, 31, 32, 33, 34, 35, 36, 37, 38, 39, 40, 41, 42, 43, 44, 45, 46, 47, 48, 49, 50, 51, 52, 53, 54, 55, 56, 57, 58, 59, 60, 61, 62, 63, 64, 65, 66, 67, 68, 69, 70, 71, 72, 73] (by decide +kernel) (by decide +kernel)) (goodIn_sub (fun _ h => List.mem_cons_of_mem _ (List.mem_append_left _ (List.mem_append_right _ h))) (by decide +kernel))) (goodIn_sub (fun _ h => List.mem_cons_of_mem _ (List.mem_append_right _ h)) (by decide +kernel))
set_option maxRecDepth 20000 in
theorem gL_version_X3_version : GoodIn wsL_version (wsV RL 40 RX3 yX3_version wsX3_version) := goodIn_app (goodIn_of _ (by decide +kernel)) ggL_version_X3_version
theorem dL_version_0 : decode cL_version 0 = .ok (.aload_n 0, 1) := by decide +kernel
theorem dL_version_1 : decode cL_version 1 = .ok (.iload_n 1, 1) := by decide +kernel
theorem dL_version_2 : decode cL_version 2 = .ok (.iload_n 2, 1) := by decide +kernel
theorem dL_version_3 : decode cL_version 3 = .ok (.invokevirtual 40, 3) := by decide +kernel
theorem dL_version_6 : decode cL_version 6 = .ok (.istore_n 3, 1) := by decide +kernel
theorem dL_version_7 : decode cL_version 7 = .ok (.goto 13, 3) := by decide +kernel
theorem dL_version_10 : decode cL_version 10 = .ok (.astore 4, 2) := by decide +kernel
theorem dL_version_12 : decode cL_version 12 = .ok (.bipush (-71), 2) := by decide +kernel
theorem dL_version_14 : decode cL_version 14 = .ok (.ireturn, 1) := by decide +kernel
theorem dL_version_15 : decode cL_version 15 = .ok (.astore 4, 2) := by decide +kernel
theorem dL_version_17 : decode cL_version 17 = .ok (.bipush (-72), 2) := by decide +kernel
theorem dL_version_19 : decode cL_version 19 = .ok (.ireturn, 1) := by decide +kernel
theorem dL_version_20 : decode cL_version 20 = .ok (.iload_n 3, 1) := by decide +kernel
theorem dL_version_21 : decode cL_version 21 = .ok (.ireturn, 1) := by decide +kernel
set_option maxRecDepth 20000 in
theorem ggL_offered_X3_offered : GoodIn wsL_offered wsX3_offered := goodIn_ca (goodIn_r _ [6, 7, 8, 9, 5, 10, 11, 12, 13, 14, 15, 16, 17, 18, 19, 20, 21, 22, 23, 24, 25, 26, 27, 28, 29, 30, 31, 32, 33, 34, 35, 36, 37, 38, 39, 40, 41, 42, 43, 44, 45, 46, 47, 48, 49, 50, 51, 52, 53, 54, 55, 56, 57, 58, 59, 60, 61, 62, 63, 64, 65, 66, 67, 68, 69, 70, 71, 72, 73, 74, 75, 76, 77, 78, 79, 80, 81, 82] (by decide +kernel) (by decide +kernel)) (goodIn_sub (fun _ h => List.mem_cons_of_mem _ (List.mem_append_right _ h)) (by decide +kernel))
set_option maxRecDepth 20000 in
theorem gL_offered_X3_offered : GoodIn wsL_offered (wsV RL 44 RX3 yX3_offered wsX3_offered) := goodIn_app (goodIn_of _ (by decide +kernel)) ggL_offered_X3_offered
theorem dL_offered_0 : decode cL_offered 0 = .ok (.aload_n 0, 1) := by decide +kernel
theorem dL_offered_1 : decode cL_offered 1 = .ok (.iload_n 1, 1) := by decide +kernel
theorem dL_offered_2 : decode cL_offered 2 = .ok (.invokevirtual 44, 3) := by decide +kernel
theorem dL_offered_5 : decode cL_offered 5 = .ok (.istore_n 2, 1) := by decide +kernel
theorem dL_offered_6 : decode cL_offered 6 = .ok (.goto 7, 3) := by decide +kernel
theorem dL_offered_9 : decode cL_offered 9 = .ok (.astore_n 3, 1) := by decide +kernel
theorem dL_offered_10 : decode cL_offered 10 = .ok (.bipush (-71), 2) := by decide +kernel
theorem dL_offered_12 : decode cL_offered 12 = .ok (.ireturn, 1) := by decide +kernel
theorem dL_offered_13 : decode cL_offered 13 = .ok (.iload_n 2, 1) := by decide +kernel
theorem dL_offered_14 : decode cL_offered 14 = .ok (.ireturn, 1) := by decide +kernel
set_option maxRecDepth 20000 in
theorem ggL_whyNot_X3_whyNot : GoodIn wsL_whyNot wsX3_whyNot := goodIn_ca (goodIn_r _ [6, 7, 8, 9, 5, 10, 11, 12, 13, 14, 15, 16, 17, 18, 19, 20, 21, 22, 23, 24, 25, 26, 27, 28, 29, 30, 31, 32, 33, 34, 35, 36, 37, 38, 39, 40, 41, 42, 43, 44, 45, 46, 47, 48, 49, 50, 51, 52, 53, 54, 55, 56, 57, 58, 59, 60, 61, 62, 63, 64, 65, 66, 67, 68, 69, 70, 71, 72, 73, 74, 75, 76, 77, 78, 79] (by decide +kernel) (by decide +kernel)) (goodIn_sub (fun _ h => List.mem_cons_of_mem _ (List.mem_append_right _ h)) (by decide +kernel))
set_option maxRecDepth 20000 in
theorem gL_whyNot_X3_whyNot : GoodIn wsL_whyNot (wsV RL 47 RX3 yX3_whyNot wsX3_whyNot) := goodIn_app (goodIn_of _ (by decide +kernel)) ggL_whyNot_X3_whyNot
theorem dL_whyNot_0 : decode cL_whyNot 0 = .ok (.aload_n 0, 1) := by decide +kernel
theorem dL_whyNot_1 : decode cL_whyNot 1 = .ok (.iload_n 1, 1) := by decide +kernel
theorem dL_whyNot_2 : decode cL_whyNot 2 = .ok (.invokevirtual 47, 3) := by decide +kernel
theorem dL_whyNot_5 : decode cL_whyNot 5 = .ok (.istore_n 2, 1) := by decide +kernel
theorem dL_whyNot_6 : decode cL_whyNot 6 = .ok (.goto 7, 3) := by decide +kernel
theorem dL_whyNot_9 : decode cL_whyNot 9 = .ok (.astore_n 3, 1) := by decide +kernel
theorem dL_whyNot_10 : decode cL_whyNot 10 = .ok (.bipush (-71), 2) := by decide +kernel
theorem dL_whyNot_12 : decode cL_whyNot 12 = .ok (.ireturn, 1) := by decide +kernel
theorem dL_whyNot_13 : decode cL_whyNot 13 = .ok (.iload_n 2, 1) := by decide +kernel
theorem dL_whyNot_14 : decode cL_whyNot 14 = .ok (.ireturn, 1) := by decide +kernel
set_option maxRecDepth 20000 in
theorem ggL_sign_X3_sign : GoodIn wsL_sign wsX3_sign := goodIn_ca (goodIn_ca (goodIn_ca (goodIn_r _ [8, 9, 10, 11, 12, 13, 14, 7, 15, 16, 17, 18, 19, 20, 21, 22, 23, 24, 25, 26, 27, 28, 29, 30, 31, 32, 33, 34, 35, 36, 37, 38, 39, 40, 41, 42, 43, 44, 45, 46, 47, 48, 49, 50, 51, 52, 53, 54, 55, 56, 57, 58, 59, 60, 61, 62, 63, 64, 65, 66, 67, 68, 69, 70, 71, 72, 73, 74, 75, 76, 77, 78, 79, 80, 81, 82, 83, 84, 85, 86, 87, 88, 89, 90, 91, 92, 93, 94, 95, 96, 97, 98, 99, 100, 101, 102, 103, 104, 105, 106, 107, 108, 109, 110, 111, 112, 113, 114, 115, 116, 117, 118, 119, 120, 121, 122, 123, 124, 125, 126, 127, 128, 129, 130, 131, 132, 133, 134, 135, 136, 137, 138, 139, 140, 141, 142, 143, 144, 145, 146, 147, 148, 149, 150, 151, 152, 153, 154, 155, 156, 157, 158, 159, 160, 161, 162, 163, 164, 165, 166, 167, 168, 169, 170, 171, 172] (by decide +kernel) (by decide +kernel)) (goodIn_sub (fun _ h => List.mem_cons_of_mem _ (List.mem_append_left _ (List.mem_append_left _ (List.mem_append_right _ h)))) (by decide +kernel))) (goodIn_sub (fun _ h => List.mem_cons_of_mem _ (List.mem_append_left _ (List.mem_append_right _ h))) (by decide +kernel))) (goodIn_sub (fun _ h => List.mem_cons_of_mem _ (List.mem_append_right _ h)) (by decide +kernel))
set_option maxRecDepth 20000 in
theorem gL_sign_X3_sign : GoodIn wsL_sign (wsV RL 50 RX3 yX3_sign wsX3_sign) := goodIn_app (goodIn_of _ (by decide +kernel)) ggL_sign_X3_sign
theorem dL_sign_0 : decode cL_sign 0 = .ok (.aload_n 0, 1) := by decide +kernel
theorem dL_sign_1 : decode cL_sign 1 = .ok (.iload_n 1, 1) := by decide +kernel
theorem dL_sign_2 : decode cL_sign 2 = .ok (.iload_n 2, 1) := by decide +kernel
theorem dL_sign_3 : decode cL_sign 3 = .ok (.invokevirtual 50, 3) := by decide +kernel
theorem dL_sign_6 : decode cL_sign 6 = .ok (.istore_n 3, 1) := by decide +kernel
theorem dL_sign_7 : decode cL_sign 7 = .ok (.goto 18, 3) := by decide +kernel
theorem dL_sign_10 : decode cL_sign 10 = .ok (.astore 4, 2) := by decide +kernel
theorem dL_sign_12 : decode cL_sign 12 = .ok (.bipush (-71), 2) := by decide +kernel
theorem dL_sign_14 : decode cL_sign 14 = .ok (.ireturn, 1) := by decide +kernel
theorem dL_sign_15 : decode cL_sign 15 = .ok (.astore 4, 2) := by decide +kernel
theorem dL_sign_17 : decode cL_sign 17 = .ok (.bipush (-72), 2) := by decide +kernel
theorem dL_sign_19 : decode cL_sign 19 = .ok (.ireturn, 1) := by decide +kernel
theorem dL_sign_20 : decode cL_sign 20 = .ok (.astore 4, 2) := by decide +kernel
theorem dL_sign_22 : decode cL_sign 22 = .ok (.bipush (-73), 2) := by decide +kernel
theorem dL_sign_24 : decode cL_sign 24 = .ok (.ireturn, 1) := by decide +kernel
theorem dL_sign_25 : decode cL_sign 25 = .ok (.iload_n 3, 1) := by decide +kernel
theorem dL_sign_26 : decode cL_sign 26 = .ok (.ireturn, 1) := by decide +kernel
set_option maxRecDepth 20000 in
theorem ggL_pass_X3_pass : GoodIn wsL_pass wsX3_pass := goodIn_ca (goodIn_ca (goodIn_r _ [7, 8, 9, 10, 11, 12, 13, 14, 6, 15, 16, 17, 18, 19, 20, 21, 22, 23, 24, 25, 26, 27, 28, 29, 30, 31, 32, 33, 34, 35, 36, 37, 38, 39, 40, 41, 42, 43, 44, 45, 46, 47, 48, 49, 50, 51, 52, 53, 54, 55, 56, 57, 58, 59, 60, 61, 62, 63, 64, 65, 66, 67, 68, 69, 70, 71, 72, 73, 74, 75, 76, 77, 78, 79, 80, 81, 82, 83, 84, 85, 86, 87, 88, 89, 90, 91, 92, 93, 94, 95, 96, 97, 98] (by decide +kernel) (by decide +kernel)) (goodIn_sub (fun _ h => List.mem_cons_of_mem _ (List.mem_append_left _ (List.mem_append_right _ h))) (by decide +kernel))) (goodIn_sub (fun _ h => List.mem_cons_of_mem _ (List.mem_append_right _ h)) (by decide +kernel))
set_option maxRecDepth 20000 in
theorem gL_pass_X3_pass : GoodIn wsL_pass (wsV RL 53 RX3 yX3_pass wsX3_pass) := goodIn_app (goodIn_of _ (by decide +kernel)) ggL_pass_X3_pass
theorem dL_pass_0 : decode cL_pass 0 = .ok (.aload_n 0, 1) := by decide +kernel
theorem dL_pass_1 : decode cL_pass 1 = .ok (.iload_n 1, 1) := by decide +kernel
theorem dL_pass_2 : decode cL_pass 2 = .ok (.invokevirtual 53, 3) := by decide +kernel
theorem dL_pass_5 : decode cL_pass 5 = .ok (.istore_n 2, 1) := by decide +kernel
theorem dL_pass_6 : decode cL_pass 6 = .ok (.goto 11, 3) := by decide +kernel
theorem dL_pass_9 : decode cL_pass 9 = .ok (.astore_n 3, 1) := by decide +kernel
theorem dL_pass_10 : decode cL_pass 10 = .ok (.bipush (-72), 2) := by decide +kernel
theorem dL_pass_12 : decode cL_pass 12 = .ok (.ireturn, 1) := by decide +kernel
theorem dL_pass_13 : decode cL_pass 13 = .ok (.astore_n 3, 1) := by decide +kernel
theorem dL_pass_14 : decode cL_pass 14 = .ok (.bipush (-73), 2) := by decide +kernel
theorem dL_pass_16 : decode cL_pass 16 = .ok (.ireturn, 1) := by decide +kernel
theorem dL_pass_17 : decode cL_pass 17 = .ok (.iload_n 2, 1) := by decide +kernel
theorem dL_pass_18 : decode cL_pass 18 = .ok (.ireturn, 1) := by decide +kernel
set_option maxRecDepth 20000 in
theorem ggL_state_X3_state : GoodIn wsL_state wsX3_state := goodIn_ca (goodIn_r _ [6, 7, 8, 9, 10, 5, 11, 12, 13, 14, 15, 16, 17, 18, 19, 20, 21, 22, 23, 24, 25, 26, 27, 28, 29, 30, 31, 32, 33, 34, 35, 36, 37, 38, 39, 40, 41, 42, 43, 44, 45, 46, 47, 48, 49, 50, 51, 52, 53, 54] (by decide +kernel) (by decide +kernel)) (goodIn_sub (fun _ h => List.mem_cons_of_mem _ (List.mem_append_right _ h)) (by decide +kernel))
set_option maxRecDepth 20000 in
theorem gL_state_X3_state : GoodIn wsL_state (wsV RL 56 RX3 yX3_state wsX3_state) := goodIn_app (goodIn_of _ (by decide +kernel)) ggL_state_X3_state
theorem dL_state_0 : decode cL_state 0 = .ok (.aload_n 0, 1) := by decide +kernel
theorem dL_state_1 : decode cL_state 1 = .ok (.iload_n 1, 1) := by decide +kernel
theorem dL_state_2 : decode cL_state 2 = .ok (.invokevirtual 56, 3) := by decide +kernel
theorem dL_state_5 : decode cL_state 5 = .ok (.istore_n 2, 1) := by decide +kernel
theorem dL_state_6 : decode cL_state 6 = .ok (.goto 7, 3) := by decide +kernel
theorem dL_state_9 : decode cL_state 9 = .ok (.astore_n 3, 1) := by decide +kernel
theorem dL_state_10 : decode cL_state 10 = .ok (.bipush (-71), 2) := by decide +kernel
theorem dL_state_12 : decode cL_state 12 = .ok (.ireturn, 1) := by decide +kernel
theorem dL_state_13 : decode cL_state 13 = .ok (.iload_n 2, 1) := by decide +kernel
theorem dL_state_14 : decode cL_state 14 = .ok (.ireturn, 1) := by decide +kernel
set_option maxRecDepth 20000 in
theorem ggL_day_X3_day : GoodIn wsL_day wsX3_day := goodIn_ca (goodIn_r _ [6, 7, 8, 9, 10, 5, 11, 12, 13, 14, 15, 16, 17, 18, 19, 20, 21, 22, 23, 24, 25, 26, 27, 28, 29, 30, 31, 32, 33, 34, 35, 36, 37, 38, 39, 40, 41, 42, 43, 44, 45, 46, 47, 48, 49, 50, 51, 52, 53, 54] (by decide +kernel) (by decide +kernel)) (goodIn_sub (fun _ h => List.mem_cons_of_mem _ (List.mem_append_right _ h)) (by decide +kernel))
set_option maxRecDepth 20000 in
theorem gL_day_X3_day : GoodIn wsL_day (wsV RL 59 RX3 yX3_day wsX3_day) := goodIn_app (goodIn_of _ (by decide +kernel)) ggL_day_X3_day
theorem dL_day_0 : decode cL_day 0 = .ok (.aload_n 0, 1) := by decide +kernel
theorem dL_day_1 : decode cL_day 1 = .ok (.iload_n 1, 1) := by decide +kernel
theorem dL_day_2 : decode cL_day 2 = .ok (.invokevirtual 59, 3) := by decide +kernel
theorem dL_day_5 : decode cL_day 5 = .ok (.istore_n 2, 1) := by decide +kernel
theorem dL_day_6 : decode cL_day 6 = .ok (.goto 7, 3) := by decide +kernel
theorem dL_day_9 : decode cL_day 9 = .ok (.astore_n 3, 1) := by decide +kernel
theorem dL_day_10 : decode cL_day 10 = .ok (.bipush (-71), 2) := by decide +kernel
theorem dL_day_12 : decode cL_day 12 = .ok (.ireturn, 1) := by decide +kernel
theorem dL_day_13 : decode cL_day 13 = .ok (.iload_n 2, 1) := by decide +kernel
theorem dL_day_14 : decode cL_day 14 = .ok (.ireturn, 1) := by decide +kernel
set_option maxRecDepth 20000 in
theorem ggL_perform_X3_perform : GoodIn wsL_perform wsX3_perform := goodIn_ca (goodIn_ca (goodIn_r _ [7, 8, 9, 10, 11, 12, 13, 14, 15, 6, 16, 17, 18, 19, 20, 21, 22, 23, 24, 25, 26, 27, 28, 29, 30, 31, 32, 33, 34, 35, 36, 37, 38, 39, 40, 41, 42, 43, 44, 45, 46, 47, 48, 49, 50, 51, 52, 53, 54, 55, 56, 57, 58, 59, 60, 61, 62, 63, 64, 65, 66, 67, 68, 69, 70] (by decide +kernel) (by decide +kernel)) (goodIn_sub (fun _ h => List.mem_cons_of_mem _ (List.mem_append_left _ (List.mem_append_right _ h))) (by decide +kernel))) (goodIn_sub (fun _ h => List.mem_cons_of_mem _ (List.mem_append_right _ h)) (by decide +kernel))
set_option maxRecDepth 20000 in
theorem gL_perform_X3_perform : GoodIn wsL_perform (wsV RL 62 RX3 yX3_perform wsX3_perform) := goodIn_app (goodIn_of _ (by decide +kernel)) ggL_perform_X3_perform
theorem dL_perform_0 : decode cL_perform 0 = .ok (.aload_n 0, 1) := by decide +kernel
theorem dL_perform_1 : decode cL_perform 1 = .ok (.iload_n 1, 1) := by decide +kernel
theorem dL_perform_2 : decode cL_perform 2 = .ok (.invokevirtual 62, 3) := by decide +kernel
theorem dL_perform_5 : decode cL_perform 5 = .ok (.istore_n 2, 1) := by decide +kernel
theorem dL_perform_6 : decode cL_perform 6 = .ok (.goto 11, 3) := by decide +kernel
theorem dL_perform_9 : decode cL_perform 9 = .ok (.astore_n 3, 1) := by decide +kernel
theorem dL_perform_10 : decode cL_perform 10 = .ok (.bipush (-71), 2) := by decide +kernel
theorem dL_perform_12 : decode cL_perform 12 = .ok (.ireturn, 1) := by decide +kernel
theorem dL_perform_13 : decode cL_perform 13 = .ok (.astore_n 3, 1) := by decide +kernel
theorem dL_perform_14 : decode cL_perform 14 = .ok (.bipush (-73), 2) := by decide +kernel
theorem dL_perform_16 : decode cL_perform 16 = .ok (.ireturn, 1) := by decide +kernel
theorem dL_perform_17 : decode cL_perform 17 = .ok (.iload_n 2, 1) := by decide +kernel
theorem dL_perform_18 : decode cL_perform 18 = .ok (.ifCond .eq 7, 3) := by decide +kernel
theorem dL_perform_21 : decode cL_perform 21 = .ok (.iconst 1, 1) := by decide +kernel
theorem dL_perform_22 : decode cL_perform 22 = .ok (.goto 4, 3) := by decide +kernel
theorem dL_perform_25 : decode cL_perform 25 = .ok (.iconst 0, 1) := by decide +kernel
theorem dL_perform_26 : decode cL_perform 26 = .ok (.ireturn, 1) := by decide +kernel
set_option maxRecDepth 20000 in
theorem ggL_notice_X3_notice : GoodIn wsL_notice wsX3_notice := goodIn_ca (goodIn_ca (goodIn_r _ [7, 8, 9, 10, 11, 12, 13, 14, 15, 16, 17, 6, 18, 19, 20, 21, 22, 23, 24, 25, 26, 27, 28, 29, 30, 31, 32, 33, 34, 35, 36, 37, 38, 39, 40, 41, 42, 43, 44, 45, 46, 47, 48, 49, 50, 51, 52, 53, 54, 55, 56, 57, 58, 59, 60, 61, 62, 63, 64, 65, 66, 67, 68, 69, 70, 71, 72, 73] (by decide +kernel) (by decide +kernel)) (goodIn_sub (fun _ h => List.mem_cons_of_mem _ (List.mem_append_left _ (List.mem_append_right _ h))) (by decide +kernel))) (goodIn_sub (fun _ h => List.mem_cons_of_mem _ (List.mem_append_right _ h)) (by decide +kernel))
set_option maxRecDepth 20000 in
theorem gL_notice_X3_notice : GoodIn wsL_notice (wsV RL 66 RX3 yX3_notice wsX3_notice) := goodIn_app (goodIn_of _ (by decide +kernel)) ggL_notice_X3_notice
theorem dL_notice_0 : decode cL_notice 0 = .ok (.aload_n 0, 1) := by decide +kernel
theorem dL_notice_1 : decode cL_notice 1 = .ok (.iload_n 1, 1) := by decide +kernel
theorem dL_notice_2 : decode cL_notice 2 = .ok (.invokevirtual 66, 3) := by decide +kernel
theorem dL_notice_5 : decode cL_notice 5 = .ok (.istore_n 2, 1) := by decide +kernel
theorem dL_notice_6 : decode cL_notice 6 = .ok (.goto 11, 3) := by decide +kernel
theorem dL_notice_9 : decode cL_notice 9 = .ok (.astore_n 3, 1) := by decide +kernel
theorem dL_notice_10 : decode cL_notice 10 = .ok (.bipush (-71), 2) := by decide +kernel
theorem dL_notice_12 : decode cL_notice 12 = .ok (.ireturn, 1) := by decide +kernel
theorem dL_notice_13 : decode cL_notice 13 = .ok (.astore_n 3, 1) := by decide +kernel
theorem dL_notice_14 : decode cL_notice 14 = .ok (.bipush (-73), 2) := by decide +kernel
theorem dL_notice_16 : decode cL_notice 16 = .ok (.ireturn, 1) := by decide +kernel
theorem dL_notice_17 : decode cL_notice 17 = .ok (.iload_n 2, 1) := by decide +kernel
theorem dL_notice_18 : decode cL_notice 18 = .ok (.ireturn, 1) := by decide +kernel
set_option maxRecDepth 20000 in
theorem ggL_settle_X3_settle : GoodIn wsL_settle wsX3_settle := goodIn_ca (goodIn_ca (goodIn_r _ [7, 8, 9, 10, 11, 12, 13, 14, 15, 16, 6, 17, 18, 19, 20, 21, 22, 23, 24, 25, 26, 27, 28, 29, 30, 31, 32, 33, 34, 35, 36, 37, 38, 39, 40, 41, 42, 43, 44, 45, 46, 47, 48, 49, 50, 51, 52, 53, 54, 55, 56, 57, 58, 59, 60, 61, 62, 63, 64, 65, 66, 67, 68, 69, 70, 71, 72, 73, 74, 75, 76, 77, 78, 79, 80, 81, 82, 83, 84, 85, 86, 87] (by decide +kernel) (by decide +kernel)) (goodIn_sub (fun _ h => List.mem_cons_of_mem _ (List.mem_append_left _ (List.mem_append_right _ h))) (by decide +kernel))) (goodIn_sub (fun _ h => List.mem_cons_of_mem _ (List.mem_append_right _ h)) (by decide +kernel))
set_option maxRecDepth 20000 in
theorem gL_settle_X3_settle : GoodIn wsL_settle (wsV RL 69 RX3 yX3_settle wsX3_settle) := goodIn_app (goodIn_of _ (by decide +kernel)) ggL_settle_X3_settle
theorem dL_settle_0 : decode cL_settle 0 = .ok (.aload_n 0, 1) := by decide +kernel
theorem dL_settle_1 : decode cL_settle 1 = .ok (.iload_n 1, 1) := by decide +kernel
theorem dL_settle_2 : decode cL_settle 2 = .ok (.invokevirtual 69, 3) := by decide +kernel
theorem dL_settle_5 : decode cL_settle 5 = .ok (.istore_n 2, 1) := by decide +kernel
theorem dL_settle_6 : decode cL_settle 6 = .ok (.goto 11, 3) := by decide +kernel
theorem dL_settle_9 : decode cL_settle 9 = .ok (.astore_n 3, 1) := by decide +kernel
theorem dL_settle_10 : decode cL_settle 10 = .ok (.bipush (-71), 2) := by decide +kernel
theorem dL_settle_12 : decode cL_settle 12 = .ok (.ireturn, 1) := by decide +kernel
theorem dL_settle_13 : decode cL_settle 13 = .ok (.astore_n 3, 1) := by decide +kernel
theorem dL_settle_14 : decode cL_settle 14 = .ok (.bipush (-73), 2) := by decide +kernel
theorem dL_settle_16 : decode cL_settle 16 = .ok (.ireturn, 1) := by decide +kernel
theorem dL_settle_17 : decode cL_settle 17 = .ok (.iload_n 2, 1) := by decide +kernel
theorem dL_settle_18 : decode cL_settle 18 = .ok (.ireturn, 1) := by decide +kernel
set_option maxRecDepth 20000 in
theorem ggL_owes_X3_owes : GoodIn wsL_owes wsX3_owes := goodIn_ca (goodIn_ca (goodIn_r _ [7, 8, 9, 10, 11, 12, 13, 14, 15, 6, 16, 17, 18, 19, 20, 21, 22, 23, 24, 25, 26, 27, 28, 29, 30, 31, 32, 33, 34, 35, 36, 37, 38, 39, 40, 41, 42, 43, 44, 45, 46, 47, 48, 49, 50, 51, 52, 53, 54, 55, 56, 57, 58, 59, 60, 61, 62, 63, 64, 65] (by decide +kernel) (by decide +kernel)) (goodIn_sub (fun _ h => List.mem_cons_of_mem _ (List.mem_append_left _ (List.mem_append_right _ h))) (by decide +kernel))) (goodIn_sub (fun _ h => List.mem_cons_of_mem _ (List.mem_append_right _ h)) (by decide +kernel))
set_option maxRecDepth 20000 in
theorem gL_owes_X3_owes : GoodIn wsL_owes (wsV RL 72 RX3 yX3_owes wsX3_owes) := goodIn_app (goodIn_of _ (by decide +kernel)) ggL_owes_X3_owes
theorem dL_owes_0 : decode cL_owes 0 = .ok (.aload_n 0, 1) := by decide +kernel
theorem dL_owes_1 : decode cL_owes 1 = .ok (.iload_n 1, 1) := by decide +kernel
theorem dL_owes_2 : decode cL_owes 2 = .ok (.iload_n 2, 1) := by decide +kernel
theorem dL_owes_3 : decode cL_owes 3 = .ok (.invokevirtual 72, 3) := by decide +kernel
theorem dL_owes_6 : decode cL_owes 6 = .ok (.istore_n 3, 1) := by decide +kernel
theorem dL_owes_7 : decode cL_owes 7 = .ok (.goto 13, 3) := by decide +kernel
theorem dL_owes_10 : decode cL_owes 10 = .ok (.astore 4, 2) := by decide +kernel
theorem dL_owes_12 : decode cL_owes 12 = .ok (.bipush (-71), 2) := by decide +kernel
theorem dL_owes_14 : decode cL_owes 14 = .ok (.ireturn, 1) := by decide +kernel
theorem dL_owes_15 : decode cL_owes 15 = .ok (.astore 4, 2) := by decide +kernel
theorem dL_owes_17 : decode cL_owes 17 = .ok (.bipush (-72), 2) := by decide +kernel
theorem dL_owes_19 : decode cL_owes 19 = .ok (.ireturn, 1) := by decide +kernel
theorem dL_owes_20 : decode cL_owes 20 = .ok (.iload_n 3, 1) := by decide +kernel
theorem dL_owes_21 : decode cL_owes 21 = .ok (.ireturn, 1) := by decide +kernel
set_option maxRecDepth 20000 in
theorem ggL_writes_L_low : GoodIn wsL_writes wsL_low := goodIn_r _ [6] (by decide +kernel) (by decide +kernel)
set_option maxRecDepth 20000 in
theorem gL_writes_L_low : GoodIn wsL_writes (va_wsS RL 75 yL_low wsL_low) := goodIn_app (goodIn_of _ (by decide +kernel)) ggL_writes_L_low
set_option maxRecDepth 20000 in
theorem ggL_writes_L_issue : GoodIn wsL_writes wsL_issue := goodIn_ca (goodIn_ca (goodIn_r _ [9, 10, 11, 12, 13, 14, 15, 16, 17, 18, 19, 20, 21, 22, 23, 24, 25, 26, 27, 28, 29, 30, 31, 32, 33, 34, 35, 36, 37, 38, 39, 40, 41, 42, 43, 44, 45, 46, 47, 48, 49, 50, 51, 52, 65, 66, 67, 68, 69, 70, 71, 72, 73, 74, 75] (by decide +kernel) (by decide +kernel)) (goodIn_sub (fun _ h => List.mem_cons_of_mem _ (List.mem_append_left _ (List.mem_append_right _ h))) (by decide +kernel))) (goodIn_sub (fun _ h => List.mem_cons_of_mem _ (List.mem_append_right _ h)) (by decide +kernel))
set_option maxRecDepth 20000 in
theorem gL_writes_L_issue : GoodIn wsL_writes (va_wsS RL 81 yL_issue wsL_issue) := goodIn_app (goodIn_of _ (by decide +kernel)) ggL_writes_L_issue
set_option maxRecDepth 20000 in
theorem ggL_writes_L_relate : GoodIn wsL_writes wsL_relate := goodIn_ca (goodIn_r _ [55, 10, 56, 57, 58, 15, 59, 60, 61, 25, 26, 27, 17, 18, 28, 29, 30, 62, 63, 64, 65, 66, 67, 68, 69, 70] (by decide +kernel) (by decide +kernel)) (goodIn_sub (fun _ h => List.mem_cons_of_mem _ (List.mem_append_left _ (List.mem_append_right _ h))) (by decide +kernel))
set_option maxRecDepth 20000 in
theorem gL_writes_L_relate : GoodIn wsL_writes (va_wsS RL 85 yL_relate wsL_relate) := goodIn_app (goodIn_of _ (by decide +kernel)) ggL_writes_L_relate
theorem dL_writes_0 : decode cL_writes 0 = .ok (.iload_n 2, 1) := by decide +kernel
theorem dL_writes_1 : decode cL_writes 1 = .ok (.bipush 6, 2) := by decide +kernel
theorem dL_writes_3 : decode cL_writes 3 = .ok (.invokestatic 75, 3) := by decide +kernel
theorem dL_writes_6 : decode cL_writes 6 = .ok (.istore 7, 2) := by decide +kernel
theorem dL_writes_8 : decode cL_writes 8 = .ok (.iload_n 1, 1) := by decide +kernel
theorem dL_writes_9 : decode cL_writes 9 = .ok (.iconst 4, 1) := by decide +kernel
theorem dL_writes_10 : decode cL_writes 10 = .ok (.if_icmp .ge 304, 3) := by decide +kernel
theorem dL_writes_13 : decode cL_writes 13 = .ok (.iload_n 3, 1) := by decide +kernel
theorem dL_writes_14 : decode cL_writes 14 = .ok (.iconst 1, 1) := by decide +kernel
theorem dL_writes_15 : decode cL_writes 15 = .ok (.iand, 1) := by decide +kernel
theorem dL_writes_16 : decode cL_writes 16 = .ok (.istore 8, 2) := by decide +kernel
theorem dL_writes_18 : decode cL_writes 18 = .ok (.iload_n 3, 1) := by decide +kernel
theorem dL_writes_19 : decode cL_writes 19 = .ok (.iconst 1, 1) := by decide +kernel
theorem dL_writes_20 : decode cL_writes 20 = .ok (.ishr, 1) := by decide +kernel
theorem dL_writes_21 : decode cL_writes 21 = .ok (.iload_n 3, 1) := by decide +kernel
theorem dL_writes_22 : decode cL_writes 22 = .ok (.ldc 80, 2) := by decide +kernel
theorem dL_writes_24 : decode cL_writes 24 = .ok (.iand, 1) := by decide +kernel
theorem dL_writes_25 : decode cL_writes 25 = .ok (.ifCond .ne 8, 3) := by decide +kernel
theorem dL_writes_28 : decode cL_writes 28 = .ok (.bipush 101, 2) := by decide +kernel
theorem dL_writes_30 : decode cL_writes 30 = .ok (.goto 5, 3) := by decide +kernel
end
section
theorem dL_writes_33 : decode cL_writes 33 = .ok (.bipush 6, 2) := by decide +kernel
theorem dL_writes_35 : decode cL_writes 35 = .ok (.invokestatic 75, 3) := by decide +kernel
theorem dL_writes_38 : decode cL_writes 38 = .ok (.istore 9, 2) := by decide +kernel
theorem dL_writes_40 : decode cL_writes 40 = .ok (.iload_n 3, 1) := by decide +kernel
theorem dL_writes_41 : decode cL_writes 41 = .ok (.bipush 8, 2) := by decide +kernel
theorem dL_writes_43 : decode cL_writes 43 = .ok (.ishr, 1) := by decide +kernel
theorem dL_writes_44 : decode cL_writes 44 = .ok (.iload_n 3, 1) := by decide +kernel
theorem dL_writes_45 : decode cL_writes 45 = .ok (.ldc 80, 2) := by decide +kernel
theorem dL_writes_47 : decode cL_writes 47 = .ok (.iand, 1) := by decide +kernel
theorem dL_writes_48 : decode cL_writes 48 = .ok (.ifCond .ne 8, 3) := by decide +kernel
theorem dL_writes_51 : decode cL_writes 51 = .ok (.bipush 51, 2) := by decide +kernel
theorem dL_writes_53 : decode cL_writes 53 = .ok (.goto 4, 3) := by decide +kernel
theorem dL_writes_56 : decode cL_writes 56 = .ok (.iconst 4, 1) := by decide +kernel
theorem dL_writes_57 : decode cL_writes 57 = .ok (.invokestatic 75, 3) := by decide +kernel
theorem dL_writes_60 : decode cL_writes 60 = .ok (.istore 10, 2) := by decide +kernel
theorem dL_writes_62 : decode cL_writes 62 = .ok (.iload_n 2, 1) := by decide +kernel
theorem dL_writes_63 : decode cL_writes 63 = .ok (.iconst 4, 1) := by decide +kernel
theorem dL_writes_64 : decode cL_writes 64 = .ok (.ishr, 1) := by decide +kernel
theorem dL_writes_65 : decode cL_writes 65 = .ok (.sipush 1001, 3) := by decide +kernel
theorem dL_writes_68 : decode cL_writes 68 = .ok (.invokestatic 75, 3) := by decide +kernel
theorem dL_writes_71 : decode cL_writes 71 = .ok (.istore 11, 2) := by decide +kernel
theorem dL_writes_73 : decode cL_writes 73 = .ok (.aload_n 0, 1) := by decide +kernel
theorem dL_writes_74 : decode cL_writes 74 = .ok (.bipush 10, 2) := by decide +kernel
theorem dL_writes_76 : decode cL_writes 76 = .ok (.iload 8, 2) := by decide +kernel
theorem dL_writes_78 : decode cL_writes 78 = .ok (.iload 9, 2) := by decide +kernel
theorem dL_writes_80 : decode cL_writes 80 = .ok (.iload 10, 2) := by decide +kernel
theorem dL_writes_82 : decode cL_writes 82 = .ok (.iload 11, 2) := by decide +kernel
theorem dL_writes_84 : decode cL_writes 84 = .ok (.invokestatic 81, 3) := by decide +kernel
theorem dL_writes_87 : decode cL_writes 87 = .ok (.bipush (-72), 2) := by decide +kernel
theorem dL_writes_89 : decode cL_writes 89 = .ok (.if_icmp .ne 116, 3) := by decide +kernel
theorem dL_writes_92 : decode cL_writes 92 = .ok (.aload_n 0, 1) := by decide +kernel
theorem dL_writes_93 : decode cL_writes 93 = .ok (.iload 7, 2) := by decide +kernel
theorem dL_writes_95 : decode cL_writes 95 = .ok (.iconst 2, 1) := by decide +kernel
theorem dL_writes_96 : decode cL_writes 96 = .ok (.iload 9, 2) := by decide +kernel
theorem dL_writes_98 : decode cL_writes 98 = .ok (.iload 10, 2) := by decide +kernel
theorem dL_writes_100 : decode cL_writes 100 = .ok (.iload 11, 2) := by decide +kernel
theorem dL_writes_102 : decode cL_writes 102 = .ok (.invokestatic 81, 3) := by decide +kernel
theorem dL_writes_105 : decode cL_writes 105 = .ok (.bipush (-72), 2) := by decide +kernel
theorem dL_writes_107 : decode cL_writes 107 = .ok (.if_icmp .ne 98, 3) := by decide +kernel
theorem dL_writes_110 : decode cL_writes 110 = .ok (.aload_n 0, 1) := by decide +kernel
theorem dL_writes_111 : decode cL_writes 111 = .ok (.iload 7, 2) := by decide +kernel
theorem dL_writes_113 : decode cL_writes 113 = .ok (.iload 8, 2) := by decide +kernel
theorem dL_writes_115 : decode cL_writes 115 = .ok (.bipush 101, 2) := by decide +kernel
theorem dL_writes_117 : decode cL_writes 117 = .ok (.iload 10, 2) := by decide +kernel
theorem dL_writes_119 : decode cL_writes 119 = .ok (.iload 11, 2) := by decide +kernel
theorem dL_writes_121 : decode cL_writes 121 = .ok (.invokestatic 81, 3) := by decide +kernel
theorem dL_writes_124 : decode cL_writes 124 = .ok (.bipush (-72), 2) := by decide +kernel
theorem dL_writes_126 : decode cL_writes 126 = .ok (.if_icmp .ne 79, 3) := by decide +kernel
theorem dL_writes_129 : decode cL_writes 129 = .ok (.aload_n 0, 1) := by decide +kernel
theorem dL_writes_130 : decode cL_writes 130 = .ok (.iload 7, 2) := by decide +kernel
theorem dL_writes_132 : decode cL_writes 132 = .ok (.iload 8, 2) := by decide +kernel
theorem dL_writes_134 : decode cL_writes 134 = .ok (.iload 9, 2) := by decide +kernel
theorem dL_writes_136 : decode cL_writes 136 = .ok (.bipush 51, 2) := by decide +kernel
theorem dL_writes_138 : decode cL_writes 138 = .ok (.iload 11, 2) := by decide +kernel
theorem dL_writes_140 : decode cL_writes 140 = .ok (.invokestatic 81, 3) := by decide +kernel
theorem dL_writes_143 : decode cL_writes 143 = .ok (.bipush (-72), 2) := by decide +kernel
theorem dL_writes_145 : decode cL_writes 145 = .ok (.if_icmp .ne 60, 3) := by decide +kernel
theorem dL_writes_148 : decode cL_writes 148 = .ok (.aload_n 0, 1) := by decide +kernel
theorem dL_writes_149 : decode cL_writes 149 = .ok (.iload 7, 2) := by decide +kernel
theorem dL_writes_151 : decode cL_writes 151 = .ok (.iload 8, 2) := by decide +kernel
theorem dL_writes_153 : decode cL_writes 153 = .ok (.iload 9, 2) := by decide +kernel
theorem dL_writes_155 : decode cL_writes 155 = .ok (.iload 10, 2) := by decide +kernel
theorem dL_writes_157 : decode cL_writes 157 = .ok (.sipush 1001, 3) := by decide +kernel
theorem dL_writes_160 : decode cL_writes 160 = .ok (.invokestatic 81, 3) := by decide +kernel
theorem dL_writes_163 : decode cL_writes 163 = .ok (.bipush (-72), 2) := by decide +kernel
theorem dL_writes_165 : decode cL_writes 165 = .ok (.if_icmp .ne 40, 3) := by decide +kernel
theorem dL_writes_168 : decode cL_writes 168 = .ok (.aload_n 0, 1) := by decide +kernel
theorem dL_writes_169 : decode cL_writes 169 = .ok (.iload 7, 2) := by decide +kernel
theorem dL_writes_171 : decode cL_writes 171 = .ok (.iload 8, 2) := by decide +kernel
theorem dL_writes_173 : decode cL_writes 173 = .ok (.iconst (-1), 1) := by decide +kernel
theorem dL_writes_174 : decode cL_writes 174 = .ok (.iload 10, 2) := by decide +kernel
theorem dL_writes_176 : decode cL_writes 176 = .ok (.iload 11, 2) := by decide +kernel
theorem dL_writes_178 : decode cL_writes 178 = .ok (.invokestatic 81, 3) := by decide +kernel
theorem dL_writes_181 : decode cL_writes 181 = .ok (.bipush (-72), 2) := by decide +kernel
theorem dL_writes_183 : decode cL_writes 183 = .ok (.if_icmp .ne 22, 3) := by decide +kernel
theorem dL_writes_186 : decode cL_writes 186 = .ok (.aload_n 0, 1) := by decide +kernel
theorem dL_writes_187 : decode cL_writes 187 = .ok (.ldc 84, 2) := by decide +kernel
theorem dL_writes_189 : decode cL_writes 189 = .ok (.iload 8, 2) := by decide +kernel
theorem dL_writes_191 : decode cL_writes 191 = .ok (.iload 9, 2) := by decide +kernel
theorem dL_writes_193 : decode cL_writes 193 = .ok (.iload 10, 2) := by decide +kernel
theorem dL_writes_195 : decode cL_writes 195 = .ok (.iload 11, 2) := by decide +kernel
theorem dL_writes_197 : decode cL_writes 197 = .ok (.invokestatic 81, 3) := by decide +kernel
theorem dL_writes_200 : decode cL_writes 200 = .ok (.bipush (-72), 2) := by decide +kernel
theorem dL_writes_202 : decode cL_writes 202 = .ok (.if_icmp .eq 5, 3) := by decide +kernel
theorem dL_writes_205 : decode cL_writes 205 = .ok (.iconst 0, 1) := by decide +kernel
theorem dL_writes_206 : decode cL_writes 206 = .ok (.ireturn, 1) := by decide +kernel
theorem dL_writes_207 : decode cL_writes 207 = .ok (.aload 4, 2) := by decide +kernel
theorem dL_writes_209 : decode cL_writes 209 = .ok (.iload 7, 2) := by decide +kernel
theorem dL_writes_211 : decode cL_writes 211 = .ok (.iaload, 1) := by decide +kernel
theorem dL_writes_212 : decode cL_writes 212 = .ok (.bipush 9, 2) := by decide +kernel
theorem dL_writes_214 : decode cL_writes 214 = .ok (.if_icmp .ne 28, 3) := by decide +kernel
theorem dL_writes_217 : decode cL_writes 217 = .ok (.aload_n 0, 1) := by decide +kernel
theorem dL_writes_218 : decode cL_writes 218 = .ok (.iload 7, 2) := by decide +kernel
theorem dL_writes_220 : decode cL_writes 220 = .ok (.iload 8, 2) := by decide +kernel
theorem dL_writes_222 : decode cL_writes 222 = .ok (.iload 9, 2) := by decide +kernel
theorem dL_writes_224 : decode cL_writes 224 = .ok (.iload 10, 2) := by decide +kernel
theorem dL_writes_226 : decode cL_writes 226 = .ok (.iload 11, 2) := by decide +kernel
theorem dL_writes_228 : decode cL_writes 228 = .ok (.invokestatic 81, 3) := by decide +kernel
theorem dL_writes_231 : decode cL_writes 231 = .ok (.bipush (-73), 2) := by decide +kernel
theorem dL_writes_233 : decode cL_writes 233 = .ok (.if_icmp .ne 7, 3) := by decide +kernel
theorem dL_writes_236 : decode cL_writes 236 = .ok (.iconst 1, 1) := by decide +kernel
theorem dL_writes_237 : decode cL_writes 237 = .ok (.goto 4, 3) := by decide +kernel
theorem dL_writes_240 : decode cL_writes 240 = .ok (.iconst 0, 1) := by decide +kernel
theorem dL_writes_241 : decode cL_writes 241 = .ok (.ireturn, 1) := by decide +kernel
theorem dL_writes_242 : decode cL_writes 242 = .ok (.aload 6, 2) := by decide +kernel
theorem dL_writes_244 : decode cL_writes 244 = .ok (.bipush 9, 2) := by decide +kernel
theorem dL_writes_246 : decode cL_writes 246 = .ok (.iload 7, 2) := by decide +kernel
theorem dL_writes_248 : decode cL_writes 248 = .ok (.imul, 1) := by decide +kernel
theorem dL_writes_249 : decode cL_writes 249 = .ok (.aload 4, 2) := by decide +kernel
theorem dL_writes_251 : decode cL_writes 251 = .ok (.iload 7, 2) := by decide +kernel
theorem dL_writes_253 : decode cL_writes 253 = .ok (.iaload, 1) := by decide +kernel
theorem dL_writes_254 : decode cL_writes 254 = .ok (.iadd, 1) := by decide +kernel
theorem dL_writes_255 : decode cL_writes 255 = .ok (.iload 8, 2) := by decide +kernel
theorem dL_writes_257 : decode cL_writes 257 = .ok (.iconst 2, 1) := by decide +kernel
theorem dL_writes_258 : decode cL_writes 258 = .ok (.iload 9, 2) := by decide +kernel
theorem dL_writes_260 : decode cL_writes 260 = .ok (.imul, 1) := by decide +kernel
theorem dL_writes_261 : decode cL_writes 261 = .ok (.iadd, 1) := by decide +kernel
theorem dL_writes_262 : decode cL_writes 262 = .ok (.sipush 256, 3) := by decide +kernel
theorem dL_writes_265 : decode cL_writes 265 = .ok (.iload 10, 2) := by decide +kernel
theorem dL_writes_267 : decode cL_writes 267 = .ok (.imul, 1) := by decide +kernel
theorem dL_writes_268 : decode cL_writes 268 = .ok (.iadd, 1) := by decide +kernel
theorem dL_writes_269 : decode cL_writes 269 = .ok (.sipush 16384, 3) := by decide +kernel
theorem dL_writes_272 : decode cL_writes 272 = .ok (.iload 11, 2) := by decide +kernel
theorem dL_writes_274 : decode cL_writes 274 = .ok (.imul, 1) := by decide +kernel
theorem dL_writes_275 : decode cL_writes 275 = .ok (.iadd, 1) := by decide +kernel
theorem dL_writes_276 : decode cL_writes 276 = .ok (.iastore, 1) := by decide +kernel
theorem dL_writes_277 : decode cL_writes 277 = .ok (.aload 4, 2) := by decide +kernel
theorem dL_writes_279 : decode cL_writes 279 = .ok (.iload 7, 2) := by decide +kernel
theorem dL_writes_281 : decode cL_writes 281 = .ok (.dup2, 1) := by decide +kernel
theorem dL_writes_282 : decode cL_writes 282 = .ok (.iaload, 1) := by decide +kernel
theorem dL_writes_283 : decode cL_writes 283 = .ok (.iconst 1, 1) := by decide +kernel
theorem dL_writes_284 : decode cL_writes 284 = .ok (.iadd, 1) := by decide +kernel
theorem dL_writes_285 : decode cL_writes 285 = .ok (.iastore, 1) := by decide +kernel
theorem dL_writes_286 : decode cL_writes 286 = .ok (.aload_n 0, 1) := by decide +kernel
theorem dL_writes_287 : decode cL_writes 287 = .ok (.iload 7, 2) := by decide +kernel
theorem dL_writes_289 : decode cL_writes 289 = .ok (.iload 8, 2) := by decide +kernel
theorem dL_writes_291 : decode cL_writes 291 = .ok (.iload 9, 2) := by decide +kernel
theorem dL_writes_293 : decode cL_writes 293 = .ok (.iload 10, 2) := by decide +kernel
theorem dL_writes_295 : decode cL_writes 295 = .ok (.iload 11, 2) := by decide +kernel
theorem dL_writes_297 : decode cL_writes 297 = .ok (.invokestatic 81, 3) := by decide +kernel
theorem dL_writes_300 : decode cL_writes 300 = .ok (.aload 4, 2) := by decide +kernel
theorem dL_writes_302 : decode cL_writes 302 = .ok (.iload 7, 2) := by decide +kernel
theorem dL_writes_304 : decode cL_writes 304 = .ok (.iaload, 1) := by decide +kernel
theorem dL_writes_305 : decode cL_writes 305 = .ok (.if_icmp .ne 7, 3) := by decide +kernel
theorem dL_writes_308 : decode cL_writes 308 = .ok (.iconst 1, 1) := by decide +kernel
theorem dL_writes_309 : decode cL_writes 309 = .ok (.goto 4, 3) := by decide +kernel
theorem dL_writes_312 : decode cL_writes 312 = .ok (.iconst 0, 1) := by decide +kernel
theorem dL_writes_313 : decode cL_writes 313 = .ok (.ireturn, 1) := by decide +kernel
theorem dL_writes_314 : decode cL_writes 314 = .ok (.iload_n 3, 1) := by decide +kernel
theorem dL_writes_315 : decode cL_writes 315 = .ok (.bipush 24, 2) := by decide +kernel
theorem dL_writes_317 : decode cL_writes 317 = .ok (.iand, 1) := by decide +kernel
theorem dL_writes_318 : decode cL_writes 318 = .ok (.ifCond .ne 21, 3) := by decide +kernel
theorem dL_writes_321 : decode cL_writes 321 = .ok (.iload_n 3, 1) := by decide +kernel
theorem dL_writes_322 : decode cL_writes 322 = .ok (.iconst 5, 1) := by decide +kernel
theorem dL_writes_323 : decode cL_writes 323 = .ok (.ishr, 1) := by decide +kernel
theorem dL_writes_324 : decode cL_writes 324 = .ok (.bipush 64, 2) := by decide +kernel
theorem dL_writes_326 : decode cL_writes 326 = .ok (.invokestatic 75, 3) := by decide +kernel
theorem dL_writes_329 : decode cL_writes 329 = .ok (.iconst 1, 1) := by decide +kernel
theorem dL_writes_330 : decode cL_writes 330 = .ok (.iload 7, 2) := by decide +kernel
theorem dL_writes_332 : decode cL_writes 332 = .ok (.ishl, 1) := by decide +kernel
theorem dL_writes_333 : decode cL_writes 333 = .ok (.iconst (-1), 1) := by decide +kernel
theorem dL_writes_334 : decode cL_writes 334 = .ok (.ixor, 1) := by decide +kernel
theorem dL_writes_335 : decode cL_writes 335 = .ok (.iand, 1) := by decide +kernel
theorem dL_writes_336 : decode cL_writes 336 = .ok (.goto 25, 3) := by decide +kernel
theorem dL_writes_339 : decode cL_writes 339 = .ok (.iload_n 3, 1) := by decide +kernel
theorem dL_writes_340 : decode cL_writes 340 = .ok (.bipush 24, 2) := by decide +kernel
theorem dL_writes_342 : decode cL_writes 342 = .ok (.iand, 1) := by decide +kernel
theorem dL_writes_343 : decode cL_writes 343 = .ok (.bipush 8, 2) := by decide +kernel
theorem dL_writes_345 : decode cL_writes 345 = .ok (.if_icmp .ne 15, 3) := by decide +kernel
theorem dL_writes_348 : decode cL_writes 348 = .ok (.iconst 1, 1) := by decide +kernel
theorem dL_writes_349 : decode cL_writes 349 = .ok (.iload 7, 2) := by decide +kernel
theorem dL_writes_351 : decode cL_writes 351 = .ok (.iconst 1, 1) := by decide +kernel
theorem dL_writes_352 : decode cL_writes 352 = .ok (.iadd, 1) := by decide +kernel
theorem dL_writes_353 : decode cL_writes 353 = .ok (.bipush 6, 2) := by decide +kernel
theorem dL_writes_355 : decode cL_writes 355 = .ok (.irem, 1) := by decide +kernel
theorem dL_writes_356 : decode cL_writes 356 = .ok (.ishl, 1) := by decide +kernel
theorem dL_writes_357 : decode cL_writes 357 = .ok (.goto 4, 3) := by decide +kernel
theorem dL_writes_360 : decode cL_writes 360 = .ok (.iconst 0, 1) := by decide +kernel
theorem dL_writes_361 : decode cL_writes 361 = .ok (.istore 8, 2) := by decide +kernel
theorem dL_writes_363 : decode cL_writes 363 = .ok (.iload_n 3, 1) := by decide +kernel
theorem dL_writes_364 : decode cL_writes 364 = .ok (.bipush 96, 2) := by decide +kernel
theorem dL_writes_366 : decode cL_writes 366 = .ok (.iand, 1) := by decide +kernel
theorem dL_writes_367 : decode cL_writes 367 = .ok (.ifCond .ne 22, 3) := by decide +kernel
theorem dL_writes_370 : decode cL_writes 370 = .ok (.iload_n 3, 1) := by decide +kernel
theorem dL_writes_371 : decode cL_writes 371 = .ok (.bipush 12, 2) := by decide +kernel
theorem dL_writes_373 : decode cL_writes 373 = .ok (.ishr, 1) := by decide +kernel
theorem dL_writes_374 : decode cL_writes 374 = .ok (.bipush 64, 2) := by decide +kernel
theorem dL_writes_376 : decode cL_writes 376 = .ok (.invokestatic 75, 3) := by decide +kernel
theorem dL_writes_379 : decode cL_writes 379 = .ok (.iconst 1, 1) := by decide +kernel
theorem dL_writes_380 : decode cL_writes 380 = .ok (.iload 7, 2) := by decide +kernel
theorem dL_writes_382 : decode cL_writes 382 = .ok (.ishl, 1) := by decide +kernel
theorem dL_writes_383 : decode cL_writes 383 = .ok (.iconst (-1), 1) := by decide +kernel
theorem dL_writes_384 : decode cL_writes 384 = .ok (.ixor, 1) := by decide +kernel
theorem dL_writes_385 : decode cL_writes 385 = .ok (.iand, 1) := by decide +kernel
theorem dL_writes_386 : decode cL_writes 386 = .ok (.goto 4, 3) := by decide +kernel
theorem dL_writes_389 : decode cL_writes 389 = .ok (.iconst 0, 1) := by decide +kernel
theorem dL_writes_390 : decode cL_writes 390 = .ok (.istore 9, 2) := by decide +kernel
theorem dL_writes_392 : decode cL_writes 392 = .ok (.aload 5, 2) := by decide +kernel
theorem dL_writes_394 : decode cL_writes 394 = .ok (.iload 7, 2) := by decide +kernel
theorem dL_writes_396 : decode cL_writes 396 = .ok (.iload 8, 2) := by decide +kernel
theorem dL_writes_398 : decode cL_writes 398 = .ok (.sipush 1024, 3) := by decide +kernel
theorem dL_writes_401 : decode cL_writes 401 = .ok (.iload 9, 2) := by decide +kernel
theorem dL_writes_403 : decode cL_writes 403 = .ok (.imul, 1) := by decide +kernel
theorem dL_writes_404 : decode cL_writes 404 = .ok (.iadd, 1) := by decide +kernel
theorem dL_writes_405 : decode cL_writes 405 = .ok (.iastore, 1) := by decide +kernel
theorem dL_writes_406 : decode cL_writes 406 = .ok (.aload_n 0, 1) := by decide +kernel
theorem dL_writes_407 : decode cL_writes 407 = .ok (.bipush 10, 2) := by decide +kernel
theorem dL_writes_409 : decode cL_writes 409 = .ok (.iconst 0, 1) := by decide +kernel
theorem dL_writes_410 : decode cL_writes 410 = .ok (.iconst 0, 1) := by decide +kernel
theorem dL_writes_411 : decode cL_writes 411 = .ok (.invokestatic 85, 3) := by decide +kernel
theorem dL_writes_414 : decode cL_writes 414 = .ok (.bipush (-72), 2) := by decide +kernel
theorem dL_writes_416 : decode cL_writes 416 = .ok (.if_icmp .ne 80, 3) := by decide +kernel
theorem dL_writes_419 : decode cL_writes 419 = .ok (.aload_n 0, 1) := by decide +kernel
theorem dL_writes_420 : decode cL_writes 420 = .ok (.iload 7, 2) := by decide +kernel
theorem dL_writes_422 : decode cL_writes 422 = .ok (.sipush 1024, 3) := by decide +kernel
theorem dL_writes_425 : decode cL_writes 425 = .ok (.iconst 0, 1) := by decide +kernel
theorem dL_writes_426 : decode cL_writes 426 = .ok (.invokestatic 85, 3) := by decide +kernel
theorem dL_writes_429 : decode cL_writes 429 = .ok (.bipush (-72), 2) := by decide +kernel
theorem dL_writes_431 : decode cL_writes 431 = .ok (.if_icmp .ne 65, 3) := by decide +kernel
theorem dL_writes_434 : decode cL_writes 434 = .ok (.aload_n 0, 1) := by decide +kernel
theorem dL_writes_435 : decode cL_writes 435 = .ok (.iload 7, 2) := by decide +kernel
theorem dL_writes_437 : decode cL_writes 437 = .ok (.iconst 0, 1) := by decide +kernel
theorem dL_writes_438 : decode cL_writes 438 = .ok (.iconst (-1), 1) := by decide +kernel
theorem dL_writes_439 : decode cL_writes 439 = .ok (.invokestatic 85, 3) := by decide +kernel
theorem dL_writes_442 : decode cL_writes 442 = .ok (.bipush (-72), 2) := by decide +kernel
theorem dL_writes_444 : decode cL_writes 444 = .ok (.if_icmp .ne 52, 3) := by decide +kernel
theorem dL_writes_447 : decode cL_writes 447 = .ok (.aload_n 0, 1) := by decide +kernel
theorem dL_writes_448 : decode cL_writes 448 = .ok (.iload 7, 2) := by decide +kernel
theorem dL_writes_450 : decode cL_writes 450 = .ok (.iconst 1, 1) := by decide +kernel
theorem dL_writes_451 : decode cL_writes 451 = .ok (.iload 7, 2) := by decide +kernel
theorem dL_writes_453 : decode cL_writes 453 = .ok (.ishl, 1) := by decide +kernel
theorem dL_writes_454 : decode cL_writes 454 = .ok (.iconst 0, 1) := by decide +kernel
theorem dL_writes_455 : decode cL_writes 455 = .ok (.invokestatic 85, 3) := by decide +kernel
theorem dL_writes_458 : decode cL_writes 458 = .ok (.bipush (-72), 2) := by decide +kernel
theorem dL_writes_460 : decode cL_writes 460 = .ok (.if_icmp .ne 36, 3) := by decide +kernel
theorem dL_writes_463 : decode cL_writes 463 = .ok (.aload_n 0, 1) := by decide +kernel
theorem dL_writes_464 : decode cL_writes 464 = .ok (.iload 7, 2) := by decide +kernel
theorem dL_writes_466 : decode cL_writes 466 = .ok (.iconst 0, 1) := by decide +kernel
theorem dL_writes_467 : decode cL_writes 467 = .ok (.iconst 1, 1) := by decide +kernel
theorem dL_writes_468 : decode cL_writes 468 = .ok (.iload 7, 2) := by decide +kernel
theorem dL_writes_470 : decode cL_writes 470 = .ok (.ishl, 1) := by decide +kernel
theorem dL_writes_471 : decode cL_writes 471 = .ok (.invokestatic 85, 3) := by decide +kernel
theorem dL_writes_474 : decode cL_writes 474 = .ok (.bipush (-72), 2) := by decide +kernel
theorem dL_writes_476 : decode cL_writes 476 = .ok (.if_icmp .ne 20, 3) := by decide +kernel
theorem dL_writes_479 : decode cL_writes 479 = .ok (.aload_n 0, 1) := by decide +kernel
theorem dL_writes_480 : decode cL_writes 480 = .ok (.iload 7, 2) := by decide +kernel
theorem dL_writes_482 : decode cL_writes 482 = .ok (.iload 8, 2) := by decide +kernel
theorem dL_writes_484 : decode cL_writes 484 = .ok (.iload 9, 2) := by decide +kernel
theorem dL_writes_486 : decode cL_writes 486 = .ok (.invokestatic 85, 3) := by decide +kernel
theorem dL_writes_489 : decode cL_writes 489 = .ok (.ifCond .ne 7, 3) := by decide +kernel
theorem dL_writes_492 : decode cL_writes 492 = .ok (.iconst 1, 1) := by decide +kernel
theorem dL_writes_493 : decode cL_writes 493 = .ok (.goto 4, 3) := by decide +kernel
theorem dL_writes_496 : decode cL_writes 496 = .ok (.iconst 0, 1) := by decide +kernel
theorem dL_writes_497 : decode cL_writes 497 = .ok (.ireturn, 1) := by decide +kernel
theorem dL_reason_0 : decode cL_reason 0 = .ok (.aload_n 2, 1) := by decide +kernel
theorem dL_reason_1 : decode cL_reason 1 = .ok (.iload_n 3, 1) := by decide +kernel
theorem dL_reason_2 : decode cL_reason 2 = .ok (.iaload, 1) := by decide +kernel
theorem dL_reason_3 : decode cL_reason 3 = .ok (.iconst 4, 1) := by decide +kernel
theorem dL_reason_4 : decode cL_reason 4 = .ok (.if_icmp .ne 5, 3) := by decide +kernel
theorem dL_reason_7 : decode cL_reason 7 = .ok (.iconst 1, 1) := by decide +kernel
theorem dL_reason_8 : decode cL_reason 8 = .ok (.ireturn, 1) := by decide +kernel
theorem dL_reason_9 : decode cL_reason 9 = .ok (.iconst 0, 1) := by decide +kernel
theorem dL_reason_10 : decode cL_reason 10 = .ok (.istore 4, 2) := by decide +kernel
theorem dL_reason_12 : decode cL_reason 12 = .ok (.iconst 1, 1) := by decide +kernel
theorem dL_reason_13 : decode cL_reason 13 = .ok (.istore 5, 2) := by decide +kernel
theorem dL_reason_15 : decode cL_reason 15 = .ok (.iconst 0, 1) := by decide +kernel
theorem dL_reason_16 : decode cL_reason 16 = .ok (.istore 6, 2) := by decide +kernel
theorem dL_reason_18 : decode cL_reason 18 = .ok (.iload 6, 2) := by decide +kernel
theorem dL_reason_20 : decode cL_reason 20 = .ok (.bipush 6, 2) := by decide +kernel
theorem dL_reason_22 : decode cL_reason 22 = .ok (.if_icmp .ge 55, 3) := by decide +kernel
theorem dL_reason_25 : decode cL_reason 25 = .ok (.aload_n 1, 1) := by decide +kernel
theorem dL_reason_26 : decode cL_reason 26 = .ok (.bipush 6, 2) := by decide +kernel
theorem dL_reason_28 : decode cL_reason 28 = .ok (.iload_n 3, 1) := by decide +kernel
theorem dL_reason_29 : decode cL_reason 29 = .ok (.imul, 1) := by decide +kernel
theorem dL_reason_30 : decode cL_reason 30 = .ok (.iload 6, 2) := by decide +kernel
theorem dL_reason_32 : decode cL_reason 32 = .ok (.iadd, 1) := by decide +kernel
theorem dL_reason_33 : decode cL_reason 33 = .ok (.iaload, 1) := by decide +kernel
theorem dL_reason_34 : decode cL_reason 34 = .ok (.istore 7, 2) := by decide +kernel
theorem dL_reason_36 : decode cL_reason 36 = .ok (.iload 7, 2) := by decide +kernel
theorem dL_reason_38 : decode cL_reason 38 = .ok (.ifCond .ne 6, 3) := by decide +kernel
theorem dL_reason_41 : decode cL_reason 41 = .ok (.goto 30, 3) := by decide +kernel
theorem dL_reason_44 : decode cL_reason 44 = .ok (.iload 4, 2) := by decide +kernel
theorem dL_reason_46 : decode cL_reason 46 = .ok (.iconst 1, 1) := by decide +kernel
theorem dL_reason_47 : decode cL_reason 47 = .ok (.iload 6, 2) := by decide +kernel
theorem dL_reason_49 : decode cL_reason 49 = .ok (.ishl, 1) := by decide +kernel
theorem dL_reason_50 : decode cL_reason 50 = .ok (.ior, 1) := by decide +kernel
theorem dL_reason_51 : decode cL_reason 51 = .ok (.istore 4, 2) := by decide +kernel
theorem dL_reason_53 : decode cL_reason 53 = .ok (.iload 5, 2) := by decide +kernel
theorem dL_reason_55 : decode cL_reason 55 = .ok (.iload 7, 2) := by decide +kernel
theorem dL_reason_57 : decode cL_reason 57 = .ok (.iconst 4, 1) := by decide +kernel
theorem dL_reason_58 : decode cL_reason 58 = .ok (.ishr, 1) := by decide +kernel
theorem dL_reason_59 : decode cL_reason 59 = .ok (.iconst 5, 1) := by decide +kernel
theorem dL_reason_60 : decode cL_reason 60 = .ok (.if_icmp .ne 7, 3) := by decide +kernel
theorem dL_reason_63 : decode cL_reason 63 = .ok (.iconst 1, 1) := by decide +kernel
theorem dL_reason_64 : decode cL_reason 64 = .ok (.goto 4, 3) := by decide +kernel
theorem dL_reason_67 : decode cL_reason 67 = .ok (.iconst 0, 1) := by decide +kernel
theorem dL_reason_68 : decode cL_reason 68 = .ok (.iand, 1) := by decide +kernel
theorem dL_reason_69 : decode cL_reason 69 = .ok (.istore 5, 2) := by decide +kernel
theorem dL_reason_71 : decode cL_reason 71 = .ok (.iinc 6 1, 3) := by decide +kernel
theorem dL_reason_74 : decode cL_reason 74 = .ok (.goto (-56), 3) := by decide +kernel
theorem dL_reason_77 : decode cL_reason 77 = .ok (.iload 4, 2) := by decide +kernel
theorem dL_reason_79 : decode cL_reason 79 = .ok (.ifCond .ne 5, 3) := by decide +kernel
theorem dL_reason_82 : decode cL_reason 82 = .ok (.iconst 2, 1) := by decide +kernel
theorem dL_reason_83 : decode cL_reason 83 = .ok (.ireturn, 1) := by decide +kernel
theorem dL_reason_84 : decode cL_reason 84 = .ok (.iload 5, 2) := by decide +kernel
theorem dL_reason_86 : decode cL_reason 86 = .ok (.ifCond .ne 5, 3) := by decide +kernel
theorem dL_reason_89 : decode cL_reason 89 = .ok (.iconst 3, 1) := by decide +kernel
theorem dL_reason_90 : decode cL_reason 90 = .ok (.ireturn, 1) := by decide +kernel
theorem dL_reason_91 : decode cL_reason 91 = .ok (.iconst 0, 1) := by decide +kernel
theorem dL_reason_92 : decode cL_reason 92 = .ok (.istore 6, 2) := by decide +kernel
theorem dL_reason_94 : decode cL_reason 94 = .ok (.iconst 0, 1) := by decide +kernel
theorem dL_reason_95 : decode cL_reason 95 = .ok (.istore 7, 2) := by decide +kernel
theorem dL_reason_97 : decode cL_reason 97 = .ok (.iconst 0, 1) := by decide +kernel
theorem dL_reason_98 : decode cL_reason 98 = .ok (.istore 8, 2) := by decide +kernel
theorem dL_reason_100 : decode cL_reason 100 = .ok (.iload 8, 2) := by decide +kernel
theorem dL_reason_102 : decode cL_reason 102 = .ok (.bipush 6, 2) := by decide +kernel
theorem dL_reason_104 : decode cL_reason 104 = .ok (.if_icmp .ge 71, 3) := by decide +kernel
theorem dL_reason_107 : decode cL_reason 107 = .ok (.iload 4, 2) := by decide +kernel
theorem dL_reason_109 : decode cL_reason 109 = .ok (.iload 8, 2) := by decide +kernel
theorem dL_reason_111 : decode cL_reason 111 = .ok (.ishr, 1) := by decide +kernel
theorem dL_reason_112 : decode cL_reason 112 = .ok (.iconst 1, 1) := by decide +kernel
theorem dL_reason_113 : decode cL_reason 113 = .ok (.iand, 1) := by decide +kernel
theorem dL_reason_114 : decode cL_reason 114 = .ok (.ifCond .ne 6, 3) := by decide +kernel
theorem dL_reason_117 : decode cL_reason 117 = .ok (.goto 52, 3) := by decide +kernel
theorem dL_reason_120 : decode cL_reason 120 = .ok (.iload 6, 2) := by decide +kernel
theorem dL_reason_122 : decode cL_reason 122 = .ok (.aload_n 0, 1) := by decide +kernel
theorem dL_reason_123 : decode cL_reason 123 = .ok (.iload 8, 2) := by decide +kernel
theorem dL_reason_125 : decode cL_reason 125 = .ok (.iaload, 1) := by decide +kernel
theorem dL_reason_126 : decode cL_reason 126 = .ok (.sipush 1023, 3) := by decide +kernel
theorem dL_reason_129 : decode cL_reason 129 = .ok (.iand, 1) := by decide +kernel
theorem dL_reason_130 : decode cL_reason 130 = .ok (.iload 4, 2) := by decide +kernel
theorem dL_reason_132 : decode cL_reason 132 = .ok (.iconst (-1), 1) := by decide +kernel
theorem dL_reason_133 : decode cL_reason 133 = .ok (.ixor, 1) := by decide +kernel
theorem dL_reason_134 : decode cL_reason 134 = .ok (.iand, 1) := by decide +kernel
theorem dL_reason_135 : decode cL_reason 135 = .ok (.ifCond .eq 7, 3) := by decide +kernel
theorem dL_reason_138 : decode cL_reason 138 = .ok (.iconst 1, 1) := by decide +kernel
theorem dL_reason_139 : decode cL_reason 139 = .ok (.goto 4, 3) := by decide +kernel
theorem dL_reason_142 : decode cL_reason 142 = .ok (.iconst 0, 1) := by decide +kernel
theorem dL_reason_143 : decode cL_reason 143 = .ok (.ior, 1) := by decide +kernel
theorem dL_reason_144 : decode cL_reason 144 = .ok (.istore 6, 2) := by decide +kernel
theorem dL_reason_146 : decode cL_reason 146 = .ok (.iload 7, 2) := by decide +kernel
theorem dL_reason_148 : decode cL_reason 148 = .ok (.aload_n 0, 1) := by decide +kernel
theorem dL_reason_149 : decode cL_reason 149 = .ok (.iload 8, 2) := by decide +kernel
theorem dL_reason_151 : decode cL_reason 151 = .ok (.iaload, 1) := by decide +kernel
theorem dL_reason_152 : decode cL_reason 152 = .ok (.bipush 10, 2) := by decide +kernel
theorem dL_reason_154 : decode cL_reason 154 = .ok (.ishr, 1) := by decide +kernel
theorem dL_reason_155 : decode cL_reason 155 = .ok (.iload 4, 2) := by decide +kernel
theorem dL_reason_157 : decode cL_reason 157 = .ok (.iand, 1) := by decide +kernel
theorem dL_reason_158 : decode cL_reason 158 = .ok (.ifCond .eq 7, 3) := by decide +kernel
theorem dL_reason_161 : decode cL_reason 161 = .ok (.iconst 1, 1) := by decide +kernel
theorem dL_reason_162 : decode cL_reason 162 = .ok (.goto 4, 3) := by decide +kernel
theorem dL_reason_165 : decode cL_reason 165 = .ok (.iconst 0, 1) := by decide +kernel
theorem dL_reason_166 : decode cL_reason 166 = .ok (.ior, 1) := by decide +kernel
theorem dL_reason_167 : decode cL_reason 167 = .ok (.istore 7, 2) := by decide +kernel
theorem dL_reason_169 : decode cL_reason 169 = .ok (.iinc 8 1, 3) := by decide +kernel
theorem dL_reason_172 : decode cL_reason 172 = .ok (.goto (-72), 3) := by decide +kernel
theorem dL_reason_175 : decode cL_reason 175 = .ok (.iload 6, 2) := by decide +kernel
theorem dL_reason_177 : decode cL_reason 177 = .ok (.ifCond .eq 7, 3) := by decide +kernel
theorem dL_reason_180 : decode cL_reason 180 = .ok (.iconst 4, 1) := by decide +kernel
theorem dL_reason_181 : decode cL_reason 181 = .ok (.goto 13, 3) := by decide +kernel
theorem dL_reason_184 : decode cL_reason 184 = .ok (.iload 7, 2) := by decide +kernel
theorem dL_reason_186 : decode cL_reason 186 = .ok (.ifCond .eq 7, 3) := by decide +kernel
theorem dL_reason_189 : decode cL_reason 189 = .ok (.iconst 5, 1) := by decide +kernel
theorem dL_reason_190 : decode cL_reason 190 = .ok (.goto 4, 3) := by decide +kernel
theorem dL_reason_193 : decode cL_reason 193 = .ok (.iconst 0, 1) := by decide +kernel
theorem dL_reason_194 : decode cL_reason 194 = .ok (.ireturn, 1) := by decide +kernel
set_option maxRecDepth 20000 in
theorem ggL_drafts_L_low : GoodIn wsL_drafts wsL_low := goodIn_r _ [5] (by decide +kernel) (by decide +kernel)
set_option maxRecDepth 20000 in
theorem gL_drafts_L_low : GoodIn wsL_drafts (va_wsS RL 75 yL_low wsL_low) := goodIn_app (goodIn_of _ (by decide +kernel)) ggL_drafts_L_low
set_option maxRecDepth 20000 in
theorem ggL_drafts_L_begin : GoodIn wsL_drafts wsL_begin := goodIn_ca (goodIn_r _ [8, 9, 10, 11, 12, 13, 14, 15, 16, 17, 18, 19, 20, 21, 22, 23, 24, 25, 26, 27, 28, 29, 30, 31, 32, 33, 34, 35, 36, 37, 38, 39, 40, 41, 42, 43, 44, 45, 46, 47, 48, 49, 50, 51, 52, 53, 54, 55, 56, 57, 58, 59, 60, 61, 62, 63, 64, 65, 66, 67, 68, 69, 70, 71, 72, 73, 74, 75, 76, 77, 78, 79, 80, 81, 82, 83, 84, 85, 86, 87, 88, 89, 90, 91, 92, 93, 94, 258, 259, 260, 261, 262, 263, 264, 265, 266, 267, 268, 269, 270, 271] (by decide +kernel) (by decide +kernel)) (goodIn_sub (fun _ h => List.mem_cons_of_mem _ (List.mem_append_left _ (List.mem_append_left _ (List.mem_append_right _ h)))) (by decide +kernel))
set_option maxRecDepth 20000 in
theorem gL_drafts_L_begin : GoodIn wsL_drafts (va_wsS RL 88 yL_begin wsL_begin) := goodIn_app (goodIn_of _ (by decide +kernel)) ggL_drafts_L_begin
set_option maxRecDepth 20000 in
theorem ggL_drafts_L_mark : GoodIn wsL_drafts wsL_mark := goodIn_ca (goodIn_ca (goodIn_ca (goodIn_r _ [97, 98, 99, 9, 100, 101, 102, 13, 103, 104, 105, 15, 16, 106, 107, 108, 109, 110, 111, 112, 113, 114, 17, 115, 21, 22, 23, 24, 25, 26, 116, 117, 118, 119, 120, 121, 122, 123, 124, 125, 126, 127, 128, 129, 130, 131, 132, 133, 134, 47, 135, 136, 137, 138, 139, 140, 141, 142, 143, 144, 145, 146, 20, 147, 38, 148, 149, 150, 151, 33, 36, 152, 153, 154, 155, 156, 157, 158, 159, 264, 265, 266, 267, 268, 258, 259, 260, 261, 262, 263, 269, 270, 271] (by decide +kernel) (by decide +kernel)) (goodIn_sub (fun _ h => List.mem_cons_of_mem _ (List.mem_append_left _ (List.mem_append_right _ h))) (by decide +kernel))) (goodIn_sub (fun _ h => List.mem_cons_of_mem _ (List.mem_append_left _ (List.mem_append_left _ (List.mem_append_right _ h)))) (by decide +kernel))) (goodIn_sub (fun _ h => List.mem_cons_of_mem _ (List.mem_append_right _ h)) (by decide +kernel))
set_option maxRecDepth 20000 in
theorem gL_drafts_L_mark : GoodIn wsL_drafts (va_wsS RL 91 yL_mark wsL_mark) := goodIn_app (goodIn_of _ (by decide +kernel)) ggL_drafts_L_mark
set_option maxRecDepth 20000 in
theorem ggL_drafts_L_renew : GoodIn wsL_drafts wsL_renew := goodIn_ca (goodIn_ca (goodIn_ca (goodIn_r _ [162, 98, 99, 9, 163, 164, 165, 13, 166, 15, 16, 107, 109, 110, 111, 112, 113, 114, 17, 115, 21, 22, 23, 24, 25, 26, 116, 117, 118, 119, 120, 121, 122, 123, 124, 125, 126, 127, 128, 129, 130, 131, 132, 133, 134, 47, 135, 136, 137, 104, 105, 138, 139, 140, 141, 142, 143, 144, 145, 146, 20, 147, 38, 167, 168, 169, 170, 106, 171, 172, 173, 174, 175, 176, 177, 178, 179, 180, 181, 148, 149, 150, 151, 33, 36, 152, 153, 154, 155, 258, 259, 260, 261, 262, 263, 269, 270, 271, 264, 265, 266, 267, 268, 272, 273, 274, 275, 276] (by decide +kernel) (by decide +kernel)) (goodIn_sub (fun _ h => List.mem_cons_of_mem _ (List.mem_append_left _ (List.mem_append_left _ (List.mem_append_right _ h)))) (by decide +kernel))) (goodIn_sub (fun _ h => List.mem_cons_of_mem _ (List.mem_append_right _ h)) (by decide +kernel))) (goodIn_sub (fun _ h => List.mem_cons_of_mem _ (List.mem_append_left _ (List.mem_append_right _ h))) (by decide +kernel))
set_option maxRecDepth 20000 in
theorem gL_drafts_L_renew : GoodIn wsL_drafts (va_wsS RL 94 yL_renew wsL_renew) := goodIn_app (goodIn_of _ (by decide +kernel)) ggL_drafts_L_renew
set_option maxRecDepth 20000 in
theorem ggL_drafts_L_sign : GoodIn wsL_drafts wsL_sign := goodIn_ca (goodIn_ca (goodIn_ca (goodIn_r _ [184, 98, 99, 9, 185, 186, 187, 13, 188, 15, 16, 189, 109, 110, 111, 112, 113, 114, 17, 115, 21, 22, 23, 24, 25, 26, 116, 117, 118, 119, 120, 121, 122, 123, 124, 125, 126, 127, 128, 129, 130, 131, 132, 133, 134, 47, 135, 136, 137, 104, 105, 190, 191, 192, 193, 194, 195, 196, 197, 198, 20, 199, 33, 144, 145, 146, 147, 38, 200, 201, 202, 203, 36, 204, 205, 206, 207, 208, 209, 210, 106, 211, 212, 213, 214, 215, 216, 217, 218, 219, 220, 30, 31, 221, 222, 223, 224, 41, 42, 43, 44, 45, 46, 48, 49, 50, 51, 52, 53, 54, 55, 56, 57, 58, 59, 60, 61, 62, 63, 64, 65, 66, 67, 68, 69, 70, 71, 72, 73, 74, 75, 76, 77, 78, 79, 80, 81, 82, 83, 84, 85, 86, 87, 88, 89, 90, 91, 92, 93, 94, 264, 265, 266, 267, 268, 258, 259, 260, 261, 262, 263, 269, 270, 271, 277, 278, 279, 280, 272, 273, 274, 275, 276] (by decide +kernel) (by decide +kernel)) (goodIn_sub (fun _ h => List.mem_cons_of_mem _ (List.mem_append_left _ (List.mem_append_left _ (List.mem_append_right _ h)))) (by decide +kernel))) (goodIn_sub (fun _ h => List.mem_cons_of_mem _ (List.mem_append_right _ h)) (by decide +kernel))) (goodIn_sub (fun _ h => List.mem_cons_of_mem _ (List.mem_append_left _ (List.mem_append_right _ h))) (by decide +kernel))
set_option maxRecDepth 20000 in
theorem gL_drafts_L_sign : GoodIn wsL_drafts (va_wsS RL 96 yL_sign wsL_sign) := goodIn_app (goodIn_of _ (by decide +kernel)) ggL_drafts_L_sign
set_option maxRecDepth 20000 in
theorem ggL_drafts_L_version : GoodIn wsL_drafts wsL_version := goodIn_ca (goodIn_ca (goodIn_r _ [227, 98, 99, 228, 229, 230, 13, 231, 109, 110, 111, 112, 113, 114, 17, 115, 21, 22, 23, 24, 25, 26, 116, 117, 118, 119, 120, 121, 122, 123, 124, 125, 126, 127, 128, 129, 130, 131, 132, 133, 134, 47, 138, 139, 140, 104, 105, 171, 172, 173, 106, 174, 175, 176, 177, 258, 259, 260, 261, 262, 263, 269, 270, 271, 264, 265, 266, 267, 268, 272, 273, 274, 275, 276] (by decide +kernel) (by decide +kernel)) (goodIn_sub (fun _ h => List.mem_cons_of_mem _ (List.mem_append_right _ h)) (by decide +kernel))) (goodIn_sub (fun _ h => List.mem_cons_of_mem _ (List.mem_append_left _ (List.mem_append_right _ h))) (by decide +kernel))
set_option maxRecDepth 20000 in
theorem gL_drafts_L_version : GoodIn wsL_drafts (va_wsS RL 99 yL_version wsL_version) := goodIn_app (goodIn_of _ (by decide +kernel)) ggL_drafts_L_version
set_option maxRecDepth 20000 in
theorem ggL_drafts_L_offered : GoodIn wsL_drafts wsL_offered := goodIn_ca (goodIn_r _ [234, 98, 235, 236, 237, 13, 238, 109, 110, 111, 112, 113, 114, 17, 115, 21, 22, 23, 24, 25, 26, 116, 117, 118, 119, 120, 121, 122, 123, 124, 125, 126, 127, 128, 129, 130, 131, 132, 133, 134, 47, 144, 145, 146, 20, 147, 38, 167, 168, 169, 170, 106, 171, 172, 173, 174, 175, 176, 177, 178, 179, 180, 181, 107, 258, 259, 260, 261, 262, 263, 269, 270, 271, 264, 265, 266, 267, 268, 272, 273, 274, 275, 276] (by decide +kernel) (by decide +kernel)) (goodIn_sub (fun _ h => List.mem_cons_of_mem _ (List.mem_append_right _ h)) (by decide +kernel))
set_option maxRecDepth 20000 in
theorem gL_drafts_L_offered : GoodIn wsL_drafts (va_wsS RL 101 yL_offered wsL_offered) := goodIn_app (goodIn_of _ (by decide +kernel)) ggL_drafts_L_offered
set_option maxRecDepth 20000 in
theorem ggL_drafts_L_whyNot : GoodIn wsL_drafts wsL_whyNot := goodIn_ca (goodIn_r _ [241, 98, 242, 243, 244, 13, 245, 109, 110, 111, 112, 113, 114, 17, 115, 21, 22, 23, 24, 25, 26, 116, 117, 118, 119, 120, 121, 122, 123, 124, 125, 126, 127, 128, 129, 130, 131, 132, 133, 134, 47, 190, 191, 192, 193, 194, 195, 196, 197, 198, 20, 199, 33, 144, 145, 146, 147, 38, 200, 201, 202, 203, 36, 204, 205, 206, 258, 259, 260, 261, 262, 263, 269, 270, 271, 264, 265, 266, 267, 268] (by decide +kernel) (by decide +kernel)) (goodIn_sub (fun _ h => List.mem_cons_of_mem _ (List.mem_append_right _ h)) (by decide +kernel))
set_option maxRecDepth 20000 in
theorem gL_drafts_L_whyNot : GoodIn wsL_drafts (va_wsS RL 104 yL_whyNot wsL_whyNot) := goodIn_app (goodIn_of _ (by decide +kernel)) ggL_drafts_L_whyNot
set_option maxRecDepth 20000 in
theorem ggL_drafts_L_owes : GoodIn wsL_drafts wsL_owes := goodIn_ca (goodIn_ca (goodIn_r _ [248, 98, 99, 249, 250, 251, 13, 252, 253, 254, 62, 63, 64, 109, 110, 111, 112, 113, 114, 17, 115, 21, 22, 23, 24, 25, 26, 116, 117, 118, 119, 120, 121, 122, 123, 124, 125, 126, 127, 128, 129, 130, 131, 132, 133, 134, 47, 135, 136, 137, 104, 105, 264, 265, 266, 267, 268, 258, 259, 260, 261, 262, 263, 269, 270, 271] (by decide +kernel) (by decide +kernel)) (goodIn_sub (fun _ h => List.mem_cons_of_mem _ (List.mem_append_right _ h)) (by decide +kernel))) (goodIn_sub (fun _ h => List.mem_cons_of_mem _ (List.mem_append_left _ (List.mem_append_right _ h))) (by decide +kernel))
set_option maxRecDepth 20000 in
theorem gL_drafts_L_owes : GoodIn wsL_drafts (va_wsS RL 106 yL_owes wsL_owes) := goodIn_app (goodIn_of _ (by decide +kernel)) ggL_drafts_L_owes
set_option maxRecDepth 20000 in
theorem ggL_drafts_L_reason : GoodIn wsL_drafts wsL_reason := goodIn_r _ [257] (by decide +kernel) (by decide +kernel)
set_option maxRecDepth 20000 in
theorem gL_drafts_L_reason : GoodIn wsL_drafts (va_wsS RL 108 yL_reason wsL_reason) := goodIn_app (goodIn_of _ (by decide +kernel)) ggL_drafts_L_reason
theorem dL_drafts_0 : decode cL_drafts 0 = .ok (.iload_n 2, 1) := by decide +kernel
theorem dL_drafts_1 : decode cL_drafts 1 = .ok (.bipush 96, 2) := by decide +kernel
theorem dL_drafts_3 : decode cL_drafts 3 = .ok (.iand, 1) := by decide +kernel
theorem dL_drafts_4 : decode cL_drafts 4 = .ok (.ifCond .ne 19, 3) := by decide +kernel
theorem dL_drafts_7 : decode cL_drafts 7 = .ok (.iload_n 2, 1) := by decide +kernel
theorem dL_drafts_8 : decode cL_drafts 8 = .ok (.bipush 7, 2) := by decide +kernel
theorem dL_drafts_10 : decode cL_drafts 10 = .ok (.ishr, 1) := by decide +kernel
theorem dL_drafts_11 : decode cL_drafts 11 = .ok (.aload 11, 2) := by decide +kernel
theorem dL_drafts_13 : decode cL_drafts 13 = .ok (.iconst 1, 1) := by decide +kernel
theorem dL_drafts_14 : decode cL_drafts 14 = .ok (.iaload, 1) := by decide +kernel
theorem dL_drafts_15 : decode cL_drafts 15 = .ok (.iconst 1, 1) := by decide +kernel
theorem dL_drafts_16 : decode cL_drafts 16 = .ok (.iadd, 1) := by decide +kernel
theorem dL_drafts_17 : decode cL_drafts 17 = .ok (.invokestatic 75, 3) := by decide +kernel
theorem dL_drafts_20 : decode cL_drafts 20 = .ok (.goto 9, 3) := by decide +kernel
theorem dL_drafts_23 : decode cL_drafts 23 = .ok (.aload 11, 2) := by decide +kernel
theorem dL_drafts_25 : decode cL_drafts 25 = .ok (.iconst 1, 1) := by decide +kernel
theorem dL_drafts_26 : decode cL_drafts 26 = .ok (.iaload, 1) := by decide +kernel
theorem dL_drafts_27 : decode cL_drafts 27 = .ok (.iconst 1, 1) := by decide +kernel
theorem dL_drafts_28 : decode cL_drafts 28 = .ok (.isub, 1) := by decide +kernel
theorem dL_drafts_29 : decode cL_drafts 29 = .ok (.istore 12, 2) := by decide +kernel
theorem dL_drafts_31 : decode cL_drafts 31 = .ok (.iload_n 3, 1) := by decide +kernel
theorem dL_drafts_32 : decode cL_drafts 32 = .ok (.iconst 1, 1) := by decide +kernel
theorem dL_drafts_33 : decode cL_drafts 33 = .ok (.iand, 1) := by decide +kernel
theorem dL_drafts_34 : decode cL_drafts 34 = .ok (.istore 13, 2) := by decide +kernel
theorem dL_drafts_36 : decode cL_drafts 36 = .ok (.iload_n 3, 1) := by decide +kernel
theorem dL_drafts_37 : decode cL_drafts 37 = .ok (.iconst 1, 1) := by decide +kernel
theorem dL_drafts_38 : decode cL_drafts 38 = .ok (.ishr, 1) := by decide +kernel
theorem dL_drafts_39 : decode cL_drafts 39 = .ok (.iload_n 3, 1) := by decide +kernel
theorem dL_drafts_40 : decode cL_drafts 40 = .ok (.sipush 12288, 3) := by decide +kernel
theorem dL_drafts_43 : decode cL_drafts 43 = .ok (.iand, 1) := by decide +kernel
theorem dL_drafts_44 : decode cL_drafts 44 = .ok (.ifCond .ne 8, 3) := by decide +kernel
theorem dL_drafts_47 : decode cL_drafts 47 = .ok (.bipush 6, 2) := by decide +kernel
theorem dL_drafts_49 : decode cL_drafts 49 = .ok (.goto 4, 3) := by decide +kernel
theorem dL_drafts_52 : decode cL_drafts 52 = .ok (.iconst 3, 1) := by decide +kernel
theorem dL_drafts_53 : decode cL_drafts 53 = .ok (.invokestatic 75, 3) := by decide +kernel
theorem dL_drafts_56 : decode cL_drafts 56 = .ok (.istore 14, 2) := by decide +kernel
theorem dL_drafts_58 : decode cL_drafts 58 = .ok (.iload_n 1, 1) := by decide +kernel
theorem dL_drafts_59 : decode cL_drafts 59 = .ok (.ifCond .ne 54, 3) := by decide +kernel
theorem dL_drafts_62 : decode cL_drafts 62 = .ok (.aload 11, 2) := by decide +kernel
theorem dL_drafts_64 : decode cL_drafts 64 = .ok (.iconst 1, 1) := by decide +kernel
theorem dL_drafts_65 : decode cL_drafts 65 = .ok (.iaload, 1) := by decide +kernel
theorem dL_drafts_66 : decode cL_drafts 66 = .ok (.bipush 10, 2) := by decide +kernel
theorem dL_drafts_68 : decode cL_drafts 68 = .ok (.if_icmp .ne 18, 3) := by decide +kernel
theorem dL_drafts_71 : decode cL_drafts 71 = .ok (.aload_n 0, 1) := by decide +kernel
theorem dL_drafts_72 : decode cL_drafts 72 = .ok (.invokestatic 88, 3) := by decide +kernel
theorem dL_drafts_75 : decode cL_drafts 75 = .ok (.bipush (-73), 2) := by decide +kernel
theorem dL_drafts_77 : decode cL_drafts 77 = .ok (.if_icmp .ne 7, 3) := by decide +kernel
theorem dL_drafts_80 : decode cL_drafts 80 = .ok (.iconst 1, 1) := by decide +kernel
theorem dL_drafts_81 : decode cL_drafts 81 = .ok (.goto 4, 3) := by decide +kernel
theorem dL_drafts_84 : decode cL_drafts 84 = .ok (.iconst 0, 1) := by decide +kernel
theorem dL_drafts_85 : decode cL_drafts 85 = .ok (.ireturn, 1) := by decide +kernel
theorem dL_drafts_86 : decode cL_drafts 86 = .ok (.aload 11, 2) := by decide +kernel
theorem dL_drafts_88 : decode cL_drafts 88 = .ok (.iconst 1, 1) := by decide +kernel
theorem dL_drafts_89 : decode cL_drafts 89 = .ok (.dup2, 1) := by decide +kernel
theorem dL_drafts_90 : decode cL_drafts 90 = .ok (.iaload, 1) := by decide +kernel
theorem dL_drafts_91 : decode cL_drafts 91 = .ok (.iconst 1, 1) := by decide +kernel
theorem dL_drafts_92 : decode cL_drafts 92 = .ok (.iadd, 1) := by decide +kernel
theorem dL_drafts_93 : decode cL_drafts 93 = .ok (.iastore, 1) := by decide +kernel
theorem dL_drafts_94 : decode cL_drafts 94 = .ok (.aload_n 0, 1) := by decide +kernel
theorem dL_drafts_95 : decode cL_drafts 95 = .ok (.invokestatic 88, 3) := by decide +kernel
theorem dL_drafts_98 : decode cL_drafts 98 = .ok (.aload 11, 2) := by decide +kernel
theorem dL_drafts_100 : decode cL_drafts 100 = .ok (.iconst 1, 1) := by decide +kernel
theorem dL_drafts_101 : decode cL_drafts 101 = .ok (.iaload, 1) := by decide +kernel
theorem dL_drafts_102 : decode cL_drafts 102 = .ok (.iconst 1, 1) := by decide +kernel
theorem dL_drafts_103 : decode cL_drafts 103 = .ok (.isub, 1) := by decide +kernel
theorem dL_drafts_104 : decode cL_drafts 104 = .ok (.if_icmp .ne 7, 3) := by decide +kernel
theorem dL_drafts_107 : decode cL_drafts 107 = .ok (.iconst 1, 1) := by decide +kernel
theorem dL_drafts_108 : decode cL_drafts 108 = .ok (.goto 4, 3) := by decide +kernel
theorem dL_drafts_111 : decode cL_drafts 111 = .ok (.iconst 0, 1) := by decide +kernel
theorem dL_drafts_112 : decode cL_drafts 112 = .ok (.ireturn, 1) := by decide +kernel
theorem dL_drafts_113 : decode cL_drafts 113 = .ok (.iload 12, 2) := by decide +kernel
theorem dL_drafts_115 : decode cL_drafts 115 = .ok (.aload 11, 2) := by decide +kernel
theorem dL_drafts_117 : decode cL_drafts 117 = .ok (.iconst 1, 1) := by decide +kernel
theorem dL_drafts_118 : decode cL_drafts 118 = .ok (.iaload, 1) := by decide +kernel
theorem dL_drafts_119 : decode cL_drafts 119 = .ok (.if_icmp .eq 8, 3) := by decide +kernel
theorem dL_drafts_122 : decode cL_drafts 122 = .ok (.iload 12, 2) := by decide +kernel
theorem dL_drafts_124 : decode cL_drafts 124 = .ok (.ifCond .ge 103, 3) := by decide +kernel
theorem dL_drafts_127 : decode cL_drafts 127 = .ok (.aload_n 0, 1) := by decide +kernel
theorem dL_drafts_128 : decode cL_drafts 128 = .ok (.iload 12, 2) := by decide +kernel
theorem dL_drafts_130 : decode cL_drafts 130 = .ok (.iconst 2, 1) := by decide +kernel
theorem dL_drafts_131 : decode cL_drafts 131 = .ok (.iload 14, 2) := by decide +kernel
theorem dL_drafts_133 : decode cL_drafts 133 = .ok (.iconst 1, 1) := by decide +kernel
theorem dL_drafts_134 : decode cL_drafts 134 = .ok (.invokestatic 91, 3) := by decide +kernel
theorem dL_drafts_137 : decode cL_drafts 137 = .ok (.bipush (-71), 2) := by decide +kernel
theorem dL_drafts_139 : decode cL_drafts 139 = .ok (.if_icmp .ne 86, 3) := by decide +kernel
theorem dL_drafts_142 : decode cL_drafts 142 = .ok (.aload_n 0, 1) := by decide +kernel
theorem dL_drafts_143 : decode cL_drafts 143 = .ok (.aload 11, 2) := by decide +kernel
theorem dL_drafts_145 : decode cL_drafts 145 = .ok (.iconst 1, 1) := by decide +kernel
theorem dL_drafts_146 : decode cL_drafts 146 = .ok (.iaload, 1) := by decide +kernel
theorem dL_drafts_147 : decode cL_drafts 147 = .ok (.iconst 0, 1) := by decide +kernel
theorem dL_drafts_148 : decode cL_drafts 148 = .ok (.bipush 10, 2) := by decide +kernel
theorem dL_drafts_150 : decode cL_drafts 150 = .ok (.invokestatic 94, 3) := by decide +kernel
theorem dL_drafts_153 : decode cL_drafts 153 = .ok (.bipush (-71), 2) := by decide +kernel
theorem dL_drafts_155 : decode cL_drafts 155 = .ok (.if_icmp .ne 70, 3) := by decide +kernel
theorem dL_drafts_158 : decode cL_drafts 158 = .ok (.aload_n 0, 1) := by decide +kernel
theorem dL_drafts_159 : decode cL_drafts 159 = .ok (.aload 11, 2) := by decide +kernel
theorem dL_drafts_161 : decode cL_drafts 161 = .ok (.iconst 1, 1) := by decide +kernel
theorem dL_drafts_162 : decode cL_drafts 162 = .ok (.iaload, 1) := by decide +kernel
theorem dL_drafts_163 : decode cL_drafts 163 = .ok (.iconst 2, 1) := by decide +kernel
theorem dL_drafts_164 : decode cL_drafts 164 = .ok (.invokestatic 96, 3) := by decide +kernel
theorem dL_drafts_167 : decode cL_drafts 167 = .ok (.bipush (-71), 2) := by decide +kernel
theorem dL_drafts_169 : decode cL_drafts 169 = .ok (.if_icmp .ne 56, 3) := by decide +kernel
theorem dL_drafts_172 : decode cL_drafts 172 = .ok (.aload_n 0, 1) := by decide +kernel
theorem dL_drafts_173 : decode cL_drafts 173 = .ok (.iconst (-1), 1) := by decide +kernel
theorem dL_drafts_174 : decode cL_drafts 174 = .ok (.bipush 10, 2) := by decide +kernel
theorem dL_drafts_176 : decode cL_drafts 176 = .ok (.invokestatic 99, 3) := by decide +kernel
theorem dL_drafts_179 : decode cL_drafts 179 = .ok (.bipush (-71), 2) := by decide +kernel
theorem dL_drafts_181 : decode cL_drafts 181 = .ok (.if_icmp .ne 44, 3) := by decide +kernel
theorem dL_drafts_184 : decode cL_drafts 184 = .ok (.aload_n 0, 1) := by decide +kernel
theorem dL_drafts_185 : decode cL_drafts 185 = .ok (.aload 11, 2) := by decide +kernel
theorem dL_drafts_187 : decode cL_drafts 187 = .ok (.iconst 1, 1) := by decide +kernel
theorem dL_drafts_188 : decode cL_drafts 188 = .ok (.iaload, 1) := by decide +kernel
theorem dL_drafts_189 : decode cL_drafts 189 = .ok (.invokestatic 101, 3) := by decide +kernel
theorem dL_drafts_192 : decode cL_drafts 192 = .ok (.bipush (-71), 2) := by decide +kernel
theorem dL_drafts_194 : decode cL_drafts 194 = .ok (.if_icmp .ne 31, 3) := by decide +kernel
theorem dL_drafts_197 : decode cL_drafts 197 = .ok (.aload_n 0, 1) := by decide +kernel
theorem dL_drafts_198 : decode cL_drafts 198 = .ok (.iconst (-1), 1) := by decide +kernel
theorem dL_drafts_199 : decode cL_drafts 199 = .ok (.invokestatic 104, 3) := by decide +kernel
theorem dL_drafts_202 : decode cL_drafts 202 = .ok (.bipush (-71), 2) := by decide +kernel
theorem dL_drafts_204 : decode cL_drafts 204 = .ok (.if_icmp .ne 21, 3) := by decide +kernel
theorem dL_drafts_207 : decode cL_drafts 207 = .ok (.aload_n 0, 1) := by decide +kernel
theorem dL_drafts_208 : decode cL_drafts 208 = .ok (.aload 11, 2) := by decide +kernel
theorem dL_drafts_210 : decode cL_drafts 210 = .ok (.iconst 1, 1) := by decide +kernel
theorem dL_drafts_211 : decode cL_drafts 211 = .ok (.iaload, 1) := by decide +kernel
theorem dL_drafts_212 : decode cL_drafts 212 = .ok (.iconst 2, 1) := by decide +kernel
theorem dL_drafts_213 : decode cL_drafts 213 = .ok (.invokestatic 106, 3) := by decide +kernel
theorem dL_drafts_216 : decode cL_drafts 216 = .ok (.bipush (-71), 2) := by decide +kernel
theorem dL_drafts_218 : decode cL_drafts 218 = .ok (.if_icmp .ne 7, 3) := by decide +kernel
theorem dL_drafts_221 : decode cL_drafts 221 = .ok (.iconst 1, 1) := by decide +kernel
theorem dL_drafts_222 : decode cL_drafts 222 = .ok (.goto 4, 3) := by decide +kernel
theorem dL_drafts_225 : decode cL_drafts 225 = .ok (.iconst 0, 1) := by decide +kernel
theorem dL_drafts_226 : decode cL_drafts 226 = .ok (.ireturn, 1) := by decide +kernel
theorem dL_drafts_227 : decode cL_drafts 227 = .ok (.bipush 6, 2) := by decide +kernel
theorem dL_drafts_229 : decode cL_drafts 229 = .ok (.iload 12, 2) := by decide +kernel
theorem dL_drafts_231 : decode cL_drafts 231 = .ok (.imul, 1) := by decide +kernel
theorem dL_drafts_232 : decode cL_drafts 232 = .ok (.iload 14, 2) := by decide +kernel
theorem dL_drafts_234 : decode cL_drafts 234 = .ok (.iadd, 1) := by decide +kernel
theorem dL_drafts_235 : decode cL_drafts 235 = .ok (.istore 15, 2) := by decide +kernel
theorem dL_drafts_237 : decode cL_drafts 237 = .ok (.aload 7, 2) := by decide +kernel
theorem dL_drafts_239 : decode cL_drafts 239 = .ok (.iload 15, 2) := by decide +kernel
theorem dL_drafts_241 : decode cL_drafts 241 = .ok (.iaload, 1) := by decide +kernel
theorem dL_drafts_242 : decode cL_drafts 242 = .ok (.istore 16, 2) := by decide +kernel
theorem dL_drafts_244 : decode cL_drafts 244 = .ok (.iload_n 1, 1) := by decide +kernel
theorem dL_drafts_245 : decode cL_drafts 245 = .ok (.bipush 8, 2) := by decide +kernel
theorem dL_drafts_247 : decode cL_drafts 247 = .ok (.if_icmp .ge 275, 3) := by decide +kernel
theorem dL_drafts_250 : decode cL_drafts 250 = .ok (.iload_n 3, 1) := by decide +kernel
theorem dL_drafts_251 : decode cL_drafts 251 = .ok (.ldc 80, 2) := by decide +kernel
theorem dL_drafts_253 : decode cL_drafts 253 = .ok (.iand, 1) := by decide +kernel
theorem dL_drafts_254 : decode cL_drafts 254 = .ok (.ifCond .ne 7, 3) := by decide +kernel
theorem dL_drafts_257 : decode cL_drafts 257 = .ok (.iconst 2, 1) := by decide +kernel
theorem dL_drafts_258 : decode cL_drafts 258 = .ok (.goto 4, 3) := by decide +kernel
theorem dL_drafts_261 : decode cL_drafts 261 = .ok (.iconst 1, 1) := by decide +kernel
theorem dL_drafts_262 : decode cL_drafts 262 = .ok (.istore 17, 2) := by decide +kernel
theorem dL_drafts_264 : decode cL_drafts 264 = .ok (.aload_n 0, 1) := by decide +kernel
theorem dL_drafts_265 : decode cL_drafts 265 = .ok (.iload 12, 2) := by decide +kernel
theorem dL_drafts_267 : decode cL_drafts 267 = .ok (.iconst 2, 1) := by decide +kernel
theorem dL_drafts_268 : decode cL_drafts 268 = .ok (.iload 14, 2) := by decide +kernel
theorem dL_drafts_270 : decode cL_drafts 270 = .ok (.iload 17, 2) := by decide +kernel
theorem dL_drafts_272 : decode cL_drafts 272 = .ok (.invokestatic 91, 3) := by decide +kernel
theorem dL_drafts_275 : decode cL_drafts 275 = .ok (.bipush (-72), 2) := by decide +kernel
theorem dL_drafts_277 : decode cL_drafts 277 = .ok (.if_icmp .ne 68, 3) := by decide +kernel
theorem dL_drafts_280 : decode cL_drafts 280 = .ok (.aload_n 0, 1) := by decide +kernel
theorem dL_drafts_281 : decode cL_drafts 281 = .ok (.iload 12, 2) := by decide +kernel
theorem dL_drafts_283 : decode cL_drafts 283 = .ok (.iload 13, 2) := by decide +kernel
theorem dL_drafts_285 : decode cL_drafts 285 = .ok (.bipush 10, 2) := by decide +kernel
theorem dL_drafts_287 : decode cL_drafts 287 = .ok (.iload 17, 2) := by decide +kernel
theorem dL_drafts_289 : decode cL_drafts 289 = .ok (.invokestatic 91, 3) := by decide +kernel
theorem dL_drafts_292 : decode cL_drafts 292 = .ok (.bipush (-72), 2) := by decide +kernel
theorem dL_drafts_294 : decode cL_drafts 294 = .ok (.if_icmp .ne 51, 3) := by decide +kernel
theorem dL_drafts_297 : decode cL_drafts 297 = .ok (.aload_n 0, 1) := by decide +kernel
theorem dL_drafts_298 : decode cL_drafts 298 = .ok (.iload 12, 2) := by decide +kernel
theorem dL_drafts_300 : decode cL_drafts 300 = .ok (.iload 13, 2) := by decide +kernel
theorem dL_drafts_302 : decode cL_drafts 302 = .ok (.iload 14, 2) := by decide +kernel
theorem dL_drafts_304 : decode cL_drafts 304 = .ok (.iconst 0, 1) := by decide +kernel
theorem dL_drafts_305 : decode cL_drafts 305 = .ok (.invokestatic 91, 3) := by decide +kernel
theorem dL_drafts_308 : decode cL_drafts 308 = .ok (.bipush (-72), 2) := by decide +kernel
theorem dL_drafts_310 : decode cL_drafts 310 = .ok (.if_icmp .ne 35, 3) := by decide +kernel
theorem dL_drafts_313 : decode cL_drafts 313 = .ok (.aload_n 0, 1) := by decide +kernel
theorem dL_drafts_314 : decode cL_drafts 314 = .ok (.iload 12, 2) := by decide +kernel
theorem dL_drafts_316 : decode cL_drafts 316 = .ok (.iload 13, 2) := by decide +kernel
theorem dL_drafts_318 : decode cL_drafts 318 = .ok (.iload 14, 2) := by decide +kernel
theorem dL_drafts_320 : decode cL_drafts 320 = .ok (.iconst 3, 1) := by decide +kernel
theorem dL_drafts_321 : decode cL_drafts 321 = .ok (.invokestatic 91, 3) := by decide +kernel
theorem dL_drafts_324 : decode cL_drafts 324 = .ok (.bipush (-72), 2) := by decide +kernel
theorem dL_drafts_326 : decode cL_drafts 326 = .ok (.if_icmp .ne 19, 3) := by decide +kernel
theorem dL_drafts_329 : decode cL_drafts 329 = .ok (.aload_n 0, 1) := by decide +kernel
theorem dL_drafts_330 : decode cL_drafts 330 = .ok (.iload 12, 2) := by decide +kernel
theorem dL_drafts_332 : decode cL_drafts 332 = .ok (.iconst (-1), 1) := by decide +kernel
theorem dL_drafts_333 : decode cL_drafts 333 = .ok (.iload 14, 2) := by decide +kernel
theorem dL_drafts_335 : decode cL_drafts 335 = .ok (.iload 17, 2) := by decide +kernel
theorem dL_drafts_337 : decode cL_drafts 337 = .ok (.invokestatic 91, 3) := by decide +kernel
theorem dL_drafts_340 : decode cL_drafts 340 = .ok (.bipush (-72), 2) := by decide +kernel
theorem dL_drafts_342 : decode cL_drafts 342 = .ok (.if_icmp .eq 5, 3) := by decide +kernel
theorem dL_drafts_345 : decode cL_drafts 345 = .ok (.iconst 0, 1) := by decide +kernel
theorem dL_drafts_346 : decode cL_drafts 346 = .ok (.ireturn, 1) := by decide +kernel
theorem dL_drafts_347 : decode cL_drafts 347 = .ok (.aload 8, 2) := by decide +kernel
theorem dL_drafts_349 : decode cL_drafts 349 = .ok (.iload 12, 2) := by decide +kernel
theorem dL_drafts_351 : decode cL_drafts 351 = .ok (.iaload, 1) := by decide +kernel
theorem dL_drafts_352 : decode cL_drafts 352 = .ok (.iconst 4, 1) := by decide +kernel
theorem dL_drafts_353 : decode cL_drafts 353 = .ok (.if_icmp .eq 22, 3) := by decide +kernel
theorem dL_drafts_356 : decode cL_drafts 356 = .ok (.iload 16, 2) := by decide +kernel
theorem dL_drafts_358 : decode cL_drafts 358 = .ok (.ifCond .ne 40, 3) := by decide +kernel
theorem dL_drafts_361 : decode cL_drafts 361 = .ok (.iload 17, 2) := by decide +kernel
theorem dL_drafts_363 : decode cL_drafts 363 = .ok (.iconst 2, 1) := by decide +kernel
theorem dL_drafts_364 : decode cL_drafts 364 = .ok (.if_icmp .eq 11, 3) := by decide +kernel
theorem dL_drafts_367 : decode cL_drafts 367 = .ok (.aload 4, 2) := by decide +kernel
theorem dL_drafts_369 : decode cL_drafts 369 = .ok (.iload 14, 2) := by decide +kernel
theorem dL_drafts_371 : decode cL_drafts 371 = .ok (.iaload, 1) := by decide +kernel
theorem dL_drafts_372 : decode cL_drafts 372 = .ok (.ifCond .ne 26, 3) := by decide +kernel
theorem dL_drafts_375 : decode cL_drafts 375 = .ok (.aload_n 0, 1) := by decide +kernel
theorem dL_drafts_376 : decode cL_drafts 376 = .ok (.iload 12, 2) := by decide +kernel
theorem dL_drafts_378 : decode cL_drafts 378 = .ok (.iload 13, 2) := by decide +kernel
theorem dL_drafts_380 : decode cL_drafts 380 = .ok (.iload 14, 2) := by decide +kernel
theorem dL_drafts_382 : decode cL_drafts 382 = .ok (.iload 17, 2) := by decide +kernel
theorem dL_drafts_384 : decode cL_drafts 384 = .ok (.invokestatic 91, 3) := by decide +kernel
theorem dL_drafts_387 : decode cL_drafts 387 = .ok (.bipush (-73), 2) := by decide +kernel
theorem dL_drafts_389 : decode cL_drafts 389 = .ok (.if_icmp .ne 7, 3) := by decide +kernel
theorem dL_drafts_392 : decode cL_drafts 392 = .ok (.iconst 1, 1) := by decide +kernel
theorem dL_drafts_393 : decode cL_drafts 393 = .ok (.goto 4, 3) := by decide +kernel
theorem dL_drafts_396 : decode cL_drafts 396 = .ok (.iconst 0, 1) := by decide +kernel
theorem dL_drafts_397 : decode cL_drafts 397 = .ok (.ireturn, 1) := by decide +kernel
theorem dL_drafts_398 : decode cL_drafts 398 = .ok (.iconst 4, 1) := by decide +kernel
theorem dL_drafts_399 : decode cL_drafts 399 = .ok (.iconst 2, 1) := by decide +kernel
theorem dL_drafts_400 : decode cL_drafts 400 = .ok (.iload 13, 2) := by decide +kernel
theorem dL_drafts_402 : decode cL_drafts 402 = .ok (.imul, 1) := by decide +kernel
theorem dL_drafts_403 : decode cL_drafts 403 = .ok (.iadd, 1) := by decide +kernel
theorem dL_drafts_404 : decode cL_drafts 404 = .ok (.istore 18, 2) := by decide +kernel
theorem dL_drafts_406 : decode cL_drafts 406 = .ok (.iload 16, 2) := by decide +kernel
theorem dL_drafts_408 : decode cL_drafts 408 = .ok (.iload 18, 2) := by decide +kernel
theorem dL_drafts_410 : decode cL_drafts 410 = .ok (.ishr, 1) := by decide +kernel
theorem dL_drafts_411 : decode cL_drafts 411 = .ok (.iconst 3, 1) := by decide +kernel
theorem dL_drafts_412 : decode cL_drafts 412 = .ok (.iand, 1) := by decide +kernel
theorem dL_drafts_413 : decode cL_drafts 413 = .ok (.istore 19, 2) := by decide +kernel
theorem dL_drafts_415 : decode cL_drafts 415 = .ok (.iload 16, 2) := by decide +kernel
theorem dL_drafts_417 : decode cL_drafts 417 = .ok (.ifCond .ne 11, 3) := by decide +kernel
theorem dL_drafts_420 : decode cL_drafts 420 = .ok (.aload 4, 2) := by decide +kernel
theorem dL_drafts_422 : decode cL_drafts 422 = .ok (.iload 14, 2) := by decide +kernel
theorem dL_drafts_424 : decode cL_drafts 424 = .ok (.iaload, 1) := by decide +kernel
theorem dL_drafts_425 : decode cL_drafts 425 = .ok (.goto 5, 3) := by decide +kernel
theorem dL_drafts_428 : decode cL_drafts 428 = .ok (.iload 16, 2) := by decide +kernel
theorem dL_drafts_430 : decode cL_drafts 430 = .ok (.istore 16, 2) := by decide +kernel
theorem dL_drafts_432 : decode cL_drafts 432 = .ok (.iload 16, 2) := by decide +kernel
theorem dL_drafts_434 : decode cL_drafts 434 = .ok (.iconst 3, 1) := by decide +kernel
theorem dL_drafts_435 : decode cL_drafts 435 = .ok (.iload 18, 2) := by decide +kernel
theorem dL_drafts_437 : decode cL_drafts 437 = .ok (.ishl, 1) := by decide +kernel
theorem dL_drafts_438 : decode cL_drafts 438 = .ok (.iconst (-1), 1) := by decide +kernel
theorem dL_drafts_439 : decode cL_drafts 439 = .ok (.ixor, 1) := by decide +kernel
theorem dL_drafts_440 : decode cL_drafts 440 = .ok (.iand, 1) := by decide +kernel
theorem dL_drafts_441 : decode cL_drafts 441 = .ok (.iload 17, 2) := by decide +kernel
theorem dL_drafts_443 : decode cL_drafts 443 = .ok (.iload 18, 2) := by decide +kernel
theorem dL_drafts_445 : decode cL_drafts 445 = .ok (.ishl, 1) := by decide +kernel
theorem dL_drafts_446 : decode cL_drafts 446 = .ok (.ior, 1) := by decide +kernel
theorem dL_drafts_447 : decode cL_drafts 447 = .ok (.istore 16, 2) := by decide +kernel
theorem dL_drafts_449 : decode cL_drafts 449 = .ok (.iload 16, 2) := by decide +kernel
theorem dL_drafts_451 : decode cL_drafts 451 = .ok (.iconst 4, 1) := by decide +kernel
theorem dL_drafts_452 : decode cL_drafts 452 = .ok (.ishr, 1) := by decide +kernel
theorem dL_drafts_453 : decode cL_drafts 453 = .ok (.istore 20, 2) := by decide +kernel
theorem dL_drafts_455 : decode cL_drafts 455 = .ok (.iload 19, 2) := by decide +kernel
theorem dL_drafts_457 : decode cL_drafts 457 = .ok (.iload 17, 2) := by decide +kernel
theorem dL_drafts_459 : decode cL_drafts 459 = .ok (.if_icmp .eq 9, 3) := by decide +kernel
theorem dL_drafts_462 : decode cL_drafts 462 = .ok (.aload 8, 2) := by decide +kernel
theorem dL_drafts_464 : decode cL_drafts 464 = .ok (.iload 12, 2) := by decide +kernel
theorem dL_drafts_466 : decode cL_drafts 466 = .ok (.iconst 0, 1) := by decide +kernel
theorem dL_drafts_467 : decode cL_drafts 467 = .ok (.iastore, 1) := by decide +kernel
theorem dL_drafts_468 : decode cL_drafts 468 = .ok (.aload 7, 2) := by decide +kernel
theorem dL_drafts_470 : decode cL_drafts 470 = .ok (.iload 15, 2) := by decide +kernel
theorem dL_drafts_472 : decode cL_drafts 472 = .ok (.iload 20, 2) := by decide +kernel
theorem dL_drafts_474 : decode cL_drafts 474 = .ok (.bipush 10, 2) := by decide +kernel
theorem dL_drafts_476 : decode cL_drafts 476 = .ok (.if_icmp .eq 16, 3) := by decide +kernel
theorem dL_drafts_479 : decode cL_drafts 479 = .ok (.iload 20, 2) := by decide +kernel
theorem dL_drafts_481 : decode cL_drafts 481 = .ok (.iconst 2, 1) := by decide +kernel
theorem dL_drafts_482 : decode cL_drafts 482 = .ok (.if_icmp .eq 10, 3) := by decide +kernel
theorem dL_drafts_485 : decode cL_drafts 485 = .ok (.iload 20, 2) := by decide +kernel
theorem dL_drafts_487 : decode cL_drafts 487 = .ok (.bipush 8, 2) := by decide +kernel
theorem dL_drafts_489 : decode cL_drafts 489 = .ok (.if_icmp .ne 7, 3) := by decide +kernel
theorem dL_drafts_492 : decode cL_drafts 492 = .ok (.iconst 0, 1) := by decide +kernel
theorem dL_drafts_493 : decode cL_drafts 493 = .ok (.goto 5, 3) := by decide +kernel
theorem dL_drafts_496 : decode cL_drafts 496 = .ok (.iload 16, 2) := by decide +kernel
theorem dL_drafts_498 : decode cL_drafts 498 = .ok (.iastore, 1) := by decide +kernel
theorem dL_drafts_499 : decode cL_drafts 499 = .ok (.aload_n 0, 1) := by decide +kernel
theorem dL_drafts_500 : decode cL_drafts 500 = .ok (.iload 12, 2) := by decide +kernel
theorem dL_drafts_502 : decode cL_drafts 502 = .ok (.iload 13, 2) := by decide +kernel
theorem dL_drafts_504 : decode cL_drafts 504 = .ok (.iload 14, 2) := by decide +kernel
theorem dL_drafts_506 : decode cL_drafts 506 = .ok (.iload 17, 2) := by decide +kernel
theorem dL_drafts_508 : decode cL_drafts 508 = .ok (.invokestatic 91, 3) := by decide +kernel
theorem dL_drafts_511 : decode cL_drafts 511 = .ok (.iload 19, 2) := by decide +kernel
theorem dL_drafts_513 : decode cL_drafts 513 = .ok (.if_icmp .ne 7, 3) := by decide +kernel
theorem dL_drafts_516 : decode cL_drafts 516 = .ok (.iconst 1, 1) := by decide +kernel
theorem dL_drafts_517 : decode cL_drafts 517 = .ok (.goto 4, 3) := by decide +kernel
theorem dL_drafts_520 : decode cL_drafts 520 = .ok (.iconst 0, 1) := by decide +kernel
theorem dL_drafts_521 : decode cL_drafts 521 = .ok (.ireturn, 1) := by decide +kernel
theorem dL_drafts_522 : decode cL_drafts 522 = .ok (.iload_n 1, 1) := by decide +kernel
theorem dL_drafts_523 : decode cL_drafts 523 = .ok (.bipush 8, 2) := by decide +kernel
theorem dL_drafts_525 : decode cL_drafts 525 = .ok (.if_icmp .ne 129, 3) := by decide +kernel
theorem dL_drafts_528 : decode cL_drafts 528 = .ok (.aload_n 0, 1) := by decide +kernel
theorem dL_drafts_529 : decode cL_drafts 529 = .ok (.iload 12, 2) := by decide +kernel
theorem dL_drafts_531 : decode cL_drafts 531 = .ok (.iconst 2, 1) := by decide +kernel
theorem dL_drafts_532 : decode cL_drafts 532 = .ok (.iload 14, 2) := by decide +kernel
theorem dL_drafts_534 : decode cL_drafts 534 = .ok (.invokestatic 94, 3) := by decide +kernel
theorem dL_drafts_537 : decode cL_drafts 537 = .ok (.bipush (-72), 2) := by decide +kernel
theorem dL_drafts_539 : decode cL_drafts 539 = .ok (.if_icmp .ne 17, 3) := by decide +kernel
theorem dL_drafts_542 : decode cL_drafts 542 = .ok (.aload_n 0, 1) := by decide +kernel
theorem dL_drafts_543 : decode cL_drafts 543 = .ok (.iload 12, 2) := by decide +kernel
theorem dL_drafts_545 : decode cL_drafts 545 = .ok (.iload 13, 2) := by decide +kernel
theorem dL_drafts_547 : decode cL_drafts 547 = .ok (.iconst (-1), 1) := by decide +kernel
theorem dL_drafts_548 : decode cL_drafts 548 = .ok (.invokestatic 94, 3) := by decide +kernel
theorem dL_drafts_551 : decode cL_drafts 551 = .ok (.bipush (-72), 2) := by decide +kernel
theorem dL_drafts_553 : decode cL_drafts 553 = .ok (.if_icmp .eq 5, 3) := by decide +kernel
theorem dL_drafts_556 : decode cL_drafts 556 = .ok (.iconst 0, 1) := by decide +kernel
theorem dL_drafts_557 : decode cL_drafts 557 = .ok (.ireturn, 1) := by decide +kernel
theorem dL_drafts_558 : decode cL_drafts 558 = .ok (.aload 8, 2) := by decide +kernel
theorem dL_drafts_560 : decode cL_drafts 560 = .ok (.iload 12, 2) := by decide +kernel
theorem dL_drafts_562 : decode cL_drafts 562 = .ok (.iaload, 1) := by decide +kernel
theorem dL_drafts_563 : decode cL_drafts 563 = .ok (.iconst 4, 1) := by decide +kernel
theorem dL_drafts_564 : decode cL_drafts 564 = .ok (.if_icmp .eq 21, 3) := by decide +kernel
theorem dL_drafts_567 : decode cL_drafts 567 = .ok (.iload 16, 2) := by decide +kernel
theorem dL_drafts_569 : decode cL_drafts 569 = .ok (.ifCond .eq 16, 3) := by decide +kernel
theorem dL_drafts_572 : decode cL_drafts 572 = .ok (.iload 16, 2) := by decide +kernel
theorem dL_drafts_574 : decode cL_drafts 574 = .ok (.bipush 15, 2) := by decide +kernel
theorem dL_drafts_576 : decode cL_drafts 576 = .ok (.iand, 1) := by decide +kernel
theorem dL_drafts_577 : decode cL_drafts 577 = .ok (.aload 4, 2) := by decide +kernel
theorem dL_drafts_579 : decode cL_drafts 579 = .ok (.iload 14, 2) := by decide +kernel
theorem dL_drafts_581 : decode cL_drafts 581 = .ok (.iaload, 1) := by decide +kernel
theorem dL_drafts_582 : decode cL_drafts 582 = .ok (.if_icmp .ne 24, 3) := by decide +kernel
theorem dL_drafts_585 : decode cL_drafts 585 = .ok (.aload_n 0, 1) := by decide +kernel
theorem dL_drafts_586 : decode cL_drafts 586 = .ok (.iload 12, 2) := by decide +kernel
theorem dL_drafts_588 : decode cL_drafts 588 = .ok (.iload 13, 2) := by decide +kernel
theorem dL_drafts_590 : decode cL_drafts 590 = .ok (.iload 14, 2) := by decide +kernel
theorem dL_drafts_592 : decode cL_drafts 592 = .ok (.invokestatic 94, 3) := by decide +kernel
theorem dL_drafts_595 : decode cL_drafts 595 = .ok (.bipush (-73), 2) := by decide +kernel
theorem dL_drafts_597 : decode cL_drafts 597 = .ok (.if_icmp .ne 7, 3) := by decide +kernel
theorem dL_drafts_600 : decode cL_drafts 600 = .ok (.iconst 1, 1) := by decide +kernel
theorem dL_drafts_601 : decode cL_drafts 601 = .ok (.goto 4, 3) := by decide +kernel
theorem dL_drafts_604 : decode cL_drafts 604 = .ok (.iconst 0, 1) := by decide +kernel
theorem dL_drafts_605 : decode cL_drafts 605 = .ok (.ireturn, 1) := by decide +kernel
theorem dL_drafts_606 : decode cL_drafts 606 = .ok (.aload 7, 2) := by decide +kernel
theorem dL_drafts_608 : decode cL_drafts 608 = .ok (.iload 15, 2) := by decide +kernel
theorem dL_drafts_610 : decode cL_drafts 610 = .ok (.aload 4, 2) := by decide +kernel
theorem dL_drafts_612 : decode cL_drafts 612 = .ok (.iload 14, 2) := by decide +kernel
theorem dL_drafts_614 : decode cL_drafts 614 = .ok (.iaload, 1) := by decide +kernel
theorem dL_drafts_615 : decode cL_drafts 615 = .ok (.bipush 16, 2) := by decide +kernel
theorem dL_drafts_617 : decode cL_drafts 617 = .ok (.iconst 2, 1) := by decide +kernel
theorem dL_drafts_618 : decode cL_drafts 618 = .ok (.iload 13, 2) := by decide +kernel
theorem dL_drafts_620 : decode cL_drafts 620 = .ok (.imul, 1) := by decide +kernel
theorem dL_drafts_621 : decode cL_drafts 621 = .ok (.ishl, 1) := by decide +kernel
theorem dL_drafts_622 : decode cL_drafts 622 = .ok (.iadd, 1) := by decide +kernel
theorem dL_drafts_623 : decode cL_drafts 623 = .ok (.iastore, 1) := by decide +kernel
theorem dL_drafts_624 : decode cL_drafts 624 = .ok (.aload 8, 2) := by decide +kernel
theorem dL_drafts_626 : decode cL_drafts 626 = .ok (.iload 12, 2) := by decide +kernel
theorem dL_drafts_628 : decode cL_drafts 628 = .ok (.iconst 0, 1) := by decide +kernel
theorem dL_drafts_629 : decode cL_drafts 629 = .ok (.iastore, 1) := by decide +kernel
theorem dL_drafts_630 : decode cL_drafts 630 = .ok (.aload_n 0, 1) := by decide +kernel
theorem dL_drafts_631 : decode cL_drafts 631 = .ok (.iload 12, 2) := by decide +kernel
theorem dL_drafts_633 : decode cL_drafts 633 = .ok (.iload 13, 2) := by decide +kernel
theorem dL_drafts_635 : decode cL_drafts 635 = .ok (.iload 14, 2) := by decide +kernel
theorem dL_drafts_637 : decode cL_drafts 637 = .ok (.invokestatic 94, 3) := by decide +kernel
theorem dL_drafts_640 : decode cL_drafts 640 = .ok (.iload 16, 2) := by decide +kernel
theorem dL_drafts_642 : decode cL_drafts 642 = .ok (.bipush 15, 2) := by decide +kernel
theorem dL_drafts_644 : decode cL_drafts 644 = .ok (.iand, 1) := by decide +kernel
theorem dL_drafts_645 : decode cL_drafts 645 = .ok (.if_icmp .ne 7, 3) := by decide +kernel
theorem dL_drafts_648 : decode cL_drafts 648 = .ok (.iconst 1, 1) := by decide +kernel
theorem dL_drafts_649 : decode cL_drafts 649 = .ok (.goto 4, 3) := by decide +kernel
theorem dL_drafts_652 : decode cL_drafts 652 = .ok (.iconst 0, 1) := by decide +kernel
theorem dL_drafts_653 : decode cL_drafts 653 = .ok (.ireturn, 1) := by decide +kernel
theorem dL_drafts_654 : decode cL_drafts 654 = .ok (.aload_n 0, 1) := by decide +kernel
theorem dL_drafts_655 : decode cL_drafts 655 = .ok (.iload 12, 2) := by decide +kernel
theorem dL_drafts_657 : decode cL_drafts 657 = .ok (.iconst 2, 1) := by decide +kernel
theorem dL_drafts_658 : decode cL_drafts 658 = .ok (.invokestatic 96, 3) := by decide +kernel
theorem dL_drafts_661 : decode cL_drafts 661 = .ok (.bipush (-72), 2) := by decide +kernel
theorem dL_drafts_663 : decode cL_drafts 663 = .ok (.if_icmp .ne 15, 3) := by decide +kernel
theorem dL_drafts_666 : decode cL_drafts 666 = .ok (.aload_n 0, 1) := by decide +kernel
theorem dL_drafts_667 : decode cL_drafts 667 = .ok (.iload 12, 2) := by decide +kernel
theorem dL_drafts_669 : decode cL_drafts 669 = .ok (.iconst (-1), 1) := by decide +kernel
theorem dL_drafts_670 : decode cL_drafts 670 = .ok (.invokestatic 96, 3) := by decide +kernel
theorem dL_drafts_673 : decode cL_drafts 673 = .ok (.bipush (-72), 2) := by decide +kernel
theorem dL_drafts_675 : decode cL_drafts 675 = .ok (.if_icmp .eq 5, 3) := by decide +kernel
theorem dL_drafts_678 : decode cL_drafts 678 = .ok (.iconst 0, 1) := by decide +kernel
theorem dL_drafts_679 : decode cL_drafts 679 = .ok (.ireturn, 1) := by decide +kernel
theorem dL_drafts_680 : decode cL_drafts 680 = .ok (.aload 5, 2) := by decide +kernel
theorem dL_drafts_682 : decode cL_drafts 682 = .ok (.aload 7, 2) := by decide +kernel
theorem dL_drafts_684 : decode cL_drafts 684 = .ok (.aload 8, 2) := by decide +kernel
theorem dL_drafts_686 : decode cL_drafts 686 = .ok (.iload 12, 2) := by decide +kernel
theorem dL_drafts_688 : decode cL_drafts 688 = .ok (.invokestatic 108, 3) := by decide +kernel
theorem dL_drafts_691 : decode cL_drafts 691 = .ok (.ifCond .gt 17, 3) := by decide +kernel
theorem dL_drafts_694 : decode cL_drafts 694 = .ok (.aload 8, 2) := by decide +kernel
theorem dL_drafts_696 : decode cL_drafts 696 = .ok (.iload 12, 2) := by decide +kernel
theorem dL_drafts_698 : decode cL_drafts 698 = .ok (.iaload, 1) := by decide +kernel
theorem dL_drafts_699 : decode cL_drafts 699 = .ok (.iload 13, 2) := by decide +kernel
theorem dL_drafts_701 : decode cL_drafts 701 = .ok (.ishr, 1) := by decide +kernel
theorem dL_drafts_702 : decode cL_drafts 702 = .ok (.iconst 1, 1) := by decide +kernel
theorem dL_drafts_703 : decode cL_drafts 703 = .ok (.iand, 1) := by decide +kernel
theorem dL_drafts_704 : decode cL_drafts 704 = .ok (.iconst 1, 1) := by decide +kernel
theorem dL_drafts_705 : decode cL_drafts 705 = .ok (.if_icmp .ne 22, 3) := by decide +kernel
theorem dL_drafts_708 : decode cL_drafts 708 = .ok (.aload_n 0, 1) := by decide +kernel
theorem dL_drafts_709 : decode cL_drafts 709 = .ok (.iload 12, 2) := by decide +kernel
theorem dL_drafts_711 : decode cL_drafts 711 = .ok (.iload 13, 2) := by decide +kernel
theorem dL_drafts_713 : decode cL_drafts 713 = .ok (.invokestatic 96, 3) := by decide +kernel
theorem dL_drafts_716 : decode cL_drafts 716 = .ok (.bipush (-73), 2) := by decide +kernel
theorem dL_drafts_718 : decode cL_drafts 718 = .ok (.if_icmp .ne 7, 3) := by decide +kernel
theorem dL_drafts_721 : decode cL_drafts 721 = .ok (.iconst 1, 1) := by decide +kernel
theorem dL_drafts_722 : decode cL_drafts 722 = .ok (.goto 4, 3) := by decide +kernel
theorem dL_drafts_725 : decode cL_drafts 725 = .ok (.iconst 0, 1) := by decide +kernel
theorem dL_drafts_726 : decode cL_drafts 726 = .ok (.ireturn, 1) := by decide +kernel
theorem dL_drafts_727 : decode cL_drafts 727 = .ok (.aload 8, 2) := by decide +kernel
theorem dL_drafts_729 : decode cL_drafts 729 = .ok (.iload 12, 2) := by decide +kernel
theorem dL_drafts_731 : decode cL_drafts 731 = .ok (.dup2, 1) := by decide +kernel
theorem dL_drafts_732 : decode cL_drafts 732 = .ok (.iaload, 1) := by decide +kernel
theorem dL_drafts_733 : decode cL_drafts 733 = .ok (.iconst 1, 1) := by decide +kernel
theorem dL_drafts_734 : decode cL_drafts 734 = .ok (.iload 13, 2) := by decide +kernel
theorem dL_drafts_736 : decode cL_drafts 736 = .ok (.ishl, 1) := by decide +kernel
theorem dL_drafts_737 : decode cL_drafts 737 = .ok (.ior, 1) := by decide +kernel
theorem dL_drafts_738 : decode cL_drafts 738 = .ok (.iastore, 1) := by decide +kernel
theorem dL_drafts_739 : decode cL_drafts 739 = .ok (.aload 8, 2) := by decide +kernel
theorem dL_drafts_741 : decode cL_drafts 741 = .ok (.iload 12, 2) := by decide +kernel
theorem dL_drafts_743 : decode cL_drafts 743 = .ok (.iaload, 1) := by decide +kernel
theorem dL_drafts_744 : decode cL_drafts 744 = .ok (.iconst 3, 1) := by decide +kernel
theorem dL_drafts_745 : decode cL_drafts 745 = .ok (.if_icmp .ge 20, 3) := by decide +kernel
theorem dL_drafts_748 : decode cL_drafts 748 = .ok (.aload_n 0, 1) := by decide +kernel
theorem dL_drafts_749 : decode cL_drafts 749 = .ok (.iload 12, 2) := by decide +kernel
theorem dL_drafts_751 : decode cL_drafts 751 = .ok (.iload 13, 2) := by decide +kernel
theorem dL_drafts_753 : decode cL_drafts 753 = .ok (.invokestatic 96, 3) := by decide +kernel
theorem dL_drafts_756 : decode cL_drafts 756 = .ok (.ifCond .ne 7, 3) := by decide +kernel
theorem dL_drafts_759 : decode cL_drafts 759 = .ok (.iconst 1, 1) := by decide +kernel
theorem dL_drafts_760 : decode cL_drafts 760 = .ok (.goto 4, 3) := by decide +kernel
theorem dL_drafts_763 : decode cL_drafts 763 = .ok (.iconst 0, 1) := by decide +kernel
theorem dL_drafts_764 : decode cL_drafts 764 = .ok (.ireturn, 1) := by decide +kernel
theorem dL_drafts_765 : decode cL_drafts 765 = .ok (.aload 8, 2) := by decide +kernel
theorem dL_drafts_767 : decode cL_drafts 767 = .ok (.iload 12, 2) := by decide +kernel
theorem dL_drafts_769 : decode cL_drafts 769 = .ok (.iconst 4, 1) := by decide +kernel
theorem dL_drafts_770 : decode cL_drafts 770 = .ok (.iastore, 1) := by decide +kernel
theorem dL_drafts_771 : decode cL_drafts 771 = .ok (.aload 11, 2) := by decide +kernel
theorem dL_drafts_773 : decode cL_drafts 773 = .ok (.iconst 2, 1) := by decide +kernel
theorem dL_drafts_774 : decode cL_drafts 774 = .ok (.iaload, 1) := by decide +kernel
theorem dL_drafts_775 : decode cL_drafts 775 = .ok (.istore 17, 2) := by decide +kernel
theorem dL_drafts_777 : decode cL_drafts 777 = .ok (.iconst 0, 1) := by decide +kernel
theorem dL_drafts_778 : decode cL_drafts 778 = .ok (.istore 18, 2) := by decide +kernel
theorem dL_drafts_780 : decode cL_drafts 780 = .ok (.iload 18, 2) := by decide +kernel
theorem dL_drafts_782 : decode cL_drafts 782 = .ok (.bipush 6, 2) := by decide +kernel
theorem dL_drafts_784 : decode cL_drafts 784 = .ok (.if_icmp .ge 115, 3) := by decide +kernel
theorem dL_drafts_787 : decode cL_drafts 787 = .ok (.aload 7, 2) := by decide +kernel
theorem dL_drafts_789 : decode cL_drafts 789 = .ok (.bipush 6, 2) := by decide +kernel
theorem dL_drafts_791 : decode cL_drafts 791 = .ok (.iload 12, 2) := by decide +kernel
theorem dL_drafts_793 : decode cL_drafts 793 = .ok (.imul, 1) := by decide +kernel
theorem dL_drafts_794 : decode cL_drafts 794 = .ok (.iload 18, 2) := by decide +kernel
theorem dL_drafts_796 : decode cL_drafts 796 = .ok (.iadd, 1) := by decide +kernel
theorem dL_drafts_797 : decode cL_drafts 797 = .ok (.iaload, 1) := by decide +kernel
theorem dL_drafts_798 : decode cL_drafts 798 = .ok (.istore 19, 2) := by decide +kernel
theorem dL_drafts_800 : decode cL_drafts 800 = .ok (.iload 19, 2) := by decide +kernel
theorem dL_drafts_802 : decode cL_drafts 802 = .ok (.ifCond .ne 6, 3) := by decide +kernel
theorem dL_drafts_805 : decode cL_drafts 805 = .ok (.goto 88, 3) := by decide +kernel
theorem dL_drafts_808 : decode cL_drafts 808 = .ok (.aload 6, 2) := by decide +kernel
theorem dL_drafts_810 : decode cL_drafts 810 = .ok (.bipush 9, 2) := by decide +kernel
theorem dL_drafts_812 : decode cL_drafts 812 = .ok (.iload 18, 2) := by decide +kernel
theorem dL_drafts_814 : decode cL_drafts 814 = .ok (.imul, 1) := by decide +kernel
theorem dL_drafts_815 : decode cL_drafts 815 = .ok (.iload 19, 2) := by decide +kernel
theorem dL_drafts_817 : decode cL_drafts 817 = .ok (.bipush 15, 2) := by decide +kernel
theorem dL_drafts_819 : decode cL_drafts 819 = .ok (.iand, 1) := by decide +kernel
theorem dL_drafts_820 : decode cL_drafts 820 = .ok (.iadd, 1) := by decide +kernel
theorem dL_drafts_821 : decode cL_drafts 821 = .ok (.iconst 1, 1) := by decide +kernel
theorem dL_drafts_822 : decode cL_drafts 822 = .ok (.isub, 1) := by decide +kernel
theorem dL_drafts_823 : decode cL_drafts 823 = .ok (.iaload, 1) := by decide +kernel
theorem dL_drafts_824 : decode cL_drafts 824 = .ok (.istore 20, 2) := by decide +kernel
theorem dL_drafts_826 : decode cL_drafts 826 = .ok (.aload 9, 2) := by decide +kernel
theorem dL_drafts_828 : decode cL_drafts 828 = .ok (.aload 11, 2) := by decide +kernel
theorem dL_drafts_830 : decode cL_drafts 830 = .ok (.iconst 2, 1) := by decide +kernel
theorem dL_drafts_831 : decode cL_drafts 831 = .ok (.iaload, 1) := by decide +kernel
theorem dL_drafts_832 : decode cL_drafts 832 = .ok (.iload 12, 2) := by decide +kernel
theorem dL_drafts_834 : decode cL_drafts 834 = .ok (.bipush 16, 2) := by decide +kernel
theorem dL_drafts_836 : decode cL_drafts 836 = .ok (.iload 20, 2) := by decide +kernel
theorem dL_drafts_838 : decode cL_drafts 838 = .ok (.iconst 1, 1) := by decide +kernel
theorem dL_drafts_839 : decode cL_drafts 839 = .ok (.iand, 1) := by decide +kernel
theorem dL_drafts_840 : decode cL_drafts 840 = .ok (.imul, 1) := by decide +kernel
theorem dL_drafts_841 : decode cL_drafts 841 = .ok (.iadd, 1) := by decide +kernel
theorem dL_drafts_842 : decode cL_drafts 842 = .ok (.sipush 256, 3) := by decide +kernel
theorem dL_drafts_845 : decode cL_drafts 845 = .ok (.iload 20, 2) := by decide +kernel
theorem dL_drafts_847 : decode cL_drafts 847 = .ok (.bipush 8, 2) := by decide +kernel
theorem dL_drafts_849 : decode cL_drafts 849 = .ok (.ishr, 1) := by decide +kernel
theorem dL_drafts_850 : decode cL_drafts 850 = .ok (.bipush 63, 2) := by decide +kernel
theorem dL_drafts_852 : decode cL_drafts 852 = .ok (.iand, 1) := by decide +kernel
theorem dL_drafts_853 : decode cL_drafts 853 = .ok (.imul, 1) := by decide +kernel
theorem dL_drafts_854 : decode cL_drafts 854 = .ok (.iadd, 1) := by decide +kernel
theorem dL_drafts_855 : decode cL_drafts 855 = .ok (.sipush 16384, 3) := by decide +kernel
theorem dL_drafts_858 : decode cL_drafts 858 = .ok (.iload 20, 2) := by decide +kernel
theorem dL_drafts_860 : decode cL_drafts 860 = .ok (.bipush 14, 2) := by decide +kernel
theorem dL_drafts_862 : decode cL_drafts 862 = .ok (.ishr, 1) := by decide +kernel
theorem dL_drafts_863 : decode cL_drafts 863 = .ok (.imul, 1) := by decide +kernel
theorem dL_drafts_864 : decode cL_drafts 864 = .ok (.iadd, 1) := by decide +kernel
theorem dL_drafts_865 : decode cL_drafts 865 = .ok (.iastore, 1) := by decide +kernel
theorem dL_drafts_866 : decode cL_drafts 866 = .ok (.aload 10, 2) := by decide +kernel
theorem dL_drafts_868 : decode cL_drafts 868 = .ok (.aload 11, 2) := by decide +kernel
theorem dL_drafts_870 : decode cL_drafts 870 = .ok (.iconst 2, 1) := by decide +kernel
theorem dL_drafts_871 : decode cL_drafts 871 = .ok (.iaload, 1) := by decide +kernel
theorem dL_drafts_872 : decode cL_drafts 872 = .ok (.aload 11, 2) := by decide +kernel
theorem dL_drafts_874 : decode cL_drafts 874 = .ok (.iconst 0, 1) := by decide +kernel
theorem dL_drafts_875 : decode cL_drafts 875 = .ok (.iaload, 1) := by decide +kernel
theorem dL_drafts_876 : decode cL_drafts 876 = .ok (.iload 20, 2) := by decide +kernel
theorem dL_drafts_878 : decode cL_drafts 878 = .ok (.iconst 1, 1) := by decide +kernel
theorem dL_drafts_879 : decode cL_drafts 879 = .ok (.ishr, 1) := by decide +kernel
theorem dL_drafts_880 : decode cL_drafts 880 = .ok (.bipush 127, 2) := by decide +kernel
theorem dL_drafts_882 : decode cL_drafts 882 = .ok (.iand, 1) := by decide +kernel
theorem dL_drafts_883 : decode cL_drafts 883 = .ok (.iadd, 1) := by decide +kernel
theorem dL_drafts_884 : decode cL_drafts 884 = .ok (.iastore, 1) := by decide +kernel
theorem dL_drafts_885 : decode cL_drafts 885 = .ok (.aload 11, 2) := by decide +kernel
theorem dL_drafts_887 : decode cL_drafts 887 = .ok (.iconst 2, 1) := by decide +kernel
theorem dL_drafts_888 : decode cL_drafts 888 = .ok (.dup2, 1) := by decide +kernel
theorem dL_drafts_889 : decode cL_drafts 889 = .ok (.iaload, 1) := by decide +kernel
theorem dL_drafts_890 : decode cL_drafts 890 = .ok (.iconst 1, 1) := by decide +kernel
theorem dL_drafts_891 : decode cL_drafts 891 = .ok (.iadd, 1) := by decide +kernel
theorem dL_drafts_892 : decode cL_drafts 892 = .ok (.iastore, 1) := by decide +kernel
theorem dL_drafts_893 : decode cL_drafts 893 = .ok (.iinc 18 1, 3) := by decide +kernel
theorem dL_drafts_896 : decode cL_drafts 896 = .ok (.goto (-116), 3) := by decide +kernel
theorem dL_drafts_899 : decode cL_drafts 899 = .ok (.aload_n 0, 1) := by decide +kernel
theorem dL_drafts_900 : decode cL_drafts 900 = .ok (.iload 12, 2) := by decide +kernel
theorem dL_drafts_902 : decode cL_drafts 902 = .ok (.iload 13, 2) := by decide +kernel
theorem dL_drafts_904 : decode cL_drafts 904 = .ok (.invokestatic 96, 3) := by decide +kernel
theorem dL_drafts_907 : decode cL_drafts 907 = .ok (.aload 11, 2) := by decide +kernel
theorem dL_drafts_909 : decode cL_drafts 909 = .ok (.iconst 2, 1) := by decide +kernel
theorem dL_drafts_910 : decode cL_drafts 910 = .ok (.iaload, 1) := by decide +kernel
theorem dL_drafts_911 : decode cL_drafts 911 = .ok (.iload 17, 2) := by decide +kernel
theorem dL_drafts_913 : decode cL_drafts 913 = .ok (.isub, 1) := by decide +kernel
theorem dL_drafts_914 : decode cL_drafts 914 = .ok (.if_icmp .ne 7, 3) := by decide +kernel
theorem dL_drafts_917 : decode cL_drafts 917 = .ok (.iconst 1, 1) := by decide +kernel
theorem dL_drafts_918 : decode cL_drafts 918 = .ok (.goto 4, 3) := by decide +kernel
theorem dL_drafts_921 : decode cL_drafts 921 = .ok (.iconst 0, 1) := by decide +kernel
theorem dL_drafts_922 : decode cL_drafts 922 = .ok (.ireturn, 1) := by decide +kernel
theorem dL_breached_0 : decode cL_breached 0 = .ok (.iconst 0, 1) := by decide +kernel
theorem dL_breached_1 : decode cL_breached 1 = .ok (.istore_n 3, 1) := by decide +kernel
theorem dL_breached_2 : decode cL_breached 2 = .ok (.iconst 0, 1) := by decide +kernel
theorem dL_breached_3 : decode cL_breached 3 = .ok (.istore 4, 2) := by decide +kernel
theorem dL_breached_5 : decode cL_breached 5 = .ok (.iload 4, 2) := by decide +kernel
theorem dL_breached_7 : decode cL_breached 7 = .ok (.aload_n 1, 1) := by decide +kernel
theorem dL_breached_8 : decode cL_breached 8 = .ok (.iconst 2, 1) := by decide +kernel
theorem dL_breached_9 : decode cL_breached 9 = .ok (.iaload, 1) := by decide +kernel
theorem dL_breached_10 : decode cL_breached 10 = .ok (.if_icmp .ge 46, 3) := by decide +kernel
theorem dL_breached_13 : decode cL_breached 13 = .ok (.aload_n 0, 1) := by decide +kernel
theorem dL_breached_14 : decode cL_breached 14 = .ok (.iload 4, 2) := by decide +kernel
theorem dL_breached_16 : decode cL_breached 16 = .ok (.iaload, 1) := by decide +kernel
theorem dL_breached_17 : decode cL_breached 17 = .ok (.bipush 15, 2) := by decide +kernel
theorem dL_breached_19 : decode cL_breached 19 = .ok (.iand, 1) := by decide +kernel
theorem dL_breached_20 : decode cL_breached 20 = .ok (.iload_n 2, 1) := by decide +kernel
theorem dL_breached_21 : decode cL_breached 21 = .ok (.if_icmp .ne 29, 3) := by decide +kernel
theorem dL_breached_24 : decode cL_breached 24 = .ok (.aload_n 0, 1) := by decide +kernel
theorem dL_breached_25 : decode cL_breached 25 = .ok (.iload 4, 2) := by decide +kernel
theorem dL_breached_27 : decode cL_breached 27 = .ok (.iaload, 1) := by decide +kernel
theorem dL_breached_28 : decode cL_breached 28 = .ok (.iconst 5, 1) := by decide +kernel
theorem dL_breached_29 : decode cL_breached 29 = .ok (.ishr, 1) := by decide +kernel
theorem dL_breached_30 : decode cL_breached 30 = .ok (.bipush 7, 2) := by decide +kernel
theorem dL_breached_32 : decode cL_breached 32 = .ok (.iand, 1) := by decide +kernel
theorem dL_breached_33 : decode cL_breached 33 = .ok (.iconst 3, 1) := by decide +kernel
theorem dL_breached_34 : decode cL_breached 34 = .ok (.if_icmp .ne 16, 3) := by decide +kernel
theorem dL_breached_37 : decode cL_breached 37 = .ok (.iload_n 3, 1) := by decide +kernel
theorem dL_breached_38 : decode cL_breached 38 = .ok (.iconst 1, 1) := by decide +kernel
theorem dL_breached_39 : decode cL_breached 39 = .ok (.aload_n 0, 1) := by decide +kernel
theorem dL_breached_40 : decode cL_breached 40 = .ok (.iload 4, 2) := by decide +kernel
theorem dL_breached_42 : decode cL_breached 42 = .ok (.iaload, 1) := by decide +kernel
theorem dL_breached_43 : decode cL_breached 43 = .ok (.iconst 4, 1) := by decide +kernel
theorem dL_breached_44 : decode cL_breached 44 = .ok (.ishr, 1) := by decide +kernel
theorem dL_breached_45 : decode cL_breached 45 = .ok (.iconst 1, 1) := by decide +kernel
theorem dL_breached_46 : decode cL_breached 46 = .ok (.iand, 1) := by decide +kernel
theorem dL_breached_47 : decode cL_breached 47 = .ok (.ishl, 1) := by decide +kernel
theorem dL_breached_48 : decode cL_breached 48 = .ok (.ior, 1) := by decide +kernel
theorem dL_breached_49 : decode cL_breached 49 = .ok (.istore_n 3, 1) := by decide +kernel
theorem dL_breached_50 : decode cL_breached 50 = .ok (.iinc 4 1, 3) := by decide +kernel
theorem dL_breached_53 : decode cL_breached 53 = .ok (.goto (-48), 3) := by decide +kernel
theorem dL_breached_56 : decode cL_breached 56 = .ok (.iload_n 3, 1) := by decide +kernel
theorem dL_breached_57 : decode cL_breached 57 = .ok (.ireturn, 1) := by decide +kernel
set_option maxRecDepth 20000 in
theorem ggL_isSuspended_L_breached : GoodIn wsL_isSuspended wsL_breached := goodIn_r _ [4] (by decide +kernel) (by decide +kernel)
set_option maxRecDepth 20000 in
theorem gL_isSuspended_L_breached : GoodIn wsL_isSuspended (va_wsS RL 112 yL_breached wsL_breached) := goodIn_app (goodIn_of _ (by decide +kernel)) ggL_isSuspended_L_breached
theorem dL_isSuspended_0 : decode cL_isSuspended 0 = .ok (.aload_n 0, 1) := by decide +kernel
theorem dL_isSuspended_1 : decode cL_isSuspended 1 = .ok (.iload_n 2, 1) := by decide +kernel
theorem dL_isSuspended_2 : decode cL_isSuspended 2 = .ok (.iaload, 1) := by decide +kernel
theorem dL_isSuspended_3 : decode cL_isSuspended 3 = .ok (.iconst 5, 1) := by decide +kernel
theorem dL_isSuspended_4 : decode cL_isSuspended 4 = .ok (.ishr, 1) := by decide +kernel
theorem dL_isSuspended_5 : decode cL_isSuspended 5 = .ok (.bipush 7, 2) := by decide +kernel
theorem dL_isSuspended_7 : decode cL_isSuspended 7 = .ok (.iand, 1) := by decide +kernel
theorem dL_isSuspended_8 : decode cL_isSuspended 8 = .ok (.istore_n 3, 1) := by decide +kernel
theorem dL_isSuspended_9 : decode cL_isSuspended 9 = .ok (.iload_n 3, 1) := by decide +kernel
theorem dL_isSuspended_10 : decode cL_isSuspended 10 = .ok (.ifCond .eq 8, 3) := by decide +kernel
theorem dL_isSuspended_13 : decode cL_isSuspended 13 = .ok (.iload_n 3, 1) := by decide +kernel
theorem dL_isSuspended_14 : decode cL_isSuspended 14 = .ok (.iconst 2, 1) := by decide +kernel
theorem dL_isSuspended_15 : decode cL_isSuspended 15 = .ok (.if_icmp .ne 34, 3) := by decide +kernel
theorem dL_isSuspended_18 : decode cL_isSuspended 18 = .ok (.aload_n 0, 1) := by decide +kernel
end
section
theorem dL_isSuspended_19 : decode cL_isSuspended 19 = .ok (.aload_n 1, 1) := by decide +kernel
theorem dL_isSuspended_20 : decode cL_isSuspended 20 = .ok (.aload_n 0, 1) := by decide +kernel
theorem dL_isSuspended_21 : decode cL_isSuspended 21 = .ok (.iload_n 2, 1) := by decide +kernel
theorem dL_isSuspended_22 : decode cL_isSuspended 22 = .ok (.iaload, 1) := by decide +kernel
theorem dL_isSuspended_23 : decode cL_isSuspended 23 = .ok (.bipush 15, 2) := by decide +kernel
theorem dL_isSuspended_25 : decode cL_isSuspended 25 = .ok (.iand, 1) := by decide +kernel
theorem dL_isSuspended_26 : decode cL_isSuspended 26 = .ok (.invokestatic 112, 3) := by decide +kernel
theorem dL_isSuspended_29 : decode cL_isSuspended 29 = .ok (.iconst 1, 1) := by decide +kernel
theorem dL_isSuspended_30 : decode cL_isSuspended 30 = .ok (.aload_n 0, 1) := by decide +kernel
theorem dL_isSuspended_31 : decode cL_isSuspended 31 = .ok (.iload_n 2, 1) := by decide +kernel
theorem dL_isSuspended_32 : decode cL_isSuspended 32 = .ok (.iaload, 1) := by decide +kernel
theorem dL_isSuspended_33 : decode cL_isSuspended 33 = .ok (.iconst 4, 1) := by decide +kernel
theorem dL_isSuspended_34 : decode cL_isSuspended 34 = .ok (.ishr, 1) := by decide +kernel
theorem dL_isSuspended_35 : decode cL_isSuspended 35 = .ok (.iconst 1, 1) := by decide +kernel
theorem dL_isSuspended_36 : decode cL_isSuspended 36 = .ok (.iand, 1) := by decide +kernel
theorem dL_isSuspended_37 : decode cL_isSuspended 37 = .ok (.isub, 1) := by decide +kernel
theorem dL_isSuspended_38 : decode cL_isSuspended 38 = .ok (.ishr, 1) := by decide +kernel
theorem dL_isSuspended_39 : decode cL_isSuspended 39 = .ok (.iconst 1, 1) := by decide +kernel
theorem dL_isSuspended_40 : decode cL_isSuspended 40 = .ok (.iand, 1) := by decide +kernel
theorem dL_isSuspended_41 : decode cL_isSuspended 41 = .ok (.iconst 1, 1) := by decide +kernel
theorem dL_isSuspended_42 : decode cL_isSuspended 42 = .ok (.if_icmp .ne 7, 3) := by decide +kernel
theorem dL_isSuspended_45 : decode cL_isSuspended 45 = .ok (.iconst 1, 1) := by decide +kernel
theorem dL_isSuspended_46 : decode cL_isSuspended 46 = .ok (.goto 4, 3) := by decide +kernel
theorem dL_isSuspended_49 : decode cL_isSuspended 49 = .ok (.iconst 0, 1) := by decide +kernel
theorem dL_isSuspended_50 : decode cL_isSuspended 50 = .ok (.ireturn, 1) := by decide +kernel
set_option maxRecDepth 20000 in
theorem ggL_passes_L_breached : GoodIn wsL_passes wsL_breached := goodIn_r _ [4] (by decide +kernel) (by decide +kernel)
set_option maxRecDepth 20000 in
theorem gL_passes_L_breached : GoodIn wsL_passes (va_wsS RL 112 yL_breached wsL_breached) := goodIn_app (goodIn_of _ (by decide +kernel)) ggL_passes_L_breached
theorem dL_passes_0 : decode cL_passes 0 = .ok (.iconst 0, 1) := by decide +kernel
theorem dL_passes_1 : decode cL_passes 1 = .ok (.istore 4, 2) := by decide +kernel
theorem dL_passes_3 : decode cL_passes 3 = .ok (.iconst 0, 1) := by decide +kernel
theorem dL_passes_4 : decode cL_passes 4 = .ok (.istore 5, 2) := by decide +kernel
theorem dL_passes_6 : decode cL_passes 6 = .ok (.iload 5, 2) := by decide +kernel
theorem dL_passes_8 : decode cL_passes 8 = .ok (.iload_n 0, 1) := by decide +kernel
theorem dL_passes_9 : decode cL_passes 9 = .ok (.if_icmp .ge 200, 3) := by decide +kernel
theorem dL_passes_12 : decode cL_passes 12 = .ok (.aload_n 3, 1) := by decide +kernel
theorem dL_passes_13 : decode cL_passes 13 = .ok (.iconst 0, 1) := by decide +kernel
theorem dL_passes_14 : decode cL_passes 14 = .ok (.dup2, 1) := by decide +kernel
theorem dL_passes_15 : decode cL_passes 15 = .ok (.iaload, 1) := by decide +kernel
theorem dL_passes_16 : decode cL_passes 16 = .ok (.iconst 1, 1) := by decide +kernel
theorem dL_passes_17 : decode cL_passes 17 = .ok (.iadd, 1) := by decide +kernel
theorem dL_passes_18 : decode cL_passes 18 = .ok (.iastore, 1) := by decide +kernel
theorem dL_passes_19 : decode cL_passes 19 = .ok (.iconst 0, 1) := by decide +kernel
theorem dL_passes_20 : decode cL_passes 20 = .ok (.istore 6, 2) := by decide +kernel
theorem dL_passes_22 : decode cL_passes 22 = .ok (.iload 6, 2) := by decide +kernel
theorem dL_passes_24 : decode cL_passes 24 = .ok (.bipush 10, 2) := by decide +kernel
theorem dL_passes_26 : decode cL_passes 26 = .ok (.if_icmp .ge 115, 3) := by decide +kernel
theorem dL_passes_29 : decode cL_passes 29 = .ok (.aload_n 1, 1) := by decide +kernel
theorem dL_passes_30 : decode cL_passes 30 = .ok (.aload_n 3, 1) := by decide +kernel
theorem dL_passes_31 : decode cL_passes 31 = .ok (.iload 6, 2) := by decide +kernel
theorem dL_passes_33 : decode cL_passes 33 = .ok (.invokestatic 112, 3) := by decide +kernel
theorem dL_passes_36 : decode cL_passes 36 = .ok (.istore 7, 2) := by decide +kernel
theorem dL_passes_38 : decode cL_passes 38 = .ok (.iconst 0, 1) := by decide +kernel
theorem dL_passes_39 : decode cL_passes 39 = .ok (.istore 8, 2) := by decide +kernel
theorem dL_passes_41 : decode cL_passes 41 = .ok (.iload 8, 2) := by decide +kernel
theorem dL_passes_43 : decode cL_passes 43 = .ok (.aload_n 3, 1) := by decide +kernel
theorem dL_passes_44 : decode cL_passes 44 = .ok (.iconst 2, 1) := by decide +kernel
theorem dL_passes_45 : decode cL_passes 45 = .ok (.iaload, 1) := by decide +kernel
theorem dL_passes_46 : decode cL_passes 46 = .ok (.if_icmp .ge 89, 3) := by decide +kernel
theorem dL_passes_49 : decode cL_passes 49 = .ok (.aload_n 1, 1) := by decide +kernel
theorem dL_passes_50 : decode cL_passes 50 = .ok (.iload 8, 2) := by decide +kernel
theorem dL_passes_52 : decode cL_passes 52 = .ok (.iaload, 1) := by decide +kernel
theorem dL_passes_53 : decode cL_passes 53 = .ok (.bipush 15, 2) := by decide +kernel
theorem dL_passes_55 : decode cL_passes 55 = .ok (.iand, 1) := by decide +kernel
theorem dL_passes_56 : decode cL_passes 56 = .ok (.iload 6, 2) := by decide +kernel
theorem dL_passes_58 : decode cL_passes 58 = .ok (.if_icmp .eq 6, 3) := by decide +kernel
theorem dL_passes_61 : decode cL_passes 61 = .ok (.goto 68, 3) := by decide +kernel
theorem dL_passes_64 : decode cL_passes 64 = .ok (.aload_n 1, 1) := by decide +kernel
theorem dL_passes_65 : decode cL_passes 65 = .ok (.iload 8, 2) := by decide +kernel
theorem dL_passes_67 : decode cL_passes 67 = .ok (.iaload, 1) := by decide +kernel
theorem dL_passes_68 : decode cL_passes 68 = .ok (.iconst 5, 1) := by decide +kernel
theorem dL_passes_69 : decode cL_passes 69 = .ok (.ishr, 1) := by decide +kernel
theorem dL_passes_70 : decode cL_passes 70 = .ok (.bipush 7, 2) := by decide +kernel
theorem dL_passes_72 : decode cL_passes 72 = .ok (.iand, 1) := by decide +kernel
theorem dL_passes_73 : decode cL_passes 73 = .ok (.istore 9, 2) := by decide +kernel
theorem dL_passes_75 : decode cL_passes 75 = .ok (.iload 9, 2) := by decide +kernel
theorem dL_passes_77 : decode cL_passes 77 = .ok (.ifCond .eq 9, 3) := by decide +kernel
theorem dL_passes_80 : decode cL_passes 80 = .ok (.iload 9, 2) := by decide +kernel
theorem dL_passes_82 : decode cL_passes 82 = .ok (.iconst 2, 1) := by decide +kernel
theorem dL_passes_83 : decode cL_passes 83 = .ok (.if_icmp .ne 7, 3) := by decide +kernel
theorem dL_passes_86 : decode cL_passes 86 = .ok (.iconst 1, 1) := by decide +kernel
theorem dL_passes_87 : decode cL_passes 87 = .ok (.goto 4, 3) := by decide +kernel
theorem dL_passes_90 : decode cL_passes 90 = .ok (.iconst 0, 1) := by decide +kernel
theorem dL_passes_91 : decode cL_passes 91 = .ok (.istore 10, 2) := by decide +kernel
theorem dL_passes_93 : decode cL_passes 93 = .ok (.aload_n 2, 1) := by decide +kernel
theorem dL_passes_94 : decode cL_passes 94 = .ok (.iload 8, 2) := by decide +kernel
theorem dL_passes_96 : decode cL_passes 96 = .ok (.dup2, 1) := by decide +kernel
theorem dL_passes_97 : decode cL_passes 97 = .ok (.iaload, 1) := by decide +kernel
theorem dL_passes_98 : decode cL_passes 98 = .ok (.iload 10, 2) := by decide +kernel
theorem dL_passes_100 : decode cL_passes 100 = .ok (.ifCond .eq 26, 3) := by decide +kernel
theorem dL_passes_103 : decode cL_passes 103 = .ok (.iload 7, 2) := by decide +kernel
theorem dL_passes_105 : decode cL_passes 105 = .ok (.iconst 1, 1) := by decide +kernel
theorem dL_passes_106 : decode cL_passes 106 = .ok (.aload_n 1, 1) := by decide +kernel
theorem dL_passes_107 : decode cL_passes 107 = .ok (.iload 8, 2) := by decide +kernel
theorem dL_passes_109 : decode cL_passes 109 = .ok (.iaload, 1) := by decide +kernel
theorem dL_passes_110 : decode cL_passes 110 = .ok (.iconst 4, 1) := by decide +kernel
theorem dL_passes_111 : decode cL_passes 111 = .ok (.ishr, 1) := by decide +kernel
theorem dL_passes_112 : decode cL_passes 112 = .ok (.iconst 1, 1) := by decide +kernel
theorem dL_passes_113 : decode cL_passes 113 = .ok (.iand, 1) := by decide +kernel
theorem dL_passes_114 : decode cL_passes 114 = .ok (.isub, 1) := by decide +kernel
theorem dL_passes_115 : decode cL_passes 115 = .ok (.ishr, 1) := by decide +kernel
theorem dL_passes_116 : decode cL_passes 116 = .ok (.iconst 1, 1) := by decide +kernel
theorem dL_passes_117 : decode cL_passes 117 = .ok (.iand, 1) := by decide +kernel
theorem dL_passes_118 : decode cL_passes 118 = .ok (.iconst 1, 1) := by decide +kernel
theorem dL_passes_119 : decode cL_passes 119 = .ok (.if_icmp .ne 7, 3) := by decide +kernel
theorem dL_passes_122 : decode cL_passes 122 = .ok (.iconst 1, 1) := by decide +kernel
theorem dL_passes_123 : decode cL_passes 123 = .ok (.goto 4, 3) := by decide +kernel
theorem dL_passes_126 : decode cL_passes 126 = .ok (.iconst 0, 1) := by decide +kernel
theorem dL_passes_127 : decode cL_passes 127 = .ok (.iadd, 1) := by decide +kernel
theorem dL_passes_128 : decode cL_passes 128 = .ok (.iastore, 1) := by decide +kernel
theorem dL_passes_129 : decode cL_passes 129 = .ok (.iinc 8 1, 3) := by decide +kernel
theorem dL_passes_132 : decode cL_passes 132 = .ok (.goto (-91), 3) := by decide +kernel
theorem dL_passes_135 : decode cL_passes 135 = .ok (.iinc 6 1, 3) := by decide +kernel
theorem dL_passes_138 : decode cL_passes 138 = .ok (.goto (-116), 3) := by decide +kernel
theorem dL_passes_141 : decode cL_passes 141 = .ok (.iconst 0, 1) := by decide +kernel
theorem dL_passes_142 : decode cL_passes 142 = .ok (.istore 6, 2) := by decide +kernel
theorem dL_passes_144 : decode cL_passes 144 = .ok (.iload 6, 2) := by decide +kernel
theorem dL_passes_146 : decode cL_passes 146 = .ok (.aload_n 3, 1) := by decide +kernel
theorem dL_passes_147 : decode cL_passes 147 = .ok (.iconst 2, 1) := by decide +kernel
theorem dL_passes_148 : decode cL_passes 148 = .ok (.iaload, 1) := by decide +kernel
theorem dL_passes_149 : decode cL_passes 149 = .ok (.if_icmp .ge 54, 3) := by decide +kernel
theorem dL_passes_152 : decode cL_passes 152 = .ok (.aload_n 1, 1) := by decide +kernel
theorem dL_passes_153 : decode cL_passes 153 = .ok (.iload 6, 2) := by decide +kernel
theorem dL_passes_155 : decode cL_passes 155 = .ok (.iaload, 1) := by decide +kernel
theorem dL_passes_156 : decode cL_passes 156 = .ok (.iconst 5, 1) := by decide +kernel
theorem dL_passes_157 : decode cL_passes 157 = .ok (.ishr, 1) := by decide +kernel
theorem dL_passes_158 : decode cL_passes 158 = .ok (.bipush 7, 2) := by decide +kernel
theorem dL_passes_160 : decode cL_passes 160 = .ok (.iand, 1) := by decide +kernel
theorem dL_passes_161 : decode cL_passes 161 = .ok (.iconst 2, 1) := by decide +kernel
theorem dL_passes_162 : decode cL_passes 162 = .ok (.if_icmp .ne 35, 3) := by decide +kernel
theorem dL_passes_165 : decode cL_passes 165 = .ok (.aload_n 2, 1) := by decide +kernel
theorem dL_passes_166 : decode cL_passes 166 = .ok (.iload 6, 2) := by decide +kernel
theorem dL_passes_168 : decode cL_passes 168 = .ok (.iaload, 1) := by decide +kernel
theorem dL_passes_169 : decode cL_passes 169 = .ok (.aload_n 3, 1) := by decide +kernel
theorem dL_passes_170 : decode cL_passes 170 = .ok (.iconst 0, 1) := by decide +kernel
theorem dL_passes_171 : decode cL_passes 171 = .ok (.iaload, 1) := by decide +kernel
theorem dL_passes_172 : decode cL_passes 172 = .ok (.if_icmp .lt 6, 3) := by decide +kernel
theorem dL_passes_175 : decode cL_passes 175 = .ok (.goto 22, 3) := by decide +kernel
theorem dL_passes_178 : decode cL_passes 178 = .ok (.aload_n 1, 1) := by decide +kernel
theorem dL_passes_179 : decode cL_passes 179 = .ok (.iload 6, 2) := by decide +kernel
theorem dL_passes_181 : decode cL_passes 181 = .ok (.dup2, 1) := by decide +kernel
theorem dL_passes_182 : decode cL_passes 182 = .ok (.iaload, 1) := by decide +kernel
theorem dL_passes_183 : decode cL_passes 183 = .ok (.bipush 32, 2) := by decide +kernel
theorem dL_passes_185 : decode cL_passes 185 = .ok (.iadd, 1) := by decide +kernel
theorem dL_passes_186 : decode cL_passes 186 = .ok (.iastore, 1) := by decide +kernel
theorem dL_passes_187 : decode cL_passes 187 = .ok (.aload_n 2, 1) := by decide +kernel
theorem dL_passes_188 : decode cL_passes 188 = .ok (.iload 6, 2) := by decide +kernel
theorem dL_passes_190 : decode cL_passes 190 = .ok (.aload_n 3, 1) := by decide +kernel
theorem dL_passes_191 : decode cL_passes 191 = .ok (.iconst 0, 1) := by decide +kernel
theorem dL_passes_192 : decode cL_passes 192 = .ok (.iaload, 1) := by decide +kernel
theorem dL_passes_193 : decode cL_passes 193 = .ok (.iastore, 1) := by decide +kernel
theorem dL_passes_194 : decode cL_passes 194 = .ok (.iinc 4 1, 3) := by decide +kernel
theorem dL_passes_197 : decode cL_passes 197 = .ok (.iinc 6 1, 3) := by decide +kernel
theorem dL_passes_200 : decode cL_passes 200 = .ok (.goto (-56), 3) := by decide +kernel
theorem dL_passes_203 : decode cL_passes 203 = .ok (.iinc 5 1, 3) := by decide +kernel
theorem dL_passes_206 : decode cL_passes 206 = .ok (.goto (-200), 3) := by decide +kernel
theorem dL_passes_209 : decode cL_passes 209 = .ok (.iload 4, 2) := by decide +kernel
theorem dL_passes_211 : decode cL_passes 211 = .ok (.ireturn, 1) := by decide +kernel
set_option maxRecDepth 20000 in
theorem ggL_works_L_low : GoodIn wsL_works wsL_low := goodIn_r _ [6] (by decide +kernel) (by decide +kernel)
set_option maxRecDepth 20000 in
theorem gL_works_L_low : GoodIn wsL_works (va_wsS RL 75 yL_low wsL_low) := goodIn_app (goodIn_of _ (by decide +kernel)) ggL_works_L_low
set_option maxRecDepth 20000 in
theorem ggL_works_L_pass : GoodIn wsL_works wsL_pass := goodIn_ca (goodIn_ca (goodIn_r _ [9, 10, 11, 12, 13, 14, 15, 16, 17, 18, 19, 20, 21, 22, 23, 24, 25, 26, 27, 28, 29, 30, 31, 32, 33, 34, 35, 36, 37, 38, 39, 40, 41, 42, 43, 44, 45, 46, 47, 48, 49, 50, 51, 52, 53, 54, 55, 56, 57, 58, 59, 60, 61, 62, 63, 64, 65, 66, 67, 68, 69, 70, 71, 72, 73, 74, 75, 76, 77, 78, 79, 80, 81, 82, 83, 84, 137, 138, 139, 140, 141, 142, 143, 144, 145, 146, 147, 148, 149, 150, 151, 152, 153, 154, 155, 156, 157, 158, 159] (by decide +kernel) (by decide +kernel)) (goodIn_sub (fun _ h => List.mem_cons_of_mem _ (List.mem_append_left _ (List.mem_append_left _ (List.mem_append_right _ h)))) (by decide +kernel))) (goodIn_sub (fun _ h => List.mem_cons_of_mem _ (List.mem_append_left _ (List.mem_append_right _ h))) (by decide +kernel))
set_option maxRecDepth 20000 in
theorem gL_works_L_pass : GoodIn wsL_works (va_wsS RL 116 yL_pass wsL_pass) := goodIn_app (goodIn_of _ (by decide +kernel)) ggL_works_L_pass
set_option maxRecDepth 20000 in
theorem ggL_works_L_passes : GoodIn wsL_works wsL_passes := goodIn_r _ [87, 88, 89, 5, 90] (by decide +kernel) (by decide +kernel)
set_option maxRecDepth 20000 in
theorem gL_works_L_passes : GoodIn wsL_works (va_wsS RL 119 yL_passes wsL_passes) := goodIn_app (goodIn_of _ (by decide +kernel)) ggL_works_L_passes
set_option maxRecDepth 20000 in
theorem ggL_works_L_perform : GoodIn wsL_works wsL_perform := goodIn_ca (goodIn_ca (goodIn_r _ [93, 94, 11, 95, 96, 97, 15, 98, 19, 20, 73, 21, 31, 99, 100, 101, 102, 103, 104, 29, 30, 32, 33, 34, 35, 36, 37, 22, 23, 24, 38, 39, 40, 41, 42, 43, 44, 45, 46, 47, 48, 49, 50, 51, 52, 53, 54, 105, 65, 66, 58, 67, 68, 74, 75, 76, 77, 78, 143, 144, 145, 146, 137, 138, 139, 140, 141, 142, 147, 148, 149] (by decide +kernel) (by decide +kernel)) (goodIn_sub (fun _ h => List.mem_cons_of_mem _ (List.mem_append_left _ (List.mem_append_right _ h))) (by decide +kernel))) (goodIn_sub (fun _ h => List.mem_cons_of_mem _ (List.mem_append_right _ h)) (by decide +kernel))
set_option maxRecDepth 20000 in
theorem gL_works_L_perform : GoodIn wsL_works (va_wsS RL 123 yL_perform wsL_perform) := goodIn_app (goodIn_of _ (by decide +kernel)) ggL_works_L_perform
set_option maxRecDepth 20000 in
theorem ggL_works_L_notice : GoodIn wsL_works wsL_notice := goodIn_ca (goodIn_ca (goodIn_r _ [108, 94, 11, 109, 110, 111, 15, 112, 19, 20, 73, 21, 31, 113, 114, 99, 100, 101, 102, 103, 104, 29, 30, 32, 33, 34, 35, 36, 37, 22, 23, 24, 38, 39, 40, 41, 42, 43, 44, 45, 46, 47, 48, 49, 50, 51, 52, 53, 54, 74, 75, 76, 58, 77, 68, 78, 143, 144, 145, 146, 137, 138, 139, 140, 141, 142, 155, 156, 157, 158, 159, 147, 148, 149] (by decide +kernel) (by decide +kernel)) (goodIn_sub (fun _ h => List.mem_cons_of_mem _ (List.mem_append_left _ (List.mem_append_right _ h))) (by decide +kernel))) (goodIn_sub (fun _ h => List.mem_cons_of_mem _ (List.mem_append_right _ h)) (by decide +kernel))
set_option maxRecDepth 20000 in
theorem gL_works_L_notice : GoodIn wsL_works (va_wsS RL 125 yL_notice wsL_notice) := goodIn_app (goodIn_of _ (by decide +kernel)) ggL_works_L_notice
set_option maxRecDepth 20000 in
theorem ggL_works_L_settle : GoodIn wsL_works wsL_settle := goodIn_ca (goodIn_ca (goodIn_r _ [117, 94, 11, 118, 119, 120, 15, 121, 19, 20, 73, 21, 113, 122, 99, 100, 101, 102, 103, 104, 29, 30, 32, 33, 34, 35, 36, 37, 22, 23, 24, 38, 39, 40, 41, 42, 43, 44, 45, 46, 47, 48, 49, 50, 51, 52, 53, 54, 74, 75, 76, 58, 77, 68, 78, 79, 80, 81, 82, 60, 61, 62, 63, 83, 84, 143, 144, 145, 146, 137, 138, 139, 140, 141, 142, 155, 156, 157, 158, 159, 147, 148, 149, 150, 151, 152, 153, 154] (by decide +kernel) (by decide +kernel)) (goodIn_sub (fun _ h => List.mem_cons_of_mem _ (List.mem_append_left _ (List.mem_append_right _ h))) (by decide +kernel))) (goodIn_sub (fun _ h => List.mem_cons_of_mem _ (List.mem_append_right _ h)) (by decide +kernel))
set_option maxRecDepth 20000 in
theorem gL_works_L_settle : GoodIn wsL_works (va_wsS RL 127 yL_settle wsL_settle) := goodIn_app (goodIn_of _ (by decide +kernel)) ggL_works_L_settle
set_option maxRecDepth 20000 in
theorem ggL_works_L_state : GoodIn wsL_works wsL_state := goodIn_ca (goodIn_r _ [125, 94, 126, 127, 128, 15, 129, 73, 99, 100, 101, 102, 103, 104, 29, 30, 32, 33, 34, 35, 36, 37, 22, 23, 24, 38, 39, 40, 41, 42, 43, 44, 45, 46, 47, 48, 49, 50, 51, 52, 53, 54, 143, 144, 145, 146, 137, 138, 139, 140, 141, 142, 147, 148, 149] (by decide +kernel) (by decide +kernel)) (goodIn_sub (fun _ h => List.mem_cons_of_mem _ (List.mem_append_right _ h)) (by decide +kernel))
set_option maxRecDepth 20000 in
theorem gL_works_L_state : GoodIn wsL_works (va_wsS RL 129 yL_state wsL_state) := goodIn_app (goodIn_of _ (by decide +kernel)) ggL_works_L_state
set_option maxRecDepth 20000 in
theorem ggL_works_L_day : GoodIn wsL_works wsL_day := goodIn_ca (goodIn_r _ [132, 94, 133, 134, 135, 15, 136, 31, 99, 100, 101, 102, 103, 104, 29, 30, 32, 33, 34, 35, 36, 37, 22, 23, 24, 38, 39, 40, 41, 42, 43, 44, 45, 46, 47, 48, 49, 50, 51, 52, 53, 54, 143, 144, 145, 146, 137, 138, 139, 140, 141, 142, 147, 148, 149] (by decide +kernel) (by decide +kernel)) (goodIn_sub (fun _ h => List.mem_cons_of_mem _ (List.mem_append_right _ h)) (by decide +kernel))
set_option maxRecDepth 20000 in
theorem gL_works_L_day : GoodIn wsL_works (va_wsS RL 131 yL_day wsL_day) := goodIn_app (goodIn_of _ (by decide +kernel)) ggL_works_L_day
theorem dL_works_0 : decode cL_works 0 = .ok (.iload_n 1, 1) := by decide +kernel
theorem dL_works_1 : decode cL_works 1 = .ok (.iconst 4, 1) := by decide +kernel
theorem dL_works_2 : decode cL_works 2 = .ok (.if_icmp .ge 130, 3) := by decide +kernel
theorem dL_works_5 : decode cL_works 5 = .ok (.iconst 1, 1) := by decide +kernel
theorem dL_works_6 : decode cL_works 6 = .ok (.iload_n 3, 1) := by decide +kernel
theorem dL_works_7 : decode cL_works 7 = .ok (.iload_n 2, 1) := by decide +kernel
theorem dL_works_8 : decode cL_works 8 = .ok (.bipush 96, 2) := by decide +kernel
theorem dL_works_10 : decode cL_works 10 = .ok (.iand, 1) := by decide +kernel
theorem dL_works_11 : decode cL_works 11 = .ok (.ifCond .ne 8, 3) := by decide +kernel
theorem dL_works_14 : decode cL_works 14 = .ok (.bipush 100, 2) := by decide +kernel
theorem dL_works_16 : decode cL_works 16 = .ok (.goto 5, 3) := by decide +kernel
theorem dL_works_19 : decode cL_works 19 = .ok (.bipush 6, 2) := by decide +kernel
theorem dL_works_21 : decode cL_works 21 = .ok (.invokestatic 75, 3) := by decide +kernel
theorem dL_works_24 : decode cL_works 24 = .ok (.iadd, 1) := by decide +kernel
theorem dL_works_25 : decode cL_works 25 = .ok (.istore 7, 2) := by decide +kernel
theorem dL_works_27 : decode cL_works 27 = .ok (.aload_n 0, 1) := by decide +kernel
theorem dL_works_28 : decode cL_works 28 = .ok (.iconst 0, 1) := by decide +kernel
theorem dL_works_29 : decode cL_works 29 = .ok (.invokestatic 116, 3) := by decide +kernel
theorem dL_works_32 : decode cL_works 32 = .ok (.bipush (-72), 2) := by decide +kernel
theorem dL_works_34 : decode cL_works 34 = .ok (.if_icmp .ne 36, 3) := by decide +kernel
theorem dL_works_37 : decode cL_works 37 = .ok (.aload_n 0, 1) := by decide +kernel
theorem dL_works_38 : decode cL_works 38 = .ok (.bipush 101, 2) := by decide +kernel
theorem dL_works_40 : decode cL_works 40 = .ok (.invokestatic 116, 3) := by decide +kernel
theorem dL_works_43 : decode cL_works 43 = .ok (.bipush (-72), 2) := by decide +kernel
theorem dL_works_45 : decode cL_works 45 = .ok (.if_icmp .ne 25, 3) := by decide +kernel
theorem dL_works_48 : decode cL_works 48 = .ok (.aload_n 0, 1) := by decide +kernel
theorem dL_works_49 : decode cL_works 49 = .ok (.ldc 84, 2) := by decide +kernel
theorem dL_works_51 : decode cL_works 51 = .ok (.invokestatic 116, 3) := by decide +kernel
theorem dL_works_54 : decode cL_works 54 = .ok (.bipush (-72), 2) := by decide +kernel
theorem dL_works_56 : decode cL_works 56 = .ok (.if_icmp .ne 14, 3) := by decide +kernel
theorem dL_works_59 : decode cL_works 59 = .ok (.aload_n 0, 1) := by decide +kernel
theorem dL_works_60 : decode cL_works 60 = .ok (.ldc 118, 2) := by decide +kernel
theorem dL_works_62 : decode cL_works 62 = .ok (.invokestatic 116, 3) := by decide +kernel
theorem dL_works_65 : decode cL_works 65 = .ok (.bipush (-72), 2) := by decide +kernel
theorem dL_works_67 : decode cL_works 67 = .ok (.if_icmp .eq 5, 3) := by decide +kernel
theorem dL_works_70 : decode cL_works 70 = .ok (.iconst 0, 1) := by decide +kernel
theorem dL_works_71 : decode cL_works 71 = .ok (.ireturn, 1) := by decide +kernel
theorem dL_works_72 : decode cL_works 72 = .ok (.aload 6, 2) := by decide +kernel
theorem dL_works_74 : decode cL_works 74 = .ok (.iconst 0, 1) := by decide +kernel
theorem dL_works_75 : decode cL_works 75 = .ok (.iaload, 1) := by decide +kernel
theorem dL_works_76 : decode cL_works 76 = .ok (.iload 7, 2) := by decide +kernel
theorem dL_works_78 : decode cL_works 78 = .ok (.iadd, 1) := by decide +kernel
theorem dL_works_79 : decode cL_works 79 = .ok (.sipush 9999, 3) := by decide +kernel
theorem dL_works_82 : decode cL_works 82 = .ok (.if_icmp .le 20, 3) := by decide +kernel
theorem dL_works_85 : decode cL_works 85 = .ok (.aload_n 0, 1) := by decide +kernel
theorem dL_works_86 : decode cL_works 86 = .ok (.iload 7, 2) := by decide +kernel
theorem dL_works_88 : decode cL_works 88 = .ok (.invokestatic 116, 3) := by decide +kernel
theorem dL_works_91 : decode cL_works 91 = .ok (.bipush (-73), 2) := by decide +kernel
theorem dL_works_93 : decode cL_works 93 = .ok (.if_icmp .ne 7, 3) := by decide +kernel
theorem dL_works_96 : decode cL_works 96 = .ok (.iconst 1, 1) := by decide +kernel
theorem dL_works_97 : decode cL_works 97 = .ok (.goto 4, 3) := by decide +kernel
theorem dL_works_100 : decode cL_works 100 = .ok (.iconst 0, 1) := by decide +kernel
theorem dL_works_101 : decode cL_works 101 = .ok (.ireturn, 1) := by decide +kernel
theorem dL_works_102 : decode cL_works 102 = .ok (.iload 7, 2) := by decide +kernel
theorem dL_works_104 : decode cL_works 104 = .ok (.aload 4, 2) := by decide +kernel
theorem dL_works_106 : decode cL_works 106 = .ok (.aload 5, 2) := by decide +kernel
theorem dL_works_108 : decode cL_works 108 = .ok (.aload 6, 2) := by decide +kernel
theorem dL_works_110 : decode cL_works 110 = .ok (.invokestatic 119, 3) := by decide +kernel
theorem dL_works_113 : decode cL_works 113 = .ok (.istore 8, 2) := by decide +kernel
theorem dL_works_115 : decode cL_works 115 = .ok (.aload_n 0, 1) := by decide +kernel
theorem dL_works_116 : decode cL_works 116 = .ok (.iload 7, 2) := by decide +kernel
theorem dL_works_118 : decode cL_works 118 = .ok (.invokestatic 116, 3) := by decide +kernel
theorem dL_works_121 : decode cL_works 121 = .ok (.iload 8, 2) := by decide +kernel
theorem dL_works_123 : decode cL_works 123 = .ok (.if_icmp .ne 7, 3) := by decide +kernel
theorem dL_works_126 : decode cL_works 126 = .ok (.iconst 1, 1) := by decide +kernel
theorem dL_works_127 : decode cL_works 127 = .ok (.goto 4, 3) := by decide +kernel
theorem dL_works_130 : decode cL_works 130 = .ok (.iconst 0, 1) := by decide +kernel
theorem dL_works_131 : decode cL_works 131 = .ok (.ireturn, 1) := by decide +kernel
theorem dL_works_132 : decode cL_works 132 = .ok (.iload_n 2, 1) := by decide +kernel
theorem dL_works_133 : decode cL_works 133 = .ok (.aload 6, 2) := by decide +kernel
theorem dL_works_135 : decode cL_works 135 = .ok (.iconst 2, 1) := by decide +kernel
theorem dL_works_136 : decode cL_works 136 = .ok (.iaload, 1) := by decide +kernel
theorem dL_works_137 : decode cL_works 137 = .ok (.iconst 1, 1) := by decide +kernel
theorem dL_works_138 : decode cL_works 138 = .ok (.iadd, 1) := by decide +kernel
theorem dL_works_139 : decode cL_works 139 = .ok (.invokestatic 75, 3) := by decide +kernel
theorem dL_works_142 : decode cL_works 142 = .ok (.istore 7, 2) := by decide +kernel
theorem dL_works_144 : decode cL_works 144 = .ok (.iload 7, 2) := by decide +kernel
theorem dL_works_146 : decode cL_works 146 = .ok (.aload 6, 2) := by decide +kernel
theorem dL_works_148 : decode cL_works 148 = .ok (.iconst 2, 1) := by decide +kernel
theorem dL_works_149 : decode cL_works 149 = .ok (.iaload, 1) := by decide +kernel
theorem dL_works_150 : decode cL_works 150 = .ok (.if_icmp .ne 62, 3) := by decide +kernel
theorem dL_works_153 : decode cL_works 153 = .ok (.aload_n 0, 1) := by decide +kernel
theorem dL_works_154 : decode cL_works 154 = .ok (.iload 7, 2) := by decide +kernel
theorem dL_works_156 : decode cL_works 156 = .ok (.invokestatic 123, 3) := by decide +kernel
theorem dL_works_159 : decode cL_works 159 = .ok (.bipush (-71), 2) := by decide +kernel
theorem dL_works_161 : decode cL_works 161 = .ok (.if_icmp .ne 49, 3) := by decide +kernel
theorem dL_works_164 : decode cL_works 164 = .ok (.aload_n 0, 1) := by decide +kernel
theorem dL_works_165 : decode cL_works 165 = .ok (.iconst (-1), 1) := by decide +kernel
theorem dL_works_166 : decode cL_works 166 = .ok (.invokestatic 125, 3) := by decide +kernel
theorem dL_works_169 : decode cL_works 169 = .ok (.bipush (-71), 2) := by decide +kernel
theorem dL_works_171 : decode cL_works 171 = .ok (.if_icmp .ne 39, 3) := by decide +kernel
theorem dL_works_174 : decode cL_works 174 = .ok (.aload_n 0, 1) := by decide +kernel
theorem dL_works_175 : decode cL_works 175 = .ok (.iload 7, 2) := by decide +kernel
theorem dL_works_177 : decode cL_works 177 = .ok (.invokestatic 127, 3) := by decide +kernel
theorem dL_works_180 : decode cL_works 180 = .ok (.bipush (-71), 2) := by decide +kernel
theorem dL_works_182 : decode cL_works 182 = .ok (.if_icmp .ne 28, 3) := by decide +kernel
theorem dL_works_185 : decode cL_works 185 = .ok (.aload_n 0, 1) := by decide +kernel
theorem dL_works_186 : decode cL_works 186 = .ok (.iload 7, 2) := by decide +kernel
theorem dL_works_188 : decode cL_works 188 = .ok (.invokestatic 129, 3) := by decide +kernel
theorem dL_works_191 : decode cL_works 191 = .ok (.bipush (-71), 2) := by decide +kernel
theorem dL_works_193 : decode cL_works 193 = .ok (.if_icmp .ne 17, 3) := by decide +kernel
theorem dL_works_196 : decode cL_works 196 = .ok (.aload_n 0, 1) := by decide +kernel
theorem dL_works_197 : decode cL_works 197 = .ok (.iconst (-1), 1) := by decide +kernel
theorem dL_works_198 : decode cL_works 198 = .ok (.invokestatic 131, 3) := by decide +kernel
theorem dL_works_201 : decode cL_works 201 = .ok (.bipush (-71), 2) := by decide +kernel
theorem dL_works_203 : decode cL_works 203 = .ok (.if_icmp .ne 7, 3) := by decide +kernel
theorem dL_works_206 : decode cL_works 206 = .ok (.iconst 1, 1) := by decide +kernel
theorem dL_works_207 : decode cL_works 207 = .ok (.goto 4, 3) := by decide +kernel
theorem dL_works_210 : decode cL_works 210 = .ok (.iconst 0, 1) := by decide +kernel
theorem dL_works_211 : decode cL_works 211 = .ok (.ireturn, 1) := by decide +kernel
theorem dL_works_212 : decode cL_works 212 = .ok (.aload 4, 2) := by decide +kernel
theorem dL_works_214 : decode cL_works 214 = .ok (.iload 7, 2) := by decide +kernel
theorem dL_works_216 : decode cL_works 216 = .ok (.iaload, 1) := by decide +kernel
theorem dL_works_217 : decode cL_works 217 = .ok (.iconst 5, 1) := by decide +kernel
theorem dL_works_218 : decode cL_works 218 = .ok (.ishr, 1) := by decide +kernel
theorem dL_works_219 : decode cL_works 219 = .ok (.bipush 7, 2) := by decide +kernel
theorem dL_works_221 : decode cL_works 221 = .ok (.iand, 1) := by decide +kernel
theorem dL_works_222 : decode cL_works 222 = .ok (.istore 8, 2) := by decide +kernel
theorem dL_works_224 : decode cL_works 224 = .ok (.iload_n 1, 1) := by decide +kernel
theorem dL_works_225 : decode cL_works 225 = .ok (.iconst 4, 1) := by decide +kernel
theorem dL_works_226 : decode cL_works 226 = .ok (.if_icmp .ne 110, 3) := by decide +kernel
theorem dL_works_229 : decode cL_works 229 = .ok (.iload 8, 2) := by decide +kernel
theorem dL_works_231 : decode cL_works 231 = .ok (.ifCond .eq 26, 3) := by decide +kernel
theorem dL_works_234 : decode cL_works 234 = .ok (.iload 8, 2) := by decide +kernel
theorem dL_works_236 : decode cL_works 236 = .ok (.iconst 2, 1) := by decide +kernel
theorem dL_works_237 : decode cL_works 237 = .ok (.if_icmp .eq 20, 3) := by decide +kernel
theorem dL_works_240 : decode cL_works 240 = .ok (.aload_n 0, 1) := by decide +kernel
theorem dL_works_241 : decode cL_works 241 = .ok (.iload 7, 2) := by decide +kernel
theorem dL_works_243 : decode cL_works 243 = .ok (.invokestatic 123, 3) := by decide +kernel
theorem dL_works_246 : decode cL_works 246 = .ok (.bipush (-73), 2) := by decide +kernel
theorem dL_works_248 : decode cL_works 248 = .ok (.if_icmp .ne 7, 3) := by decide +kernel
theorem dL_works_251 : decode cL_works 251 = .ok (.iconst 1, 1) := by decide +kernel
theorem dL_works_252 : decode cL_works 252 = .ok (.goto 4, 3) := by decide +kernel
theorem dL_works_255 : decode cL_works 255 = .ok (.iconst 0, 1) := by decide +kernel
theorem dL_works_256 : decode cL_works 256 = .ok (.ireturn, 1) := by decide +kernel
theorem dL_works_257 : decode cL_works 257 = .ok (.iload 8, 2) := by decide +kernel
theorem dL_works_259 : decode cL_works 259 = .ok (.iconst 2, 1) := by decide +kernel
theorem dL_works_260 : decode cL_works 260 = .ok (.if_icmp .eq 15, 3) := by decide +kernel
theorem dL_works_263 : decode cL_works 263 = .ok (.aload 6, 2) := by decide +kernel
theorem dL_works_265 : decode cL_works 265 = .ok (.iconst 0, 1) := by decide +kernel
theorem dL_works_266 : decode cL_works 266 = .ok (.iaload, 1) := by decide +kernel
theorem dL_works_267 : decode cL_works 267 = .ok (.aload 5, 2) := by decide +kernel
theorem dL_works_269 : decode cL_works 269 = .ok (.iload 7, 2) := by decide +kernel
theorem dL_works_271 : decode cL_works 271 = .ok (.iaload, 1) := by decide +kernel
theorem dL_works_272 : decode cL_works 272 = .ok (.if_icmp .le 7, 3) := by decide +kernel
theorem dL_works_275 : decode cL_works 275 = .ok (.iconst 1, 1) := by decide +kernel
theorem dL_works_276 : decode cL_works 276 = .ok (.goto 4, 3) := by decide +kernel
theorem dL_works_279 : decode cL_works 279 = .ok (.iconst 0, 1) := by decide +kernel
theorem dL_works_280 : decode cL_works 280 = .ok (.istore 9, 2) := by decide +kernel
theorem dL_works_282 : decode cL_works 282 = .ok (.aload 4, 2) := by decide +kernel
theorem dL_works_284 : decode cL_works 284 = .ok (.iload 7, 2) := by decide +kernel
theorem dL_works_286 : decode cL_works 286 = .ok (.dup2, 1) := by decide +kernel
theorem dL_works_287 : decode cL_works 287 = .ok (.iaload, 1) := by decide +kernel
theorem dL_works_288 : decode cL_works 288 = .ok (.iload 8, 2) := by decide +kernel
theorem dL_works_290 : decode cL_works 290 = .ok (.ifCond .ne 8, 3) := by decide +kernel
theorem dL_works_293 : decode cL_works 293 = .ok (.bipush 32, 2) := by decide +kernel
theorem dL_works_295 : decode cL_works 295 = .ok (.goto 5, 3) := by decide +kernel
theorem dL_works_298 : decode cL_works 298 = .ok (.bipush (-32), 2) := by decide +kernel
theorem dL_works_300 : decode cL_works 300 = .ok (.iadd, 1) := by decide +kernel
theorem dL_works_301 : decode cL_works 301 = .ok (.iastore, 1) := by decide +kernel
theorem dL_works_302 : decode cL_works 302 = .ok (.aload 5, 2) := by decide +kernel
theorem dL_works_304 : decode cL_works 304 = .ok (.iload 7, 2) := by decide +kernel
theorem dL_works_306 : decode cL_works 306 = .ok (.aload 6, 2) := by decide +kernel
theorem dL_works_308 : decode cL_works 308 = .ok (.iconst 0, 1) := by decide +kernel
theorem dL_works_309 : decode cL_works 309 = .ok (.iaload, 1) := by decide +kernel
theorem dL_works_310 : decode cL_works 310 = .ok (.iastore, 1) := by decide +kernel
theorem dL_works_311 : decode cL_works 311 = .ok (.aload_n 0, 1) := by decide +kernel
theorem dL_works_312 : decode cL_works 312 = .ok (.iload 7, 2) := by decide +kernel
theorem dL_works_314 : decode cL_works 314 = .ok (.invokestatic 123, 3) := by decide +kernel
theorem dL_works_317 : decode cL_works 317 = .ok (.iload 9, 2) := by decide +kernel
theorem dL_works_319 : decode cL_works 319 = .ok (.ifCond .eq 7, 3) := by decide +kernel
theorem dL_works_322 : decode cL_works 322 = .ok (.iconst 1, 1) := by decide +kernel
theorem dL_works_323 : decode cL_works 323 = .ok (.goto 4, 3) := by decide +kernel
theorem dL_works_326 : decode cL_works 326 = .ok (.iconst 0, 1) := by decide +kernel
theorem dL_works_327 : decode cL_works 327 = .ok (.if_icmp .ne 7, 3) := by decide +kernel
theorem dL_works_330 : decode cL_works 330 = .ok (.iconst 1, 1) := by decide +kernel
theorem dL_works_331 : decode cL_works 331 = .ok (.goto 4, 3) := by decide +kernel
theorem dL_works_334 : decode cL_works 334 = .ok (.iconst 0, 1) := by decide +kernel
theorem dL_works_335 : decode cL_works 335 = .ok (.ireturn, 1) := by decide +kernel
theorem dL_works_336 : decode cL_works 336 = .ok (.iload_n 1, 1) := by decide +kernel
theorem dL_works_337 : decode cL_works 337 = .ok (.bipush 8, 2) := by decide +kernel
theorem dL_works_339 : decode cL_works 339 = .ok (.if_icmp .ge 138, 3) := by decide +kernel
theorem dL_works_342 : decode cL_works 342 = .ok (.iconst 0, 1) := by decide +kernel
theorem dL_works_343 : decode cL_works 343 = .ok (.istore 9, 2) := by decide +kernel
theorem dL_works_345 : decode cL_works 345 = .ok (.iload 9, 2) := by decide +kernel
theorem dL_works_347 : decode cL_works 347 = .ok (.aload 6, 2) := by decide +kernel
theorem dL_works_349 : decode cL_works 349 = .ok (.iconst 2, 1) := by decide +kernel
theorem dL_works_350 : decode cL_works 350 = .ok (.iaload, 1) := by decide +kernel
theorem dL_works_351 : decode cL_works 351 = .ok (.if_icmp .ge 33, 3) := by decide +kernel
theorem dL_works_354 : decode cL_works 354 = .ok (.aload 4, 2) := by decide +kernel
theorem dL_works_356 : decode cL_works 356 = .ok (.iload 7, 2) := by decide +kernel
theorem dL_works_358 : decode cL_works 358 = .ok (.iaload, 1) := by decide +kernel
theorem dL_works_359 : decode cL_works 359 = .ok (.iconst 5, 1) := by decide +kernel
theorem dL_works_360 : decode cL_works 360 = .ok (.ishr, 1) := by decide +kernel
theorem dL_works_361 : decode cL_works 361 = .ok (.bipush 7, 2) := by decide +kernel
theorem dL_works_363 : decode cL_works 363 = .ok (.iand, 1) := by decide +kernel
theorem dL_works_364 : decode cL_works 364 = .ok (.ifCond .eq 20, 3) := by decide +kernel
theorem dL_works_367 : decode cL_works 367 = .ok (.iload 7, 2) := by decide +kernel
theorem dL_works_369 : decode cL_works 369 = .ok (.iconst 1, 1) := by decide +kernel
theorem dL_works_370 : decode cL_works 370 = .ok (.iadd, 1) := by decide +kernel
theorem dL_works_371 : decode cL_works 371 = .ok (.aload 6, 2) := by decide +kernel
theorem dL_works_373 : decode cL_works 373 = .ok (.iconst 2, 1) := by decide +kernel
theorem dL_works_374 : decode cL_works 374 = .ok (.iaload, 1) := by decide +kernel
theorem dL_works_375 : decode cL_works 375 = .ok (.irem, 1) := by decide +kernel
theorem dL_works_376 : decode cL_works 376 = .ok (.istore 7, 2) := by decide +kernel
theorem dL_works_378 : decode cL_works 378 = .ok (.iinc 9 1, 3) := by decide +kernel
theorem dL_works_381 : decode cL_works 381 = .ok (.goto (-36), 3) := by decide +kernel
theorem dL_works_384 : decode cL_works 384 = .ok (.aload 4, 2) := by decide +kernel
theorem dL_works_386 : decode cL_works 386 = .ok (.iload 7, 2) := by decide +kernel
theorem dL_works_388 : decode cL_works 388 = .ok (.iaload, 1) := by decide +kernel
theorem dL_works_389 : decode cL_works 389 = .ok (.iconst 5, 1) := by decide +kernel
theorem dL_works_390 : decode cL_works 390 = .ok (.ishr, 1) := by decide +kernel
theorem dL_works_391 : decode cL_works 391 = .ok (.bipush 7, 2) := by decide +kernel
theorem dL_works_393 : decode cL_works 393 = .ok (.iand, 1) := by decide +kernel
theorem dL_works_394 : decode cL_works 394 = .ok (.ifCond .ne 15, 3) := by decide +kernel
theorem dL_works_397 : decode cL_works 397 = .ok (.aload 6, 2) := by decide +kernel
theorem dL_works_399 : decode cL_works 399 = .ok (.iconst 0, 1) := by decide +kernel
theorem dL_works_400 : decode cL_works 400 = .ok (.iaload, 1) := by decide +kernel
theorem dL_works_401 : decode cL_works 401 = .ok (.aload 5, 2) := by decide +kernel
theorem dL_works_403 : decode cL_works 403 = .ok (.iload 7, 2) := by decide +kernel
theorem dL_works_405 : decode cL_works 405 = .ok (.iaload, 1) := by decide +kernel
theorem dL_works_406 : decode cL_works 406 = .ok (.if_icmp .gt 20, 3) := by decide +kernel
theorem dL_works_409 : decode cL_works 409 = .ok (.aload_n 0, 1) := by decide +kernel
theorem dL_works_410 : decode cL_works 410 = .ok (.iload 7, 2) := by decide +kernel
theorem dL_works_412 : decode cL_works 412 = .ok (.invokestatic 125, 3) := by decide +kernel
theorem dL_works_415 : decode cL_works 415 = .ok (.bipush (-73), 2) := by decide +kernel
theorem dL_works_417 : decode cL_works 417 = .ok (.if_icmp .ne 7, 3) := by decide +kernel
theorem dL_works_420 : decode cL_works 420 = .ok (.iconst 1, 1) := by decide +kernel
theorem dL_works_421 : decode cL_works 421 = .ok (.goto 4, 3) := by decide +kernel
theorem dL_works_424 : decode cL_works 424 = .ok (.iconst 0, 1) := by decide +kernel
theorem dL_works_425 : decode cL_works 425 = .ok (.ireturn, 1) := by decide +kernel
theorem dL_works_426 : decode cL_works 426 = .ok (.aload 4, 2) := by decide +kernel
theorem dL_works_428 : decode cL_works 428 = .ok (.iload 7, 2) := by decide +kernel
theorem dL_works_430 : decode cL_works 430 = .ok (.dup2, 1) := by decide +kernel
theorem dL_works_431 : decode cL_works 431 = .ok (.iaload, 1) := by decide +kernel
theorem dL_works_432 : decode cL_works 432 = .ok (.bipush 64, 2) := by decide +kernel
theorem dL_works_434 : decode cL_works 434 = .ok (.iadd, 1) := by decide +kernel
theorem dL_works_435 : decode cL_works 435 = .ok (.iastore, 1) := by decide +kernel
theorem dL_works_436 : decode cL_works 436 = .ok (.aload 5, 2) := by decide +kernel
theorem dL_works_438 : decode cL_works 438 = .ok (.iload 7, 2) := by decide +kernel
theorem dL_works_440 : decode cL_works 440 = .ok (.aload 6, 2) := by decide +kernel
theorem dL_works_442 : decode cL_works 442 = .ok (.iconst 0, 1) := by decide +kernel
theorem dL_works_443 : decode cL_works 443 = .ok (.iaload, 1) := by decide +kernel
theorem dL_works_444 : decode cL_works 444 = .ok (.aload 4, 2) := by decide +kernel
theorem dL_works_446 : decode cL_works 446 = .ok (.iload 7, 2) := by decide +kernel
theorem dL_works_448 : decode cL_works 448 = .ok (.iaload, 1) := by decide +kernel
theorem dL_works_449 : decode cL_works 449 = .ok (.bipush 8, 2) := by decide +kernel
theorem dL_works_451 : decode cL_works 451 = .ok (.ishr, 1) := by decide +kernel
theorem dL_works_452 : decode cL_works 452 = .ok (.bipush 63, 2) := by decide +kernel
theorem dL_works_454 : decode cL_works 454 = .ok (.iand, 1) := by decide +kernel
theorem dL_works_455 : decode cL_works 455 = .ok (.iadd, 1) := by decide +kernel
theorem dL_works_456 : decode cL_works 456 = .ok (.iastore, 1) := by decide +kernel
theorem dL_works_457 : decode cL_works 457 = .ok (.aload_n 0, 1) := by decide +kernel
theorem dL_works_458 : decode cL_works 458 = .ok (.iload 7, 2) := by decide +kernel
theorem dL_works_460 : decode cL_works 460 = .ok (.invokestatic 125, 3) := by decide +kernel
theorem dL_works_463 : decode cL_works 463 = .ok (.aload 5, 2) := by decide +kernel
theorem dL_works_465 : decode cL_works 465 = .ok (.iload 7, 2) := by decide +kernel
theorem dL_works_467 : decode cL_works 467 = .ok (.iaload, 1) := by decide +kernel
theorem dL_works_468 : decode cL_works 468 = .ok (.if_icmp .ne 7, 3) := by decide +kernel
theorem dL_works_471 : decode cL_works 471 = .ok (.iconst 1, 1) := by decide +kernel
theorem dL_works_472 : decode cL_works 472 = .ok (.goto 4, 3) := by decide +kernel
theorem dL_works_475 : decode cL_works 475 = .ok (.iconst 0, 1) := by decide +kernel
theorem dL_works_476 : decode cL_works 476 = .ok (.ireturn, 1) := by decide +kernel
theorem dL_works_477 : decode cL_works 477 = .ok (.iload 8, 2) := by decide +kernel
theorem dL_works_479 : decode cL_works 479 = .ok (.iconst 3, 1) := by decide +kernel
theorem dL_works_480 : decode cL_works 480 = .ok (.if_icmp .eq 20, 3) := by decide +kernel
theorem dL_works_483 : decode cL_works 483 = .ok (.aload_n 0, 1) := by decide +kernel
theorem dL_works_484 : decode cL_works 484 = .ok (.iload 7, 2) := by decide +kernel
theorem dL_works_486 : decode cL_works 486 = .ok (.invokestatic 127, 3) := by decide +kernel
theorem dL_works_489 : decode cL_works 489 = .ok (.bipush (-73), 2) := by decide +kernel
theorem dL_works_491 : decode cL_works 491 = .ok (.if_icmp .ne 7, 3) := by decide +kernel
theorem dL_works_494 : decode cL_works 494 = .ok (.iconst 1, 1) := by decide +kernel
theorem dL_works_495 : decode cL_works 495 = .ok (.goto 4, 3) := by decide +kernel
theorem dL_works_498 : decode cL_works 498 = .ok (.iconst 0, 1) := by decide +kernel
theorem dL_works_499 : decode cL_works 499 = .ok (.ireturn, 1) := by decide +kernel
theorem dL_works_500 : decode cL_works 500 = .ok (.aload 4, 2) := by decide +kernel
theorem dL_works_502 : decode cL_works 502 = .ok (.iload 7, 2) := by decide +kernel
theorem dL_works_504 : decode cL_works 504 = .ok (.dup2, 1) := by decide +kernel
theorem dL_works_505 : decode cL_works 505 = .ok (.iaload, 1) := by decide +kernel
theorem dL_works_506 : decode cL_works 506 = .ok (.bipush 32, 2) := by decide +kernel
theorem dL_works_508 : decode cL_works 508 = .ok (.iadd, 1) := by decide +kernel
theorem dL_works_509 : decode cL_works 509 = .ok (.iastore, 1) := by decide +kernel
theorem dL_works_510 : decode cL_works 510 = .ok (.aload 5, 2) := by decide +kernel
theorem dL_works_512 : decode cL_works 512 = .ok (.iload 7, 2) := by decide +kernel
theorem dL_works_514 : decode cL_works 514 = .ok (.aload 6, 2) := by decide +kernel
theorem dL_works_516 : decode cL_works 516 = .ok (.iconst 0, 1) := by decide +kernel
theorem dL_works_517 : decode cL_works 517 = .ok (.iaload, 1) := by decide +kernel
theorem dL_works_518 : decode cL_works 518 = .ok (.iastore, 1) := by decide +kernel
theorem dL_works_519 : decode cL_works 519 = .ok (.aload_n 0, 1) := by decide +kernel
theorem dL_works_520 : decode cL_works 520 = .ok (.iload 7, 2) := by decide +kernel
theorem dL_works_522 : decode cL_works 522 = .ok (.invokestatic 127, 3) := by decide +kernel
theorem dL_works_525 : decode cL_works 525 = .ok (.aload 4, 2) := by decide +kernel
theorem dL_works_527 : decode cL_works 527 = .ok (.iload 7, 2) := by decide +kernel
theorem dL_works_529 : decode cL_works 529 = .ok (.iaload, 1) := by decide +kernel
theorem dL_works_530 : decode cL_works 530 = .ok (.bipush 14, 2) := by decide +kernel
theorem dL_works_532 : decode cL_works 532 = .ok (.ishr, 1) := by decide +kernel
theorem dL_works_533 : decode cL_works 533 = .ok (.if_icmp .ne 7, 3) := by decide +kernel
theorem dL_works_536 : decode cL_works 536 = .ok (.iconst 1, 1) := by decide +kernel
theorem dL_works_537 : decode cL_works 537 = .ok (.goto 4, 3) := by decide +kernel
theorem dL_works_540 : decode cL_works 540 = .ok (.iconst 0, 1) := by decide +kernel
theorem dL_works_541 : decode cL_works 541 = .ok (.ireturn, 1) := by decide +kernel
set_option maxRecDepth 20000 in
theorem ggL_isTold_L_latest : GoodIn wsL_isTold wsL_latest := goodIn_ca (goodIn_r _ [5, 6, 7, 8, 9, 10, 11, 12, 13, 14, 15, 16, 17, 18, 19, 20, 21, 22, 23, 24, 25, 26, 27, 28, 183, 184, 185, 186, 187, 188, 189, 190, 191, 192, 193] (by decide +kernel) (by decide +kernel)) (goodIn_sub (fun _ h => List.mem_cons_of_mem _ (List.mem_append_left _ (List.mem_append_right _ h))) (by decide +kernel))
set_option maxRecDepth 20000 in
theorem gL_isTold_L_latest : GoodIn wsL_isTold (va_wsS RL 133 yL_latest wsL_latest) := goodIn_app (goodIn_of _ (by decide +kernel)) ggL_isTold_L_latest
set_option maxRecDepth 20000 in
theorem ggL_isTold_L_version : GoodIn wsL_isTold wsL_version := goodIn_ca (goodIn_ca (goodIn_r _ [31, 32, 6, 33, 34, 35, 10, 36, 37, 38, 39, 40, 41, 42, 43, 44, 45, 46, 47, 48, 49, 50, 17, 18, 19, 51, 52, 53, 54, 55, 56, 57, 58, 59, 60, 61, 62, 63, 64, 65, 66, 67, 12, 13, 14, 15, 16, 68, 69, 70, 71, 25, 26, 27, 28, 183, 184, 185, 186, 187, 188, 194, 195, 196, 197, 198, 199, 200, 201, 189, 190, 191, 192, 193] (by decide +kernel) (by decide +kernel)) (goodIn_sub (fun _ h => List.mem_cons_of_mem _ (List.mem_append_right _ h)) (by decide +kernel))) (goodIn_sub (fun _ h => List.mem_cons_of_mem _ (List.mem_append_left _ (List.mem_append_right _ h))) (by decide +kernel))
set_option maxRecDepth 20000 in
theorem gL_isTold_L_version : GoodIn wsL_isTold (va_wsS RL 99 yL_version wsL_version) := goodIn_app (goodIn_of _ (by decide +kernel)) ggL_isTold_L_version
set_option maxRecDepth 20000 in
theorem ggL_isTold_L_offered : GoodIn wsL_isTold wsL_offered := goodIn_ca (goodIn_r _ [74, 32, 75, 76, 77, 10, 78, 37, 38, 39, 40, 41, 42, 43, 44, 45, 46, 47, 48, 49, 50, 17, 18, 19, 51, 52, 53, 54, 55, 56, 57, 58, 59, 60, 61, 62, 63, 64, 65, 66, 67, 79, 80, 81, 82, 83, 84, 85, 86, 87, 88, 71, 68, 69, 70, 25, 26, 27, 28, 20, 21, 22, 23, 24, 183, 184, 185, 186, 187, 188, 194, 195, 196, 197, 198, 199, 200, 201, 189, 190, 191, 192, 193] (by decide +kernel) (by decide +kernel)) (goodIn_sub (fun _ h => List.mem_cons_of_mem _ (List.mem_append_right _ h)) (by decide +kernel))
set_option maxRecDepth 20000 in
theorem gL_isTold_L_offered : GoodIn wsL_isTold (va_wsS RL 101 yL_offered wsL_offered) := goodIn_app (goodIn_of _ (by decide +kernel)) ggL_isTold_L_offered
set_option maxRecDepth 20000 in
theorem ggL_isTold_L_whyNot : GoodIn wsL_isTold wsL_whyNot := goodIn_ca (goodIn_r _ [91, 32, 92, 93, 94, 10, 95, 37, 38, 39, 40, 41, 42, 43, 44, 45, 46, 47, 48, 49, 50, 17, 18, 19, 51, 52, 53, 54, 55, 56, 57, 58, 59, 60, 61, 62, 63, 64, 65, 66, 67, 96, 97, 98, 99, 100, 101, 102, 103, 104, 82, 105, 106, 79, 80, 81, 83, 84, 107, 108, 109, 110, 111, 112, 113, 114, 183, 184, 185, 186, 187, 188, 194, 195, 196, 197, 198, 199, 200, 201] (by decide +kernel) (by decide +kernel)) (goodIn_sub (fun _ h => List.mem_cons_of_mem _ (List.mem_append_right _ h)) (by decide +kernel))
set_option maxRecDepth 20000 in
theorem gL_isTold_L_whyNot : GoodIn wsL_isTold (va_wsS RL 104 yL_whyNot wsL_whyNot) := goodIn_app (goodIn_of _ (by decide +kernel)) ggL_isTold_L_whyNot
set_option maxRecDepth 20000 in
theorem ggL_isTold_L_reason : GoodIn wsL_isTold wsL_reason := goodIn_r _ [117] (by decide +kernel) (by decide +kernel)
set_option maxRecDepth 20000 in
theorem gL_isTold_L_reason : GoodIn wsL_isTold (va_wsS RL 108 yL_reason wsL_reason) := goodIn_app (goodIn_of _ (by decide +kernel)) ggL_isTold_L_reason
set_option maxRecDepth 20000 in
theorem ggL_isTold_L_owes : GoodIn wsL_isTold wsL_owes := goodIn_ca (goodIn_ca (goodIn_r _ [120, 32, 6, 121, 122, 123, 10, 124, 125, 126, 127, 128, 129, 37, 38, 39, 40, 41, 42, 43, 44, 45, 46, 47, 48, 49, 50, 17, 18, 19, 51, 52, 53, 54, 55, 56, 57, 58, 59, 60, 61, 62, 63, 64, 65, 66, 67, 130, 131, 132, 15, 16, 197, 198, 199, 200, 201, 183, 184, 185, 186, 187, 188, 194, 195, 196] (by decide +kernel) (by decide +kernel)) (goodIn_sub (fun _ h => List.mem_cons_of_mem _ (List.mem_append_right _ h)) (by decide +kernel))) (goodIn_sub (fun _ h => List.mem_cons_of_mem _ (List.mem_append_left _ (List.mem_append_right _ h))) (by decide +kernel))
set_option maxRecDepth 20000 in
theorem gL_isTold_L_owes : GoodIn wsL_isTold (va_wsS RL 106 yL_owes wsL_owes) := goodIn_app (goodIn_of _ (by decide +kernel)) ggL_isTold_L_owes
set_option maxRecDepth 20000 in
theorem ggL_isTold_L_state : GoodIn wsL_isTold wsL_state := goodIn_ca (goodIn_r _ [135, 32, 136, 137, 138, 10, 139, 140, 141, 142, 143, 144, 41, 42, 145, 146, 45, 46, 47, 48, 49, 50, 17, 18, 19, 51, 52, 53, 54, 55, 56, 57, 58, 59, 60, 61, 62, 63, 64, 65, 66, 67, 202, 203, 204, 205, 183, 184, 185, 186, 187, 188, 194, 195, 196] (by decide +kernel) (by decide +kernel)) (goodIn_sub (fun _ h => List.mem_cons_of_mem _ (List.mem_append_right _ h)) (by decide +kernel))
set_option maxRecDepth 20000 in
theorem gL_isTold_L_state : GoodIn wsL_isTold (va_wsS RL 129 yL_state wsL_state) := goodIn_app (goodIn_of _ (by decide +kernel)) ggL_isTold_L_state
set_option maxRecDepth 20000 in
theorem ggL_isTold_L_day : GoodIn wsL_isTold wsL_day := goodIn_ca (goodIn_r _ [149, 32, 150, 151, 152, 10, 153, 154, 141, 142, 143, 144, 41, 42, 145, 146, 45, 46, 47, 48, 49, 50, 17, 18, 19, 51, 52, 53, 54, 55, 56, 57, 58, 59, 60, 61, 62, 63, 64, 65, 66, 67, 202, 203, 204, 205, 183, 184, 185, 186, 187, 188, 194, 195, 196] (by decide +kernel) (by decide +kernel)) (goodIn_sub (fun _ h => List.mem_cons_of_mem _ (List.mem_append_right _ h)) (by decide +kernel))
set_option maxRecDepth 20000 in
theorem gL_isTold_L_day : GoodIn wsL_isTold (va_wsS RL 131 yL_day wsL_day) := goodIn_app (goodIn_of _ (by decide +kernel)) ggL_isTold_L_day
set_option maxRecDepth 20000 in
theorem ggL_isTold_X3_isSuspended : GoodIn wsL_isTold wsX3_isSuspended := goodIn_ca (goodIn_r _ [158, 141, 142, 143, 10, 144, 41, 42, 145, 146, 45, 46, 47, 48, 49, 50, 17, 18, 19, 51, 52, 53, 54, 55, 56, 57, 58, 59, 60, 61, 62, 63, 64, 65, 66, 67, 159, 160, 161, 162, 163, 164, 165, 166, 167, 168, 169, 170, 171, 172, 183, 184, 185, 186, 187, 188, 194, 195, 196, 202, 203, 204, 205, 197, 198, 199, 200, 201, 189, 190, 191, 192, 193] (by decide +kernel) (by decide +kernel)) (goodIn_sub (fun _ h => List.mem_cons_of_mem _ (List.mem_append_right _ h)) (by decide +kernel))
set_option maxRecDepth 20000 in
theorem gL_isTold_X3_isSuspended : GoodIn wsL_isTold (wsV RL 135 RX3 yX3_isSuspended wsX3_isSuspended) := goodIn_app (goodIn_of _ (by decide +kernel)) ggL_isTold_X3_isSuspended
set_option maxRecDepth 20000 in
theorem ggL_isTold_L_isSuspended : GoodIn wsL_isTold wsL_isSuspended := goodIn_r _ [175, 176, 177, 4, 178] (by decide +kernel) (by decide +kernel)
set_option maxRecDepth 20000 in
theorem gL_isTold_L_isSuspended : GoodIn wsL_isTold (va_wsS RL 138 yL_isSuspended wsL_isSuspended) := goodIn_app (goodIn_of _ (by decide +kernel)) ggL_isTold_L_isSuspended
set_option maxRecDepth 20000 in
theorem ggL_isTold_X3_duties : GoodIn wsL_isTold wsX3_duties := goodIn_r _ [182, 145, 45, 46, 47, 48, 49, 50, 183, 184, 185, 186, 187, 188, 194, 195, 196] (by decide +kernel) (by decide +kernel)
set_option maxRecDepth 20000 in
theorem gL_isTold_X3_duties : GoodIn wsL_isTold (wsV RL 141 RX3 yX3_duties wsX3_duties) := goodIn_app (goodIn_of _ (by decide +kernel)) ggL_isTold_X3_duties
theorem dL_isTold_0 : decode cL_isTold 0 = .ok (.iconst 0, 1) := by decide +kernel
theorem dL_isTold_1 : decode cL_isTold 1 = .ok (.istore 9, 2) := by decide +kernel
theorem dL_isTold_3 : decode cL_isTold 3 = .ok (.iload 9, 2) := by decide +kernel
theorem dL_isTold_5 : decode cL_isTold 5 = .ok (.bipush 6, 2) := by decide +kernel
theorem dL_isTold_7 : decode cL_isTold 7 = .ok (.if_icmp .ge 24, 3) := by decide +kernel
theorem dL_isTold_10 : decode cL_isTold 10 = .ok (.aload_n 0, 1) := by decide +kernel
theorem dL_isTold_11 : decode cL_isTold 11 = .ok (.iload 9, 2) := by decide +kernel
theorem dL_isTold_13 : decode cL_isTold 13 = .ok (.invokestatic 133, 3) := by decide +kernel
theorem dL_isTold_16 : decode cL_isTold 16 = .ok (.aload_n 2, 1) := by decide +kernel
theorem dL_isTold_17 : decode cL_isTold 17 = .ok (.iload 9, 2) := by decide +kernel
theorem dL_isTold_19 : decode cL_isTold 19 = .ok (.iaload, 1) := by decide +kernel
theorem dL_isTold_20 : decode cL_isTold 20 = .ok (.if_icmp .eq 5, 3) := by decide +kernel
theorem dL_isTold_23 : decode cL_isTold 23 = .ok (.iconst 0, 1) := by decide +kernel
theorem dL_isTold_24 : decode cL_isTold 24 = .ok (.ireturn, 1) := by decide +kernel
theorem dL_isTold_25 : decode cL_isTold 25 = .ok (.iinc 9 1, 3) := by decide +kernel
theorem dL_isTold_28 : decode cL_isTold 28 = .ok (.goto (-25), 3) := by decide +kernel
theorem dL_isTold_31 : decode cL_isTold 31 = .ok (.iconst 0, 1) := by decide +kernel
theorem dL_isTold_32 : decode cL_isTold 32 = .ok (.istore 9, 2) := by decide +kernel
theorem dL_isTold_34 : decode cL_isTold 34 = .ok (.iload 9, 2) := by decide +kernel
theorem dL_isTold_36 : decode cL_isTold 36 = .ok (.aload 8, 2) := by decide +kernel
theorem dL_isTold_38 : decode cL_isTold 38 = .ok (.iconst 1, 1) := by decide +kernel
theorem dL_isTold_39 : decode cL_isTold 39 = .ok (.iaload, 1) := by decide +kernel
theorem dL_isTold_40 : decode cL_isTold 40 = .ok (.if_icmp .ge 288, 3) := by decide +kernel
theorem dL_isTold_43 : decode cL_isTold 43 = .ok (.iconst 0, 1) := by decide +kernel
theorem dL_isTold_44 : decode cL_isTold 44 = .ok (.istore 10, 2) := by decide +kernel
theorem dL_isTold_46 : decode cL_isTold 46 = .ok (.iconst 0, 1) := by decide +kernel
theorem dL_isTold_47 : decode cL_isTold 47 = .ok (.istore 11, 2) := by decide +kernel
theorem dL_isTold_49 : decode cL_isTold 49 = .ok (.iconst 0, 1) := by decide +kernel
theorem dL_isTold_50 : decode cL_isTold 50 = .ok (.istore 12, 2) := by decide +kernel
theorem dL_isTold_52 : decode cL_isTold 52 = .ok (.iload 12, 2) := by decide +kernel
theorem dL_isTold_54 : decode cL_isTold 54 = .ok (.bipush 6, 2) := by decide +kernel
theorem dL_isTold_56 : decode cL_isTold 56 = .ok (.if_icmp .ge 73, 3) := by decide +kernel
theorem dL_isTold_59 : decode cL_isTold 59 = .ok (.aload 4, 2) := by decide +kernel
theorem dL_isTold_61 : decode cL_isTold 61 = .ok (.bipush 6, 2) := by decide +kernel
theorem dL_isTold_63 : decode cL_isTold 63 = .ok (.iload 9, 2) := by decide +kernel
theorem dL_isTold_65 : decode cL_isTold 65 = .ok (.imul, 1) := by decide +kernel
theorem dL_isTold_66 : decode cL_isTold 66 = .ok (.iload 12, 2) := by decide +kernel
theorem dL_isTold_68 : decode cL_isTold 68 = .ok (.iadd, 1) := by decide +kernel
theorem dL_isTold_69 : decode cL_isTold 69 = .ok (.iaload, 1) := by decide +kernel
theorem dL_isTold_70 : decode cL_isTold 70 = .ok (.bipush 15, 2) := by decide +kernel
theorem dL_isTold_72 : decode cL_isTold 72 = .ok (.iand, 1) := by decide +kernel
theorem dL_isTold_73 : decode cL_isTold 73 = .ok (.istore 13, 2) := by decide +kernel
theorem dL_isTold_75 : decode cL_isTold 75 = .ok (.aload_n 0, 1) := by decide +kernel
theorem dL_isTold_76 : decode cL_isTold 76 = .ok (.iload 9, 2) := by decide +kernel
theorem dL_isTold_78 : decode cL_isTold 78 = .ok (.iload 12, 2) := by decide +kernel
theorem dL_isTold_80 : decode cL_isTold 80 = .ok (.invokestatic 99, 3) := by decide +kernel
theorem dL_isTold_83 : decode cL_isTold 83 = .ok (.iload 13, 2) := by decide +kernel
theorem dL_isTold_85 : decode cL_isTold 85 = .ok (.if_icmp .eq 5, 3) := by decide +kernel
theorem dL_isTold_88 : decode cL_isTold 88 = .ok (.iconst 0, 1) := by decide +kernel
theorem dL_isTold_89 : decode cL_isTold 89 = .ok (.ireturn, 1) := by decide +kernel
theorem dL_isTold_90 : decode cL_isTold 90 = .ok (.iload 10, 2) := by decide +kernel
theorem dL_isTold_92 : decode cL_isTold 92 = .ok (.aload 5, 2) := by decide +kernel
theorem dL_isTold_94 : decode cL_isTold 94 = .ok (.iload 9, 2) := by decide +kernel
theorem dL_isTold_96 : decode cL_isTold 96 = .ok (.iaload, 1) := by decide +kernel
theorem dL_isTold_97 : decode cL_isTold 97 = .ok (.iconst 4, 1) := by decide +kernel
theorem dL_isTold_98 : decode cL_isTold 98 = .ok (.if_icmp .ge 21, 3) := by decide +kernel
theorem dL_isTold_101 : decode cL_isTold 101 = .ok (.iload 13, 2) := by decide +kernel
theorem dL_isTold_103 : decode cL_isTold 103 = .ok (.ifCond .le 16, 3) := by decide +kernel
theorem dL_isTold_106 : decode cL_isTold 106 = .ok (.iload 13, 2) := by decide +kernel
theorem dL_isTold_108 : decode cL_isTold 108 = .ok (.aload_n 2, 1) := by decide +kernel
theorem dL_isTold_109 : decode cL_isTold 109 = .ok (.iload 12, 2) := by decide +kernel
theorem dL_isTold_111 : decode cL_isTold 111 = .ok (.iaload, 1) := by decide +kernel
theorem dL_isTold_112 : decode cL_isTold 112 = .ok (.if_icmp .ge 7, 3) := by decide +kernel
theorem dL_isTold_115 : decode cL_isTold 115 = .ok (.iconst 1, 1) := by decide +kernel
theorem dL_isTold_116 : decode cL_isTold 116 = .ok (.goto 4, 3) := by decide +kernel
theorem dL_isTold_119 : decode cL_isTold 119 = .ok (.iconst 0, 1) := by decide +kernel
theorem dL_isTold_120 : decode cL_isTold 120 = .ok (.iadd, 1) := by decide +kernel
theorem dL_isTold_121 : decode cL_isTold 121 = .ok (.istore 10, 2) := by decide +kernel
theorem dL_isTold_123 : decode cL_isTold 123 = .ok (.iinc 12 1, 3) := by decide +kernel
theorem dL_isTold_126 : decode cL_isTold 126 = .ok (.goto (-74), 3) := by decide +kernel
theorem dL_isTold_129 : decode cL_isTold 129 = .ok (.iconst 0, 1) := by decide +kernel
theorem dL_isTold_130 : decode cL_isTold 130 = .ok (.istore 12, 2) := by decide +kernel
theorem dL_isTold_132 : decode cL_isTold 132 = .ok (.iload 12, 2) := by decide +kernel
theorem dL_isTold_134 : decode cL_isTold 134 = .ok (.aload 8, 2) := by decide +kernel
theorem dL_isTold_136 : decode cL_isTold 136 = .ok (.iconst 2, 1) := by decide +kernel
theorem dL_isTold_137 : decode cL_isTold 137 = .ok (.iaload, 1) := by decide +kernel
theorem dL_isTold_138 : decode cL_isTold 138 = .ok (.if_icmp .ge 73, 3) := by decide +kernel
theorem dL_isTold_141 : decode cL_isTold 141 = .ok (.aload 6, 2) := by decide +kernel
theorem dL_isTold_143 : decode cL_isTold 143 = .ok (.iload 12, 2) := by decide +kernel
theorem dL_isTold_145 : decode cL_isTold 145 = .ok (.iaload, 1) := by decide +kernel
theorem dL_isTold_146 : decode cL_isTold 146 = .ok (.bipush 15, 2) := by decide +kernel
theorem dL_isTold_148 : decode cL_isTold 148 = .ok (.iand, 1) := by decide +kernel
theorem dL_isTold_149 : decode cL_isTold 149 = .ok (.iload 9, 2) := by decide +kernel
theorem dL_isTold_151 : decode cL_isTold 151 = .ok (.if_icmp .ne 54, 3) := by decide +kernel
theorem dL_isTold_154 : decode cL_isTold 154 = .ok (.aload 6, 2) := by decide +kernel
theorem dL_isTold_156 : decode cL_isTold 156 = .ok (.iload 12, 2) := by decide +kernel
theorem dL_isTold_158 : decode cL_isTold 158 = .ok (.iaload, 1) := by decide +kernel
theorem dL_isTold_159 : decode cL_isTold 159 = .ok (.iconst 5, 1) := by decide +kernel
theorem dL_isTold_160 : decode cL_isTold 160 = .ok (.ishr, 1) := by decide +kernel
theorem dL_isTold_161 : decode cL_isTold 161 = .ok (.bipush 7, 2) := by decide +kernel
theorem dL_isTold_163 : decode cL_isTold 163 = .ok (.iand, 1) := by decide +kernel
theorem dL_isTold_164 : decode cL_isTold 164 = .ok (.iconst 3, 1) := by decide +kernel
theorem dL_isTold_165 : decode cL_isTold 165 = .ok (.if_icmp .ne 40, 3) := by decide +kernel
theorem dL_isTold_168 : decode cL_isTold 168 = .ok (.iload 11, 2) := by decide +kernel
theorem dL_isTold_170 : decode cL_isTold 170 = .ok (.aload 6, 2) := by decide +kernel
theorem dL_isTold_172 : decode cL_isTold 172 = .ok (.iload 12, 2) := by decide +kernel
theorem dL_isTold_174 : decode cL_isTold 174 = .ok (.iaload, 1) := by decide +kernel
theorem dL_isTold_175 : decode cL_isTold 175 = .ok (.iconst 4, 1) := by decide +kernel
theorem dL_isTold_176 : decode cL_isTold 176 = .ok (.ishr, 1) := by decide +kernel
theorem dL_isTold_177 : decode cL_isTold 177 = .ok (.iconst 1, 1) := by decide +kernel
theorem dL_isTold_178 : decode cL_isTold 178 = .ok (.iand, 1) := by decide +kernel
theorem dL_isTold_179 : decode cL_isTold 179 = .ok (.ifCond .ne 14, 3) := by decide +kernel
theorem dL_isTold_182 : decode cL_isTold 182 = .ok (.aload 6, 2) := by decide +kernel
theorem dL_isTold_184 : decode cL_isTold 184 = .ok (.iload 12, 2) := by decide +kernel
theorem dL_isTold_186 : decode cL_isTold 186 = .ok (.iaload, 1) := by decide +kernel
theorem dL_isTold_187 : decode cL_isTold 187 = .ok (.bipush 14, 2) := by decide +kernel
theorem dL_isTold_189 : decode cL_isTold 189 = .ok (.ishr, 1) := by decide +kernel
theorem dL_isTold_190 : decode cL_isTold 190 = .ok (.goto 12, 3) := by decide +kernel
theorem dL_isTold_193 : decode cL_isTold 193 = .ok (.aload 6, 2) := by decide +kernel
theorem dL_isTold_195 : decode cL_isTold 195 = .ok (.iload 12, 2) := by decide +kernel
theorem dL_isTold_197 : decode cL_isTold 197 = .ok (.iaload, 1) := by decide +kernel
theorem dL_isTold_198 : decode cL_isTold 198 = .ok (.bipush 14, 2) := by decide +kernel
theorem dL_isTold_200 : decode cL_isTold 200 = .ok (.ishr, 1) := by decide +kernel
theorem dL_isTold_201 : decode cL_isTold 201 = .ok (.ineg, 1) := by decide +kernel
theorem dL_isTold_202 : decode cL_isTold 202 = .ok (.iadd, 1) := by decide +kernel
theorem dL_isTold_203 : decode cL_isTold 203 = .ok (.istore 11, 2) := by decide +kernel
theorem dL_isTold_205 : decode cL_isTold 205 = .ok (.iinc 12 1, 3) := by decide +kernel
theorem dL_isTold_208 : decode cL_isTold 208 = .ok (.goto (-76), 3) := by decide +kernel
theorem dL_isTold_211 : decode cL_isTold 211 = .ok (.aload_n 0, 1) := by decide +kernel
theorem dL_isTold_212 : decode cL_isTold 212 = .ok (.iload 9, 2) := by decide +kernel
theorem dL_isTold_214 : decode cL_isTold 214 = .ok (.invokestatic 101, 3) := by decide +kernel
theorem dL_isTold_217 : decode cL_isTold 217 = .ok (.iload 10, 2) := by decide +kernel
theorem dL_isTold_219 : decode cL_isTold 219 = .ok (.if_icmp .ne 101, 3) := by decide +kernel
theorem dL_isTold_222 : decode cL_isTold 222 = .ok (.aload_n 0, 1) := by decide +kernel
theorem dL_isTold_223 : decode cL_isTold 223 = .ok (.iload 9, 2) := by decide +kernel
theorem dL_isTold_225 : decode cL_isTold 225 = .ok (.invokestatic 104, 3) := by decide +kernel
theorem dL_isTold_228 : decode cL_isTold 228 = .ok (.aload_n 3, 1) := by decide +kernel
theorem dL_isTold_229 : decode cL_isTold 229 = .ok (.aload 4, 2) := by decide +kernel
theorem dL_isTold_231 : decode cL_isTold 231 = .ok (.aload 5, 2) := by decide +kernel
theorem dL_isTold_233 : decode cL_isTold 233 = .ok (.iload 9, 2) := by decide +kernel
theorem dL_isTold_235 : decode cL_isTold 235 = .ok (.invokestatic 108, 3) := by decide +kernel
theorem dL_isTold_238 : decode cL_isTold 238 = .ok (.if_icmp .ne 82, 3) := by decide +kernel
theorem dL_isTold_241 : decode cL_isTold 241 = .ok (.aload_n 0, 1) := by decide +kernel
theorem dL_isTold_242 : decode cL_isTold 242 = .ok (.iload 9, 2) := by decide +kernel
theorem dL_isTold_244 : decode cL_isTold 244 = .ok (.iconst 0, 1) := by decide +kernel
theorem dL_isTold_245 : decode cL_isTold 245 = .ok (.invokestatic 106, 3) := by decide +kernel
theorem dL_isTold_248 : decode cL_isTold 248 = .ok (.iload 11, 2) := by decide +kernel
theorem dL_isTold_250 : decode cL_isTold 250 = .ok (.ifCond .le 8, 3) := by decide +kernel
theorem dL_isTold_253 : decode cL_isTold 253 = .ok (.iload 11, 2) := by decide +kernel
theorem dL_isTold_255 : decode cL_isTold 255 = .ok (.goto 4, 3) := by decide +kernel
theorem dL_isTold_258 : decode cL_isTold 258 = .ok (.iconst 0, 1) := by decide +kernel
theorem dL_isTold_259 : decode cL_isTold 259 = .ok (.if_icmp .ne 61, 3) := by decide +kernel
theorem dL_isTold_262 : decode cL_isTold 262 = .ok (.aload_n 0, 1) := by decide +kernel
theorem dL_isTold_263 : decode cL_isTold 263 = .ok (.iload 9, 2) := by decide +kernel
theorem dL_isTold_265 : decode cL_isTold 265 = .ok (.iconst 1, 1) := by decide +kernel
theorem dL_isTold_266 : decode cL_isTold 266 = .ok (.invokestatic 106, 3) := by decide +kernel
theorem dL_isTold_269 : decode cL_isTold 269 = .ok (.iload 11, 2) := by decide +kernel
theorem dL_isTold_271 : decode cL_isTold 271 = .ok (.ifCond .ge 9, 3) := by decide +kernel
theorem dL_isTold_274 : decode cL_isTold 274 = .ok (.iload 11, 2) := by decide +kernel
theorem dL_isTold_276 : decode cL_isTold 276 = .ok (.ineg, 1) := by decide +kernel
theorem dL_isTold_277 : decode cL_isTold 277 = .ok (.goto 4, 3) := by decide +kernel
theorem dL_isTold_280 : decode cL_isTold 280 = .ok (.iconst 0, 1) := by decide +kernel
theorem dL_isTold_281 : decode cL_isTold 281 = .ok (.if_icmp .ne 39, 3) := by decide +kernel
theorem dL_isTold_284 : decode cL_isTold 284 = .ok (.aload_n 0, 1) := by decide +kernel
theorem dL_isTold_285 : decode cL_isTold 285 = .ok (.iload 9, 2) := by decide +kernel
theorem dL_isTold_287 : decode cL_isTold 287 = .ok (.iconst 2, 1) := by decide +kernel
theorem dL_isTold_288 : decode cL_isTold 288 = .ok (.invokestatic 106, 3) := by decide +kernel
theorem dL_isTold_291 : decode cL_isTold 291 = .ok (.bipush (-72), 2) := by decide +kernel
theorem dL_isTold_293 : decode cL_isTold 293 = .ok (.if_icmp .ne 27, 3) := by decide +kernel
theorem dL_isTold_296 : decode cL_isTold 296 = .ok (.aload_n 0, 1) := by decide +kernel
theorem dL_isTold_297 : decode cL_isTold 297 = .ok (.iload 9, 2) := by decide +kernel
theorem dL_isTold_299 : decode cL_isTold 299 = .ok (.bipush 10, 2) := by decide +kernel
theorem dL_isTold_301 : decode cL_isTold 301 = .ok (.invokestatic 99, 3) := by decide +kernel
theorem dL_isTold_304 : decode cL_isTold 304 = .ok (.bipush (-72), 2) := by decide +kernel
theorem dL_isTold_306 : decode cL_isTold 306 = .ok (.if_icmp .ne 14, 3) := by decide +kernel
theorem dL_isTold_309 : decode cL_isTold 309 = .ok (.aload_n 0, 1) := by decide +kernel
theorem dL_isTold_310 : decode cL_isTold 310 = .ok (.iload 9, 2) := by decide +kernel
theorem dL_isTold_312 : decode cL_isTold 312 = .ok (.bipush 7, 2) := by decide +kernel
theorem dL_isTold_314 : decode cL_isTold 314 = .ok (.invokestatic 99, 3) := by decide +kernel
theorem dL_isTold_317 : decode cL_isTold 317 = .ok (.ifCond .eq 5, 3) := by decide +kernel
theorem dL_isTold_320 : decode cL_isTold 320 = .ok (.iconst 0, 1) := by decide +kernel
theorem dL_isTold_321 : decode cL_isTold 321 = .ok (.ireturn, 1) := by decide +kernel
theorem dL_isTold_322 : decode cL_isTold 322 = .ok (.iinc 9 1, 3) := by decide +kernel
theorem dL_isTold_325 : decode cL_isTold 325 = .ok (.goto (-291), 3) := by decide +kernel
theorem dL_isTold_328 : decode cL_isTold 328 = .ok (.iconst 0, 1) := by decide +kernel
theorem dL_isTold_329 : decode cL_isTold 329 = .ok (.istore 9, 2) := by decide +kernel
theorem dL_isTold_331 : decode cL_isTold 331 = .ok (.iload 9, 2) := by decide +kernel
theorem dL_isTold_333 : decode cL_isTold 333 = .ok (.aload 8, 2) := by decide +kernel
theorem dL_isTold_335 : decode cL_isTold 335 = .ok (.iconst 2, 1) := by decide +kernel
theorem dL_isTold_336 : decode cL_isTold 336 = .ok (.iaload, 1) := by decide +kernel
theorem dL_isTold_337 : decode cL_isTold 337 = .ok (.if_icmp .ge 62, 3) := by decide +kernel
theorem dL_isTold_340 : decode cL_isTold 340 = .ok (.aload_n 0, 1) := by decide +kernel
theorem dL_isTold_341 : decode cL_isTold 341 = .ok (.iload 9, 2) := by decide +kernel
theorem dL_isTold_343 : decode cL_isTold 343 = .ok (.invokestatic 129, 3) := by decide +kernel
theorem dL_isTold_346 : decode cL_isTold 346 = .ok (.aload 6, 2) := by decide +kernel
theorem dL_isTold_348 : decode cL_isTold 348 = .ok (.iload 9, 2) := by decide +kernel
theorem dL_isTold_350 : decode cL_isTold 350 = .ok (.iaload, 1) := by decide +kernel
theorem dL_isTold_351 : decode cL_isTold 351 = .ok (.iconst 5, 1) := by decide +kernel
theorem dL_isTold_352 : decode cL_isTold 352 = .ok (.ishr, 1) := by decide +kernel
theorem dL_isTold_353 : decode cL_isTold 353 = .ok (.bipush 7, 2) := by decide +kernel
theorem dL_isTold_355 : decode cL_isTold 355 = .ok (.iand, 1) := by decide +kernel
theorem dL_isTold_356 : decode cL_isTold 356 = .ok (.if_icmp .ne 35, 3) := by decide +kernel
theorem dL_isTold_359 : decode cL_isTold 359 = .ok (.aload_n 0, 1) := by decide +kernel
theorem dL_isTold_360 : decode cL_isTold 360 = .ok (.iload 9, 2) := by decide +kernel
theorem dL_isTold_362 : decode cL_isTold 362 = .ok (.invokestatic 131, 3) := by decide +kernel
theorem dL_isTold_365 : decode cL_isTold 365 = .ok (.aload 7, 2) := by decide +kernel
theorem dL_isTold_367 : decode cL_isTold 367 = .ok (.iload 9, 2) := by decide +kernel
theorem dL_isTold_369 : decode cL_isTold 369 = .ok (.iaload, 1) := by decide +kernel
theorem dL_isTold_370 : decode cL_isTold 370 = .ok (.if_icmp .ne 21, 3) := by decide +kernel
theorem dL_isTold_373 : decode cL_isTold 373 = .ok (.aload_n 0, 1) := by decide +kernel
theorem dL_isTold_374 : decode cL_isTold 374 = .ok (.iload 9, 2) := by decide +kernel
theorem dL_isTold_376 : decode cL_isTold 376 = .ok (.invokevirtual 135, 3) := by decide +kernel
theorem dL_isTold_379 : decode cL_isTold 379 = .ok (.aload 6, 2) := by decide +kernel
theorem dL_isTold_381 : decode cL_isTold 381 = .ok (.aload 8, 2) := by decide +kernel
theorem dL_isTold_383 : decode cL_isTold 383 = .ok (.iload 9, 2) := by decide +kernel
theorem dL_isTold_385 : decode cL_isTold 385 = .ok (.invokestatic 138, 3) := by decide +kernel
theorem dL_isTold_388 : decode cL_isTold 388 = .ok (.if_icmp .eq 5, 3) := by decide +kernel
theorem dL_isTold_391 : decode cL_isTold 391 = .ok (.iconst 0, 1) := by decide +kernel
theorem dL_isTold_392 : decode cL_isTold 392 = .ok (.ireturn, 1) := by decide +kernel
theorem dL_isTold_393 : decode cL_isTold 393 = .ok (.iinc 9 1, 3) := by decide +kernel
theorem dL_isTold_396 : decode cL_isTold 396 = .ok (.goto (-65), 3) := by decide +kernel
theorem dL_isTold_399 : decode cL_isTold 399 = .ok (.aload_n 0, 1) := by decide +kernel
theorem dL_isTold_400 : decode cL_isTold 400 = .ok (.invokevirtual 141, 3) := by decide +kernel
theorem dL_isTold_403 : decode cL_isTold 403 = .ok (.aload 8, 2) := by decide +kernel
theorem dL_isTold_405 : decode cL_isTold 405 = .ok (.iconst 2, 1) := by decide +kernel
theorem dL_isTold_406 : decode cL_isTold 406 = .ok (.iaload, 1) := by decide +kernel
theorem dL_isTold_407 : decode cL_isTold 407 = .ok (.if_icmp .ne 96, 3) := by decide +kernel
theorem dL_isTold_410 : decode cL_isTold 410 = .ok (.aload_n 0, 1) := by decide +kernel
theorem dL_isTold_411 : decode cL_isTold 411 = .ok (.aload 8, 2) := by decide +kernel
theorem dL_isTold_413 : decode cL_isTold 413 = .ok (.iconst 2, 1) := by decide +kernel
theorem dL_isTold_414 : decode cL_isTold 414 = .ok (.iaload, 1) := by decide +kernel
theorem dL_isTold_415 : decode cL_isTold 415 = .ok (.invokestatic 129, 3) := by decide +kernel
theorem dL_isTold_418 : decode cL_isTold 418 = .ok (.bipush (-71), 2) := by decide +kernel
theorem dL_isTold_420 : decode cL_isTold 420 = .ok (.if_icmp .ne 83, 3) := by decide +kernel
theorem dL_isTold_423 : decode cL_isTold 423 = .ok (.aload_n 0, 1) := by decide +kernel
theorem dL_isTold_424 : decode cL_isTold 424 = .ok (.iconst (-1), 1) := by decide +kernel
theorem dL_isTold_425 : decode cL_isTold 425 = .ok (.invokestatic 129, 3) := by decide +kernel
theorem dL_isTold_428 : decode cL_isTold 428 = .ok (.bipush (-71), 2) := by decide +kernel
theorem dL_isTold_430 : decode cL_isTold 430 = .ok (.if_icmp .ne 73, 3) := by decide +kernel
theorem dL_isTold_433 : decode cL_isTold 433 = .ok (.aload_n 0, 1) := by decide +kernel
theorem dL_isTold_434 : decode cL_isTold 434 = .ok (.ldc 118, 2) := by decide +kernel
theorem dL_isTold_436 : decode cL_isTold 436 = .ok (.invokestatic 131, 3) := by decide +kernel
theorem dL_isTold_439 : decode cL_isTold 439 = .ok (.bipush (-71), 2) := by decide +kernel
theorem dL_isTold_441 : decode cL_isTold 441 = .ok (.if_icmp .ne 62, 3) := by decide +kernel
theorem dL_isTold_444 : decode cL_isTold 444 = .ok (.aload_n 0, 1) := by decide +kernel
theorem dL_isTold_445 : decode cL_isTold 445 = .ok (.bipush 10, 2) := by decide +kernel
theorem dL_isTold_447 : decode cL_isTold 447 = .ok (.invokestatic 133, 3) := by decide +kernel
theorem dL_isTold_450 : decode cL_isTold 450 = .ok (.bipush (-72), 2) := by decide +kernel
theorem dL_isTold_452 : decode cL_isTold 452 = .ok (.if_icmp .ne 51, 3) := by decide +kernel
theorem dL_isTold_455 : decode cL_isTold 455 = .ok (.aload_n 0, 1) := by decide +kernel
theorem dL_isTold_456 : decode cL_isTold 456 = .ok (.iconst (-1), 1) := by decide +kernel
theorem dL_isTold_457 : decode cL_isTold 457 = .ok (.invokestatic 133, 3) := by decide +kernel
theorem dL_isTold_460 : decode cL_isTold 460 = .ok (.bipush (-72), 2) := by decide +kernel
theorem dL_isTold_462 : decode cL_isTold 462 = .ok (.if_icmp .ne 41, 3) := by decide +kernel
theorem dL_isTold_465 : decode cL_isTold 465 = .ok (.aload_n 0, 1) := by decide +kernel
theorem dL_isTold_466 : decode cL_isTold 466 = .ok (.bipush 9, 2) := by decide +kernel
theorem dL_isTold_468 : decode cL_isTold 468 = .ok (.invokestatic 133, 3) := by decide +kernel
theorem dL_isTold_471 : decode cL_isTold 471 = .ok (.ifCond .ne 32, 3) := by decide +kernel
theorem dL_isTold_474 : decode cL_isTold 474 = .ok (.aload_n 0, 1) := by decide +kernel
theorem dL_isTold_475 : decode cL_isTold 475 = .ok (.aload 8, 2) := by decide +kernel
theorem dL_isTold_477 : decode cL_isTold 477 = .ok (.iconst 1, 1) := by decide +kernel
theorem dL_isTold_478 : decode cL_isTold 478 = .ok (.iaload, 1) := by decide +kernel
theorem dL_isTold_479 : decode cL_isTold 479 = .ok (.iconst 0, 1) := by decide +kernel
theorem dL_isTold_480 : decode cL_isTold 480 = .ok (.invokestatic 99, 3) := by decide +kernel
theorem dL_isTold_483 : decode cL_isTold 483 = .ok (.bipush (-71), 2) := by decide +kernel
theorem dL_isTold_485 : decode cL_isTold 485 = .ok (.if_icmp .ne 18, 3) := by decide +kernel
theorem dL_isTold_488 : decode cL_isTold 488 = .ok (.aload_n 0, 1) := by decide +kernel
theorem dL_isTold_489 : decode cL_isTold 489 = .ok (.iconst (-1), 1) := by decide +kernel
theorem dL_isTold_490 : decode cL_isTold 490 = .ok (.iconst 0, 1) := by decide +kernel
theorem dL_isTold_491 : decode cL_isTold 491 = .ok (.invokestatic 106, 3) := by decide +kernel
theorem dL_isTold_494 : decode cL_isTold 494 = .ok (.bipush (-71), 2) := by decide +kernel
theorem dL_isTold_496 : decode cL_isTold 496 = .ok (.if_icmp .ne 7, 3) := by decide +kernel
theorem dL_isTold_499 : decode cL_isTold 499 = .ok (.iconst 1, 1) := by decide +kernel
theorem dL_isTold_500 : decode cL_isTold 500 = .ok (.goto 4, 3) := by decide +kernel
theorem dL_isTold_503 : decode cL_isTold 503 = .ok (.iconst 0, 1) := by decide +kernel
theorem dL_isTold_504 : decode cL_isTold 504 = .ok (.ireturn, 1) := by decide +kernel
set_option maxRecDepth 20000 in
theorem ggL_law_X3_init : GoodIn wsL_law wsX3_init := goodIn_r _ [6, 7, 8, 9, 10, 11, 3, 12, 13, 14, 15, 16, 17, 18, 19, 20, 21, 22, 23, 24, 25, 26, 27, 28, 29, 30, 31, 32, 33, 34, 430, 431, 432, 433, 434, 435, 436, 437, 438] (by decide +kernel) (by decide +kernel)
set_option maxRecDepth 20000 in
theorem gL_law_X3_init : GoodIn wsL_law (wsX3_init) := ggL_law_X3_init
theorem goodIn_c1isTold {big a : List Cond} {c : Cond} (h1 : GoodIn big [c]) (h2 : GoodIn big a) : GoodIn big (c :: a) := fun w h => (List.mem_cons.mp h).elim (fun e => h1 w (List.mem_singleton.mpr e)) (h2 w)
theorem ggL_law_isTold_h : GoodIn wsL_law [Cond.code yL_isTold cL_isTold 14 (some .boolean)] := fun w h => by rw [List.mem_singleton.mp h]; exact ⟨List.mem_of_getElem? (i := 38) rfl, good_of_word (by decide +kernel)⟩
set_option maxRecDepth 20000 in
theorem ggL_law_isTold_r1 : GoodIn wsL_law wsL_isTold_r1 := goodIn_r _ [39, 40, 41, 37, 42, 43, 44, 45, 46, 2, 47, 48, 49, 50, 51, 52, 53, 54, 55, 56, 57, 58, 59, 11] (by decide +kernel) (by decide +kernel)
set_option maxRecDepth 20000 in
theorem ggL_law_isTold_r2 : GoodIn wsL_law wsL_isTold_r2 := goodIn_r _ [60, 61, 62, 63, 64, 65, 66, 67, 68, 69, 70, 71, 72, 73, 74, 75, 76, 77, 17, 78, 79, 80, 81, 16] (by decide +kernel) (by decide +kernel)
set_option maxRecDepth 20000 in
theorem ggL_law_isTold_r3 : GoodIn wsL_law wsL_isTold_r3 := goodIn_r _ [82, 83, 84, 85, 86, 87, 88, 89, 90, 91, 92, 93, 94, 95, 96, 97, 98, 99, 24, 100, 101, 102, 103, 104] (by decide +kernel) (by decide +kernel)
set_option maxRecDepth 20000 in
theorem ggL_law_isTold_r4 : GoodIn wsL_law wsL_isTold_r4 := goodIn_r _ [105, 106, 107, 108, 109, 110, 111, 112, 113, 114, 115, 116, 117, 118, 119, 120, 121, 122, 123, 124, 125, 126, 127, 128] (by decide +kernel) (by decide +kernel)
set_option maxRecDepth 20000 in
theorem ggL_law_isTold_r5 : GoodIn wsL_law wsL_isTold_r5 := goodIn_r _ [129, 130, 131, 12, 13, 132, 133, 134, 135, 136, 137, 138, 139, 140, 141, 142, 143, 144, 145, 146, 147, 148, 149, 150] (by decide +kernel) (by decide +kernel)
set_option maxRecDepth 20000 in
theorem ggL_law_isTold_r6 : GoodIn wsL_law wsL_isTold_r6 := goodIn_r _ [151, 152, 153, 154, 155, 156, 157, 158, 159, 160, 161, 162, 163, 164, 165, 166, 167, 168, 169, 170, 171, 172, 173, 174] (by decide +kernel) (by decide +kernel)
set_option maxRecDepth 20000 in
theorem ggL_law_isTold_r7 : GoodIn wsL_law wsL_isTold_r7 := goodIn_r _ [18, 175, 176, 177, 178, 179, 180, 181, 182, 183, 184, 185, 186, 187, 188, 189, 190, 191, 192, 193, 194, 195, 196, 197] (by decide +kernel) (by decide +kernel)
set_option maxRecDepth 20000 in
theorem ggL_law_isTold_r8 : GoodIn wsL_law wsL_isTold_r8 := goodIn_r _ [198, 199, 200, 201, 202, 203, 204, 205, 206, 207, 208, 209, 210, 211] (by decide +kernel) (by decide +kernel)
theorem ggL_law_L_isTold : GoodIn wsL_law wsL_isTold := goodIn_ca (goodIn_ca (goodIn_ca (goodIn_ca (goodIn_ca (goodIn_ca (goodIn_ca (goodIn_c1isTold ggL_law_isTold_h (goodIn_app ggL_law_isTold_r1 (goodIn_app ggL_law_isTold_r2 (goodIn_app ggL_law_isTold_r3 (goodIn_app ggL_law_isTold_r4 (goodIn_app ggL_law_isTold_r5 (goodIn_app ggL_law_isTold_r6 (goodIn_app ggL_law_isTold_r7 (ggL_law_isTold_r8))))))))) (goodIn_sub inlX3 (by decide +kernel))) (goodIn_sub inlX2 (by decide +kernel))) (goodIn_sub inlJx4a65c (by decide +kernel))) (goodIn_sub inlX0 (by decide +kernel))) (goodIn_sub inlX1 (by decide +kernel))) (goodIn_sub (fun _ h => List.mem_append_left _ (List.mem_append_left _ (List.mem_append_right _ h))) (by decide +kernel))) (goodIn_sub (fun _ h => List.mem_append_left _ (List.mem_append_right _ h)) (by decide +kernel))
set_option maxRecDepth 20000 in
theorem gL_law_L_isTold : GoodIn wsL_law (va_wsS RL 145 yL_isTold wsL_isTold) := goodIn_app (goodIn_of _ (by decide +kernel)) ggL_law_L_isTold
set_option maxRecDepth 20000 in
theorem ggL_law_L_cell : GoodIn wsL_law wsL_cell := goodIn_r _ [214, 215] (by decide +kernel) (by decide +kernel)
set_option maxRecDepth 20000 in
theorem gL_law_L_cell : GoodIn wsL_law (va_wsS RL 149 yL_cell wsL_cell) := goodIn_app (goodIn_of _ (by decide +kernel)) ggL_law_L_cell
set_option maxRecDepth 20000 in
theorem ggL_law_L_low : GoodIn wsL_law wsL_low := goodIn_r _ [218] (by decide +kernel) (by decide +kernel)
set_option maxRecDepth 20000 in
theorem gL_law_L_low : GoodIn wsL_law (va_wsS RL 75 yL_low wsL_low) := goodIn_app (goodIn_of _ (by decide +kernel)) ggL_law_L_low
set_option maxRecDepth 20000 in
theorem ggL_law_L_writes : GoodIn wsL_law wsL_writes := goodIn_ca (goodIn_ca (goodIn_r _ [221, 222, 223, 216, 217, 37, 218, 224, 225, 226, 43, 227, 228, 229, 230, 2, 231, 51, 52, 232, 233, 11, 10, 234, 235, 48, 49, 50, 53, 54, 55, 160, 161, 162, 56, 57, 58, 59, 60, 61, 62, 63, 236, 237, 238, 239, 8, 9, 240, 241, 242, 243, 244, 245, 246, 247, 248, 249, 250, 251, 12, 13, 252, 253, 254, 430, 431, 432, 433, 434, 435, 439, 440, 441, 442, 443] (by decide +kernel) (by decide +kernel)) (goodIn_sub (fun _ h => List.mem_append_left _ (List.mem_append_left _ (List.mem_append_right _ h))) (by decide +kernel))) (goodIn_sub (fun _ h => List.mem_append_right _ h) (by decide +kernel))
set_option maxRecDepth 20000 in
theorem gL_law_L_writes : GoodIn wsL_law (va_wsS RL 153 yL_writes wsL_writes) := goodIn_app (goodIn_of _ (by decide +kernel)) ggL_law_L_writes
theorem goodIn_c1drafts {big a : List Cond} {c : Cond} (h1 : GoodIn big [c]) (h2 : GoodIn big a) : GoodIn big (c :: a) := fun w h => (List.mem_cons.mp h).elim (fun e => h1 w (List.mem_singleton.mpr e)) (h2 w)
theorem ggL_law_drafts_h : GoodIn wsL_law [Cond.code yL_drafts cL_drafts 21 (some .boolean)] := fun w h => by rw [List.mem_singleton.mp h]; exact ⟨List.mem_of_getElem? (i := 257) rfl, good_of_word (by decide +kernel)⟩
set_option maxRecDepth 20000 in
theorem ggL_law_drafts_r1 : GoodIn wsL_law wsL_drafts_r1 := goodIn_r _ [222, 216, 217, 37, 218, 258, 259, 260, 227, 261, 262, 263, 2, 264, 232, 233, 17, 265, 266, 114, 79, 80, 81, 16] (by decide +kernel) (by decide +kernel)
set_option maxRecDepth 20000 in
theorem ggL_law_drafts_r2 : GoodIn wsL_law wsL_drafts_r2 := goodIn_r _ [82, 83, 267, 268, 269, 8, 9, 270, 136, 271, 3, 141, 272, 116, 273, 274, 275, 276, 277, 278, 279, 280, 24, 281] (by decide +kernel) (by decide +kernel)
set_option maxRecDepth 20000 in
theorem ggL_law_drafts_r3 : GoodIn wsL_law wsL_drafts_r3 := goodIn_r _ [282, 283, 284, 285, 286, 287, 288, 289, 290, 291, 292, 23, 293, 157, 158, 159, 294, 295, 296, 297, 298, 299, 300, 301] (by decide +kernel) (by decide +kernel)
set_option maxRecDepth 20000 in
theorem ggL_law_drafts_r4 : GoodIn wsL_law wsL_drafts_r4 := goodIn_r _ [302, 303, 304, 305, 306, 307, 308, 309, 310, 311, 312, 313, 314, 315, 316, 317, 318, 319, 320, 321, 322, 323, 324, 325] (by decide +kernel) (by decide +kernel)
set_option maxRecDepth 20000 in
theorem ggL_law_drafts_r5 : GoodIn wsL_law wsL_drafts_r5 := goodIn_r _ [326, 67, 43, 327, 328, 329, 330, 51, 52, 103, 11, 331, 72, 73, 74, 75, 76, 77, 78, 53, 54, 55, 84, 85] (by decide +kernel) (by decide +kernel)
set_option maxRecDepth 20000 in
theorem ggL_law_drafts_r6 : GoodIn wsL_law wsL_drafts_r6 := goodIn_r _ [86, 87, 88, 89, 90, 91, 92, 93, 94, 95, 96, 97, 98, 99, 160, 161, 162, 48, 49, 50, 332, 333, 334, 111] (by decide +kernel) (by decide +kernel)
set_option maxRecDepth 20000 in
theorem ggL_law_drafts_r7 : GoodIn wsL_law wsL_drafts_r7 := goodIn_r _ [112, 113, 115, 335, 336, 337, 338, 339, 340, 341, 342, 343, 344, 345, 346, 347, 348, 349, 350, 351, 352, 353, 117, 118] (by decide +kernel) (by decide +kernel)
set_option maxRecDepth 20000 in
theorem ggL_law_drafts_r8 : GoodIn wsL_law wsL_drafts_r8 := goodIn_r _ [119, 120, 100, 101, 102, 60, 61, 62, 63, 56, 57, 58, 59, 354, 355, 356, 357, 358, 359, 360, 361, 128, 129, 130] (by decide +kernel) (by decide +kernel)
set_option maxRecDepth 20000 in
theorem ggL_law_drafts_r9 : GoodIn wsL_law wsL_drafts_r9 := goodIn_r _ [131, 12, 13, 132, 133, 134, 135, 137, 138, 139, 140, 142, 143, 144, 362, 363, 364, 365, 18, 366, 367, 191, 19, 368] (by decide +kernel) (by decide +kernel)
set_option maxRecDepth 20000 in
theorem ggL_law_drafts_r10 : GoodIn wsL_law wsL_drafts_r10 := goodIn_r _ [369, 370, 371, 372, 201, 193, 195, 373, 64, 65, 66, 68, 69, 70, 71, 104, 105, 106, 107, 108, 109, 110, 121, 122] (by decide +kernel) (by decide +kernel)
set_option maxRecDepth 20000 in
theorem ggL_law_drafts_r11 : GoodIn wsL_law wsL_drafts_r11 := goodIn_r _ [123, 124, 125, 126, 127, 148, 149, 150, 151, 152, 153, 154, 155, 156, 145, 146, 147] (by decide +kernel) (by decide +kernel)
theorem ggL_law_L_drafts : GoodIn wsL_law wsL_drafts := goodIn_ca (goodIn_ca (goodIn_ca (goodIn_ca (goodIn_ca (goodIn_ca (goodIn_ca (goodIn_ca (goodIn_c1drafts ggL_law_drafts_h (goodIn_app ggL_law_drafts_r1 (goodIn_app ggL_law_drafts_r2 (goodIn_app ggL_law_drafts_r3 (goodIn_app ggL_law_drafts_r4 (goodIn_app ggL_law_drafts_r5 (goodIn_app ggL_law_drafts_r6 (goodIn_app ggL_law_drafts_r7 (goodIn_app ggL_law_drafts_r8 (goodIn_app ggL_law_drafts_r9 (goodIn_app ggL_law_drafts_r10 (ggL_law_drafts_r11)))))))))))) (goodIn_sub inlX3 (by decide +kernel))) (goodIn_sub inlX0 (by decide +kernel))) (goodIn_sub inlJx4a65c (by decide +kernel))) (goodIn_sub inlX2 (by decide +kernel))) (goodIn_sub inlX1 (by decide +kernel))) (goodIn_sub (fun _ h => List.mem_append_right _ h) (by decide +kernel))) (goodIn_sub (fun _ h => List.mem_append_left _ (List.mem_append_left _ (List.mem_append_right _ h))) (by decide +kernel))) (goodIn_sub (fun _ h => List.mem_append_left _ (List.mem_append_right _ h)) (by decide +kernel))
set_option maxRecDepth 20000 in
theorem gL_law_L_drafts : GoodIn wsL_law (va_wsS RL 157 yL_drafts wsL_drafts) := goodIn_app (goodIn_of _ (by decide +kernel)) ggL_law_L_drafts
theorem goodIn_c1works {big a : List Cond} {c : Cond} (h1 : GoodIn big [c]) (h2 : GoodIn big a) : GoodIn big (c :: a) := fun w h => (List.mem_cons.mp h).elim (fun e => h1 w (List.mem_singleton.mpr e)) (h2 w)
theorem ggL_law_works_h : GoodIn wsL_law [Cond.code yL_works cL_works 10 (some .boolean)] := fun w h => by rw [List.mem_singleton.mp h]; exact ⟨List.mem_of_getElem? (i := 376) rfl, good_of_word (by decide +kernel)⟩
set_option maxRecDepth 20000 in
theorem ggL_law_works_r1 : GoodIn wsL_law wsL_works_r1 := goodIn_r _ [223, 39, 216, 217, 37, 218, 377, 378, 379, 43, 227, 380, 381, 382, 2, 383, 51, 52, 232, 233, 19, 53, 54, 55] (by decide +kernel) (by decide +kernel)
set_option maxRecDepth 20000 in
theorem ggL_law_works_r2 : GoodIn wsL_law wsL_works_r2 := goodIn_r _ [384, 385, 386, 387, 18, 175, 183, 79, 80, 81, 16, 82, 83, 84, 85, 86, 87, 88, 89, 90, 91, 92, 93, 94] (by decide +kernel) (by decide +kernel)
set_option maxRecDepth 20000 in
theorem ggL_law_works_r3 : GoodIn wsL_law wsL_works_r3 := goodIn_r _ [95, 96, 97, 98, 99, 24, 188, 189, 190, 191, 192, 193, 194, 195, 196, 197, 198, 199, 200, 201, 388, 389, 390, 391] (by decide +kernel) (by decide +kernel)
set_option maxRecDepth 20000 in
theorem ggL_law_works_r4 : GoodIn wsL_law wsL_works_r4 := goodIn_r _ [170, 392, 393, 394, 395, 373, 396, 397, 398, 399, 400, 401, 402, 403, 404, 205, 206, 207, 405, 406, 407, 67, 408, 409] (by decide +kernel) (by decide +kernel)
set_option maxRecDepth 20000 in
theorem ggL_law_works_r5 : GoodIn wsL_law wsL_works_r5 := goodIn_r _ [410, 411, 171, 172, 173, 174, 76, 77, 412, 413, 414, 415, 416, 417, 418, 419, 420, 421, 422, 423, 424, 425, 426, 427] (by decide +kernel) (by decide +kernel)
set_option maxRecDepth 20000 in
theorem ggL_law_works_r6 : GoodIn wsL_law wsL_works_r6 := goodIn_r _ [428, 429, 163, 164, 165, 166, 167, 168, 169, 176, 177, 178, 179, 180, 181, 182] (by decide +kernel) (by decide +kernel)
theorem ggL_law_L_works : GoodIn wsL_law wsL_works := goodIn_ca (goodIn_ca (goodIn_ca (goodIn_ca (goodIn_ca (goodIn_ca (goodIn_ca (goodIn_ca (goodIn_c1works ggL_law_works_h (goodIn_app ggL_law_works_r1 (goodIn_app ggL_law_works_r2 (goodIn_app ggL_law_works_r3 (goodIn_app ggL_law_works_r4 (goodIn_app ggL_law_works_r5 (ggL_law_works_r6))))))) (goodIn_sub inlX3 (by decide +kernel))) (goodIn_sub inlX1 (by decide +kernel))) (goodIn_sub inlJx4a65c (by decide +kernel))) (goodIn_sub inlX0 (by decide +kernel))) (goodIn_sub inlX2 (by decide +kernel))) (goodIn_sub (fun _ h => List.mem_append_left _ (List.mem_append_left _ (List.mem_append_right _ h))) (by decide +kernel))) (goodIn_sub (fun _ h => List.mem_append_right _ h) (by decide +kernel))) (goodIn_sub (fun _ h => List.mem_append_left _ (List.mem_append_right _ h)) (by decide +kernel))
set_option maxRecDepth 20000 in
theorem gL_law_L_works : GoodIn wsL_law (va_wsS RL 161 yL_works wsL_works) := goodIn_app (goodIn_of _ (by decide +kernel)) ggL_law_L_works
theorem dL_law_0 : decode cL_law 0 = .ok (.new 9, 3) := by decide +kernel
theorem dL_law_3 : decode cL_law 3 = .ok (.dup, 1) := by decide +kernel
theorem dL_law_4 : decode cL_law 4 = .ok (.invokespecial 144, 3) := by decide +kernel
theorem dL_law_7 : decode cL_law 7 = .ok (.astore_n 1, 1) := by decide +kernel
theorem dL_law_8 : decode cL_law 8 = .ok (.bipush 6, 2) := by decide +kernel
theorem dL_law_10 : decode cL_law 10 = .ok (.newarray .int, 2) := by decide +kernel
theorem dL_law_12 : decode cL_law 12 = .ok (.astore_n 2, 1) := by decide +kernel
theorem dL_law_13 : decode cL_law 13 = .ok (.bipush 6, 2) := by decide +kernel
theorem dL_law_15 : decode cL_law 15 = .ok (.newarray .int, 2) := by decide +kernel
theorem dL_law_17 : decode cL_law 17 = .ok (.astore_n 3, 1) := by decide +kernel
theorem dL_law_18 : decode cL_law 18 = .ok (.bipush 54, 2) := by decide +kernel
theorem dL_law_20 : decode cL_law 20 = .ok (.newarray .int, 2) := by decide +kernel
theorem dL_law_22 : decode cL_law 22 = .ok (.astore 4, 2) := by decide +kernel
theorem dL_law_24 : decode cL_law 24 = .ok (.bipush 60, 2) := by decide +kernel
theorem dL_law_26 : decode cL_law 26 = .ok (.newarray .int, 2) := by decide +kernel
theorem dL_law_28 : decode cL_law 28 = .ok (.astore 5, 2) := by decide +kernel
theorem dL_law_30 : decode cL_law 30 = .ok (.bipush 10, 2) := by decide +kernel
theorem dL_law_32 : decode cL_law 32 = .ok (.newarray .int, 2) := by decide +kernel
theorem dL_law_34 : decode cL_law 34 = .ok (.astore 6, 2) := by decide +kernel
theorem dL_law_36 : decode cL_law 36 = .ok (.bipush 60, 2) := by decide +kernel
theorem dL_law_38 : decode cL_law 38 = .ok (.newarray .int, 2) := by decide +kernel
theorem dL_law_40 : decode cL_law 40 = .ok (.astore 7, 2) := by decide +kernel
theorem dL_law_42 : decode cL_law 42 = .ok (.bipush 60, 2) := by decide +kernel
theorem dL_law_44 : decode cL_law 44 = .ok (.newarray .int, 2) := by decide +kernel
theorem dL_law_46 : decode cL_law 46 = .ok (.astore 8, 2) := by decide +kernel
theorem dL_law_48 : decode cL_law 48 = .ok (.iconst 3, 1) := by decide +kernel
theorem dL_law_49 : decode cL_law 49 = .ok (.newarray .int, 2) := by decide +kernel
theorem dL_law_51 : decode cL_law 51 = .ok (.astore 9, 2) := by decide +kernel
theorem dL_law_53 : decode cL_law 53 = .ok (.aload_n 1, 1) := by decide +kernel
theorem dL_law_54 : decode cL_law 54 = .ok (.iconst 0, 1) := by decide +kernel
theorem dL_law_55 : decode cL_law 55 = .ok (.aload_n 2, 1) := by decide +kernel
theorem dL_law_56 : decode cL_law 56 = .ok (.aload_n 3, 1) := by decide +kernel
theorem dL_law_57 : decode cL_law 57 = .ok (.aload 5, 2) := by decide +kernel
theorem dL_law_59 : decode cL_law 59 = .ok (.aload 6, 2) := by decide +kernel
theorem dL_law_61 : decode cL_law 61 = .ok (.aload 7, 2) := by decide +kernel
theorem dL_law_63 : decode cL_law 63 = .ok (.aload 8, 2) := by decide +kernel
theorem dL_law_65 : decode cL_law 65 = .ok (.aload 9, 2) := by decide +kernel
theorem dL_law_67 : decode cL_law 67 = .ok (.invokestatic 145, 3) := by decide +kernel
theorem dL_law_70 : decode cL_law 70 = .ok (.ifCond .ne 5, 3) := by decide +kernel
theorem dL_law_73 : decode cL_law 73 = .ok (.iconst 0, 1) := by decide +kernel
theorem dL_law_74 : decode cL_law 74 = .ok (.ireturn, 1) := by decide +kernel
theorem dL_law_75 : decode cL_law 75 = .ok (.iconst 0, 1) := by decide +kernel
theorem dL_law_76 : decode cL_law 76 = .ok (.istore 10, 2) := by decide +kernel
theorem dL_law_78 : decode cL_law 78 = .ok (.iload 10, 2) := by decide +kernel
theorem dL_law_80 : decode cL_law 80 = .ok (.sipush 140, 3) := by decide +kernel
theorem dL_law_83 : decode cL_law 83 = .ok (.if_icmp .ge 223, 3) := by decide +kernel
theorem dL_law_86 : decode cL_law 86 = .ok (.aload_n 0, 1) := by decide +kernel
theorem dL_law_87 : decode cL_law 87 = .ok (.iconst 3, 1) := by decide +kernel
theorem dL_law_88 : decode cL_law 88 = .ok (.iload 10, 2) := by decide +kernel
theorem dL_law_90 : decode cL_law 90 = .ok (.imul, 1) := by decide +kernel
theorem dL_law_91 : decode cL_law 91 = .ok (.invokestatic 149, 3) := by decide +kernel
theorem dL_law_94 : decode cL_law 94 = .ok (.istore 11, 2) := by decide +kernel
theorem dL_law_96 : decode cL_law 96 = .ok (.aload_n 0, 1) := by decide +kernel
theorem dL_law_97 : decode cL_law 97 = .ok (.iconst 3, 1) := by decide +kernel
theorem dL_law_98 : decode cL_law 98 = .ok (.iload 10, 2) := by decide +kernel
theorem dL_law_100 : decode cL_law 100 = .ok (.imul, 1) := by decide +kernel
theorem dL_law_101 : decode cL_law 101 = .ok (.iconst 1, 1) := by decide +kernel
theorem dL_law_102 : decode cL_law 102 = .ok (.iadd, 1) := by decide +kernel
theorem dL_law_103 : decode cL_law 103 = .ok (.invokestatic 149, 3) := by decide +kernel
theorem dL_law_106 : decode cL_law 106 = .ok (.istore 12, 2) := by decide +kernel
theorem dL_law_108 : decode cL_law 108 = .ok (.aload_n 0, 1) := by decide +kernel
theorem dL_law_109 : decode cL_law 109 = .ok (.iconst 3, 1) := by decide +kernel
theorem dL_law_110 : decode cL_law 110 = .ok (.iload 10, 2) := by decide +kernel
theorem dL_law_112 : decode cL_law 112 = .ok (.imul, 1) := by decide +kernel
theorem dL_law_113 : decode cL_law 113 = .ok (.iconst 2, 1) := by decide +kernel
theorem dL_law_114 : decode cL_law 114 = .ok (.iadd, 1) := by decide +kernel
theorem dL_law_115 : decode cL_law 115 = .ok (.invokestatic 149, 3) := by decide +kernel
theorem dL_law_118 : decode cL_law 118 = .ok (.istore 13, 2) := by decide +kernel
theorem dL_law_120 : decode cL_law 120 = .ok (.iload 10, 2) := by decide +kernel
theorem dL_law_122 : decode cL_law 122 = .ok (.bipush 6, 2) := by decide +kernel
theorem dL_law_124 : decode cL_law 124 = .ok (.if_icmp .ge 7, 3) := by decide +kernel
theorem dL_law_127 : decode cL_law 127 = .ok (.iconst 0, 1) := by decide +kernel
theorem dL_law_128 : decode cL_law 128 = .ok (.goto 22, 3) := by decide +kernel
theorem dL_law_131 : decode cL_law 131 = .ok (.iload 10, 2) := by decide +kernel
theorem dL_law_133 : decode cL_law 133 = .ok (.bipush 7, 2) := by decide +kernel
theorem dL_law_135 : decode cL_law 135 = .ok (.if_icmp .ge 8, 3) := by decide +kernel
theorem dL_law_138 : decode cL_law 138 = .ok (.bipush 6, 2) := by decide +kernel
theorem dL_law_140 : decode cL_law 140 = .ok (.goto 10, 3) := by decide +kernel
theorem dL_law_143 : decode cL_law 143 = .ok (.iload 11, 2) := by decide +kernel
theorem dL_law_145 : decode cL_law 145 = .ok (.bipush 28, 2) := by decide +kernel
theorem dL_law_147 : decode cL_law 147 = .ok (.invokestatic 75, 3) := by decide +kernel
theorem dL_law_150 : decode cL_law 150 = .ok (.istore 14, 2) := by decide +kernel
theorem dL_law_152 : decode cL_law 152 = .ok (.iload 14, 2) := by decide +kernel
theorem dL_law_154 : decode cL_law 154 = .ok (.bipush 6, 2) := by decide +kernel
theorem dL_law_156 : decode cL_law 156 = .ok (.if_icmp .ge 23, 3) := by decide +kernel
theorem dL_law_159 : decode cL_law 159 = .ok (.aload_n 1, 1) := by decide +kernel
theorem dL_law_160 : decode cL_law 160 = .ok (.iload 14, 2) := by decide +kernel
theorem dL_law_162 : decode cL_law 162 = .ok (.iload 12, 2) := by decide +kernel
theorem dL_law_164 : decode cL_law 164 = .ok (.iload 13, 2) := by decide +kernel
theorem dL_law_166 : decode cL_law 166 = .ok (.aload_n 2, 1) := by decide +kernel
theorem dL_law_167 : decode cL_law 167 = .ok (.aload_n 3, 1) := by decide +kernel
theorem dL_law_168 : decode cL_law 168 = .ok (.aload 4, 2) := by decide +kernel
theorem dL_law_170 : decode cL_law 170 = .ok (.invokestatic 153, 3) := by decide +kernel
theorem dL_law_173 : decode cL_law 173 = .ok (.ifCond .eq 125, 3) := by decide +kernel
theorem dL_law_176 : decode cL_law 176 = .ok (.goto 96, 3) := by decide +kernel
theorem dL_law_179 : decode cL_law 179 = .ok (.iload 14, 2) := by decide +kernel
theorem dL_law_181 : decode cL_law 181 = .ok (.bipush 18, 2) := by decide +kernel
theorem dL_law_183 : decode cL_law 183 = .ok (.if_icmp .ge 67, 3) := by decide +kernel
theorem dL_law_186 : decode cL_law 186 = .ok (.aload_n 1, 1) := by decide +kernel
theorem dL_law_187 : decode cL_law 187 = .ok (.iload 14, 2) := by decide +kernel
theorem dL_law_189 : decode cL_law 189 = .ok (.bipush 6, 2) := by decide +kernel
theorem dL_law_191 : decode cL_law 191 = .ok (.if_icmp .ne 7, 3) := by decide +kernel
theorem dL_law_194 : decode cL_law 194 = .ok (.iconst 0, 1) := by decide +kernel
theorem dL_law_195 : decode cL_law 195 = .ok (.goto 28, 3) := by decide +kernel
theorem dL_law_198 : decode cL_law 198 = .ok (.iload 14, 2) := by decide +kernel
theorem dL_law_200 : decode cL_law 200 = .ok (.bipush 13, 2) := by decide +kernel
theorem dL_law_202 : decode cL_law 202 = .ok (.if_icmp .ge 7, 3) := by decide +kernel
theorem dL_law_205 : decode cL_law 205 = .ok (.iconst 1, 1) := by decide +kernel
theorem dL_law_206 : decode cL_law 206 = .ok (.goto 17, 3) := by decide +kernel
theorem dL_law_209 : decode cL_law 209 = .ok (.iload 14, 2) := by decide +kernel
theorem dL_law_211 : decode cL_law 211 = .ok (.bipush 13, 2) := by decide +kernel
theorem dL_law_213 : decode cL_law 213 = .ok (.if_icmp .ne 8, 3) := by decide +kernel
theorem dL_law_216 : decode cL_law 216 = .ok (.bipush 8, 2) := by decide +kernel
theorem dL_law_218 : decode cL_law 218 = .ok (.goto 5, 3) := by decide +kernel
theorem dL_law_221 : decode cL_law 221 = .ok (.bipush 9, 2) := by decide +kernel
theorem dL_law_223 : decode cL_law 223 = .ok (.iload 12, 2) := by decide +kernel
theorem dL_law_225 : decode cL_law 225 = .ok (.iload 13, 2) := by decide +kernel
theorem dL_law_227 : decode cL_law 227 = .ok (.aload_n 2, 1) := by decide +kernel
theorem dL_law_228 : decode cL_law 228 = .ok (.aload_n 3, 1) := by decide +kernel
theorem dL_law_229 : decode cL_law 229 = .ok (.aload 4, 2) := by decide +kernel
theorem dL_law_231 : decode cL_law 231 = .ok (.aload 5, 2) := by decide +kernel
theorem dL_law_233 : decode cL_law 233 = .ok (.aload 6, 2) := by decide +kernel
theorem dL_law_235 : decode cL_law 235 = .ok (.aload 7, 2) := by decide +kernel
theorem dL_law_237 : decode cL_law 237 = .ok (.aload 8, 2) := by decide +kernel
theorem dL_law_239 : decode cL_law 239 = .ok (.aload 9, 2) := by decide +kernel
theorem dL_law_241 : decode cL_law 241 = .ok (.invokestatic 157, 3) := by decide +kernel
theorem dL_law_244 : decode cL_law 244 = .ok (.ifCond .eq 54, 3) := by decide +kernel
theorem dL_law_247 : decode cL_law 247 = .ok (.goto 25, 3) := by decide +kernel
theorem dL_law_250 : decode cL_law 250 = .ok (.aload_n 1, 1) := by decide +kernel
theorem dL_law_251 : decode cL_law 251 = .ok (.iload 14, 2) := by decide +kernel
theorem dL_law_253 : decode cL_law 253 = .ok (.bipush 18, 2) := by decide +kernel
theorem dL_law_255 : decode cL_law 255 = .ok (.isub, 1) := by decide +kernel
theorem dL_law_256 : decode cL_law 256 = .ok (.iload 12, 2) := by decide +kernel
theorem dL_law_258 : decode cL_law 258 = .ok (.iload 13, 2) := by decide +kernel
theorem dL_law_260 : decode cL_law 260 = .ok (.aload 7, 2) := by decide +kernel
theorem dL_law_262 : decode cL_law 262 = .ok (.aload 8, 2) := by decide +kernel
theorem dL_law_264 : decode cL_law 264 = .ok (.aload 9, 2) := by decide +kernel
theorem dL_law_266 : decode cL_law 266 = .ok (.invokestatic 161, 3) := by decide +kernel
theorem dL_law_269 : decode cL_law 269 = .ok (.ifCond .eq 29, 3) := by decide +kernel
theorem dL_law_272 : decode cL_law 272 = .ok (.aload_n 1, 1) := by decide +kernel
theorem dL_law_273 : decode cL_law 273 = .ok (.iload 11, 2) := by decide +kernel
theorem dL_law_275 : decode cL_law 275 = .ok (.iconst 5, 1) := by decide +kernel
theorem dL_law_276 : decode cL_law 276 = .ok (.ishr, 1) := by decide +kernel
theorem dL_law_277 : decode cL_law 277 = .ok (.iload 12, 2) := by decide +kernel
theorem dL_law_279 : decode cL_law 279 = .ok (.ixor, 1) := by decide +kernel
theorem dL_law_280 : decode cL_law 280 = .ok (.aload_n 2, 1) := by decide +kernel
theorem dL_law_281 : decode cL_law 281 = .ok (.aload_n 3, 1) := by decide +kernel
theorem dL_law_282 : decode cL_law 282 = .ok (.aload 5, 2) := by decide +kernel
theorem dL_law_284 : decode cL_law 284 = .ok (.aload 6, 2) := by decide +kernel
theorem dL_law_286 : decode cL_law 286 = .ok (.aload 7, 2) := by decide +kernel
theorem dL_law_288 : decode cL_law 288 = .ok (.aload 8, 2) := by decide +kernel
theorem dL_law_290 : decode cL_law 290 = .ok (.aload 9, 2) := by decide +kernel
theorem dL_law_292 : decode cL_law 292 = .ok (.invokestatic 145, 3) := by decide +kernel
theorem dL_law_295 : decode cL_law 295 = .ok (.ifCond .ne 5, 3) := by decide +kernel
theorem dL_law_298 : decode cL_law 298 = .ok (.iconst 0, 1) := by decide +kernel
theorem dL_law_299 : decode cL_law 299 = .ok (.ireturn, 1) := by decide +kernel
theorem dL_law_300 : decode cL_law 300 = .ok (.iinc 10 1, 3) := by decide +kernel
theorem dL_law_303 : decode cL_law 303 = .ok (.goto (-225), 3) := by decide +kernel
theorem dL_law_306 : decode cL_law 306 = .ok (.iconst 1, 1) := by decide +kernel
theorem dL_law_307 : decode cL_law 307 = .ok (.ireturn, 1) := by decide +kernel
end
section
/-! my own kit: conditions as Java has them; contracts over a whole world; entering, calling, ending -/
def bi (P : Prop) [Decidable P] : Int32 := if P then 1 else 0
theorem bi_t {P : Prop} [Decidable P] (h : P) : bi P = 1 := if_pos h
theorem bi_f {P : Prop} [Decidable P] (h : ¬ P) : bi P = 0 := if_neg h
theorem bi_0 {P : Prop} [Decidable P] : bi P = 0 ↔ ¬ P := by
  by_cases h : P
  · rw [bi_t h]; exact ⟨fun q => absurd q (by decide), fun q => absurd h q⟩
  · rw [bi_f h]; exact ⟨fun _ => h, fun _ => rfl⟩
theorem bi_nar {P : Prop} [Decidable P] : narrow .boolean (.int (bi P)) = .int (bi P) := by
  by_cases h : P
  · rw [bi_t h]; rfl
  · rw [bi_f h]; rfl
theorem bi_nar2 {P : Prop} [Decidable P] : vp_nar .boolean (bi P) = bi P := by
  by_cases h : P
  · rw [bi_t h]; rfl
  · rw [bi_f h]; rfl
theorem bi_congr {P Q : Prop} [Decidable P] [Decidable Q] (h : P ↔ Q) : bi P = bi Q := by
  by_cases p : P
  · rw [bi_t p, bi_t (h.mp p)]
  · rw [bi_f p, bi_f (fun q => p (h.mpr q))]
section MyKit
variable {p : Program} {l : Launch} {e : Env} {R : Room} {s : State} {m : MethodId} {args : Array Value} {below : List Frame} {meth : Method} {c : Code} {H : Heap} {locs : List Loc} {cells slots : Nat} {Q : State → Prop}
variable {cc : ByteArray} {pc : Nat} {ls : Array Slot} {rest : List Value} {D : va_G} {cl : List vw_C} {A : Nat → Prop} {a : Nat} {tys : List (ClassId × FieldType)} {ws : va_W} {H0 : Heap}
theorem br_eq {P : Prop} [Decidable P] (hx : p.tables.exec = Jvm.exec) (hb : c.code = cc) {off : Int} {tgt : Nat} (hdg : decode cc pc = .ok (.ifCond .eq off, 3)) (ht : (pc : Int) + off = (tgt : Int))
    (kt : ¬ P → W p l e R s m args below meth c H locs cells slots Q (F0 m tgt ls rest)) (kf : P → W p l e R s m args below meth c H locs cells slots Q (F0 m (pc + 3) ls rest)) : W p l e R s m args below meth c H locs cells slots Q (F0 m pc ls (.int (bi P) :: rest)) :=
  lv_if_eq hx hb hdg ht (fun h => kt (bi_0.mp h)) (fun h => kf (Decidable.not_not.mp (fun q => h (bi_0.mpr q))))
theorem br_ne {P : Prop} [Decidable P] (hx : p.tables.exec = Jvm.exec) (hb : c.code = cc) {off : Int} {tgt : Nat} (hdg : decode cc pc = .ok (.ifCond .ne off, 3)) (ht : (pc : Int) + off = (tgt : Int))
    (kt : P → W p l e R s m args below meth c H locs cells slots Q (F0 m tgt ls rest)) (kf : ¬ P → W p l e R s m args below meth c H locs cells slots Q (F0 m (pc + 3) ls rest)) : W p l e R s m args below meth c H locs cells slots Q (F0 m pc ls (.int (bi P) :: rest)) :=
  lv_if_ne hx hb hdg ht (fun h => kt (Decidable.not_not.mp (fun q => h (bi_0.mpr q)))) (fun h => kf (bi_0.mp h))
end MyKit
/-- a world before a call, and its ends -/
def wPre (D : va_G) (tys : List (ClassId × FieldType)) (ws : va_W) (sz : Nat) (U : State) : Prop := U.heap.size = sz ∧ va_P D vwCl ws U.heap ∧ va_K D vwCl tys U ∧ va_D (fun _ => True) ws
def wEnd (D : va_G) (tys : List (ClassId × FieldType)) (A : Nat → Prop) (w : va_W) (t : State) : Prop := va_P D vwCl w t.heap ∧ va_K D vwCl tys t ∧ va_D A w
def QI (D : va_G) (tys : List (ClassId × FieldType)) {S : Type} (post : Int32 → S → Prop) (w : S → va_W) (A : Nat → Prop) : Array Value → State → Outcome → State → Prop := va_Qi post (fun u t => wEnd D tys A (w u) t) A
def QV (D : va_G) (tys : List (ClassId × FieldType)) {S : Type} (post : S → Prop) (w : S → va_W) (A : Nat → Prop) : Array Value → State → Outcome → State → Prop := va_Qv post (fun u t => wEnd D tys A (w u) t) A
def QR (D : va_G) (tys : List (ClassId × FieldType)) {S : Type} (post : Nat → S → Prop) (w : S → va_W) (A : Nat → Prop) : Array Value → State → Outcome → State → Prop := va_Qr (fun _ => True) (fun u a t => post a u ∧ wEnd D tys A (w u) t) A
theorem wPre_blind {D : va_G} {tys : List (ClassId × FieldType)} {ws : va_W} {sz : Nat} {av : List Value} : FrameBlind (va_Pc av (wPre D tys ws sz)) := fun a U g mk q => by
  obtain ⟨q0, q1, qP, qK, qD⟩ := q
  exact ⟨q0, q1, qP, va_K.moved (u := U) (U := U.calling g mk a) (Vm.Alike.refl U.vm) qK, qD⟩
theorem wPre_at {D : va_G} {tys : List (ClassId × FieldType)} {ws : va_W} {av : List Value} {s : State} {H : Heap} {A : Nat → Prop} (hK : va_K D vwCl tys s) (hP : va_P D vwCl ws H) (hD : va_D A ws) (U : State) (hU : U.heap = H) (hW : s.WarmedH U.vm) : va_Pc av (wPre D tys ws H.size) av.toArray U :=
  ⟨rfl, by rw [hU], by rw [hU]; exact hP, va_K.moved hW.alike hK, hD.weaken (fun _ _ _ _ => trivial)⟩
theorem w_free {D : va_G} {tys : List (ClassId × FieldType)} {ws : va_W} {A : Nat → Prop} {H0 H : Heap} {locs : List Loc} (hD : va_D A ws) (hS : va_S A H0 H locs) (hA : ∀ q, H0.size ≤ q → A q) : ∀ q, va_A ws H.size q → A q := by
  intro q h
  rcases h with ⟨k, e, h⟩ | h
  · exact hD.2 k (q, e) h
  · exact hA q (Nat.le_trans hS.1 h)
theorem en {l : Launch} {y : MethodName} {wsC ws' : List Cond} {rm : Room} {D : va_G} {tys : List (ClassId × FieldType)} {ws : va_W} {sz : Nat} {av : List Value} {Qc : (Nat → Prop) → Array Value → State → Outcome → State → Prop} {mc ms : Nat} {cc : ByteArray} {maxL : Nat} {ret : Option FieldType} {own : String} {lv : List (Nat × Value)}
    (hy : plainName y.cls = true) (hw : wsC = Cond.code y cc maxL ret :: ws') (how : y.cls = own) (hav : (lg_sl av).length ≤ maxL) (hlv : lv_args 0 av = lv)
    (body : ∀ (p : Program) (e : Env) (s : State) (m : MethodId) (below : List Frame) (meth : Method) (c : Code) (ls : Array Slot) (A : Nat → Prop) (H : Heap) (locs : List Loc), p.tables.exec = Jvm.exec → c.code = cc → meth.sig.returnType = ret → (∀ w ∈ wsC, w.before av.toArray s = true) → s.vm.findClass own = some m.cls → meth.locks = false → c.maxLocals = maxL → meth.name = y.name →
      s.heap.size = sz → va_K D vwCl tys s → va_P D vwCl ws H → va_D A ws → va_S A s.heap H locs → (∀ q, s.heap.size ≤ q → A q) → lv_has ls maxL lv →
      W p l e rm s m av.toArray below meth c H locs 0 0 (MQ below (Qc A) av.toArray s mc ms A) (F0 m 0 ls [])) :
    Met l y wsC rm (va_Pc av (wPre D tys ws sz)) (Qc (va_A ws sz)) mc ms (va_A ws sz) := by
  refine Met.ofW (cc := cc) (maxL := maxL) (ret := ret) hy hw ?_
  intro p e s m args below meth c s₁ B hml hv
  obtain ⟨rfl, hsz, hP, hK, hD0⟩ := hv
  have hown : s.vm.findClass own = some m.cls := by rw [← how]; exact findClass_of_methodNamed B.named
  have hin : meth.name = y.name := (name_of_methodNamed B.named B.method).1
  have hD := hD0.self (sz := s.heap.size)
  have hl := lv_entry av (n := maxL) hav
  rw [hlv] at hl
  rw [lg_entry_eq]
  rw [← hsz]
  exact body p e s m below meth c _ (va_A ws s.heap.size) s.heap [] B.exec B.bytes B.returns (atoms_spec (ws := wsC) B.pre) hown B.notSynchronized hml hin hsz hK hP hD va_S.rf (fun q h => Or.inr h) hl
section MyCalls
variable {p : Program} {l : Launch} {e : Env} {R : Room} {s : State} {m : MethodId} {args : Array Value} {below : List Frame} {meth : Method} {c : Code} {H : Heap} {locs : List Loc} {cells slots mc ms : Nat} {Q : State → Prop}
variable {cc : ByteArray} {pc : Nat} {ls : Array Slot} {rest st0 : List Value} {D : va_G} {A : Nat → Prop} {a : Array Value} {tys : List (ClassId × FieldType)} {ws : va_W}
theorem w_recv {q0 ci : Nat} {r : vw_C} {fs : List Value} {b : Nat} (hK : va_K D vwCl tys s) (hP : va_P D vwCl ws H) (he : ws[q0]? = some (b, .inr (ci, fs))) (hc : vwCl[ci]? = some r) : ∃ cell : Cell, H[b]? = some cell ∧ cell.vm.isStatics = false ∧ s.vm.findClass r.1 = some cell.cls := va_recv hK hP hc he
theorem preV {C : String} {b : Nat} {As : List Value} (hK : va_K D vwCl tys s) (hP : va_P D vwCl ws H) (hD : va_D A ws) (hrec : ∃ cell : Cell, H[b]? = some cell ∧ cell.vm.isStatics = false ∧ s.vm.findClass C = some cell.cls) : PreV s H C b (va_Pc (.ref b :: As) (wPre D tys ws H.size)) As :=
  ⟨wPre_blind, hrec, fun U hU hW => wPre_at hK hP hD U hU hW⟩
theorem preS {As : List Value} (hK : va_K D vwCl tys s) (hP : va_P D vwCl ws H) (hD : va_D A ws) : PreS s H (va_Pc As (wPre D tys ws H.size)) As :=
  ⟨wPre_blind, fun U hU hW => wPre_at hK hP hD U hU hW⟩
theorem call_i {S : Type} {post : Int32 → S → Prop} {w : S → va_W} (hr : va_Run p l e R s m args below meth c H locs cells slots mc ms (F0 m pc ls st0) rest (QI D tys post w (va_A ws H.size) a) (va_A ws H.size)) (hD : va_D A ws) (hS : va_S A s.heap H locs) (hA : ∀ q, s.heap.size ≤ q → A q)
    (kk : ∀ (r : Int32) (u : S) (H1 : Heap) (locs1 : List Loc), post r u → va_P D vwCl (w u) H1 → va_D A (w u) → va_S A s.heap H1 locs1 → W p l e R s m args below meth c H1 locs1 (cells + mc) (slots + ms) Q (F0 m (pc + 3) ls (.int r :: rest))) : W p l e R s m args below meth c H locs cells slots Q (F0 m pc ls st0) :=
  va_calli hr hS (fun q _ h => w_free (D := D) (tys := tys) hD hS hA q h) (w_free (D := D) (tys := tys) hD hS hA) (fun r u t H1 locs1 ht hvm hw hB hz hk hS1 => kk r u H1 locs1 hw (by rw [← ht]; exact hB.1) (hB.2.2.weaken (fun _ q _ h => w_free (D := D) (tys := tys) hD hS hA q.1 h)) hS1)
theorem call_v {S : Type} {post : S → Prop} {w : S → va_W} (hr : va_Run p l e R s m args below meth c H locs cells slots mc ms (F0 m pc ls st0) rest (QV D tys post w (va_A ws H.size) a) (va_A ws H.size)) (hD : va_D A ws) (hS : va_S A s.heap H locs) (hA : ∀ q, s.heap.size ≤ q → A q)
    (kk : ∀ (u : S) (H1 : Heap) (locs1 : List Loc), post u → va_P D vwCl (w u) H1 → va_D A (w u) → va_S A s.heap H1 locs1 → W p l e R s m args below meth c H1 locs1 (cells + mc) (slots + ms) Q (F0 m (pc + 3) ls rest)) : W p l e R s m args below meth c H locs cells slots Q (F0 m pc ls st0) :=
  va_callv hr hS (fun q _ h => w_free (D := D) (tys := tys) hD hS hA q h) (w_free (D := D) (tys := tys) hD hS hA) (fun u t H1 locs1 ht hvm hw hB hz hk hS1 => kk u H1 locs1 hw (by rw [← ht]; exact hB.1) (hB.2.2.weaken (fun _ q _ h => w_free (D := D) (tys := tys) hD hS hA q.1 h)) hS1)
theorem call_r {S : Type} {post : Nat → S → Prop} {w : S → va_W} (hr : va_Run p l e R s m args below meth c H locs cells slots mc ms (F0 m pc ls st0) rest (QR D tys post w (va_A ws H.size) a) (va_A ws H.size)) (hD : va_D A ws) (hS : va_S A s.heap H locs) (hA : ∀ q, s.heap.size ≤ q → A q)
    (kk : ∀ (r : Nat) (u : S) (H1 : Heap) (locs1 : List Loc), post r u → va_P D vwCl (w u) H1 → va_D A (w u) → va_S A s.heap H1 locs1 → W p l e R s m args below meth c H1 locs1 (cells + mc) (slots + ms) Q (F0 m (pc + 3) ls (.ref r :: rest))) : W p l e R s m args below meth c H locs cells slots Q (F0 m pc ls st0) :=
  va_callr hr hS (fun q _ h => w_free (D := D) (tys := tys) hD hS hA q h) (w_free (D := D) (tys := tys) hD hS hA) (fun u r t H1 locs1 ht hvm hw hB hz hk hS1 => kk r u H1 locs1 hB.1 (by rw [← ht]; exact hB.2.1) (hB.2.2.2.weaken (fun _ q _ h => w_free (D := D) (tys := tys) hD hS hA q.1 h)) hS1)
theorem end_i {S : Type} {post : Int32 → S → Prop} {w : S → va_W} {u : S} {v : Int32} (hx : p.tables.exec = Jvm.exec) (hb : c.code = cc) (hr : meth.sig.returnType = some .int) (hlocks : meth.locks = false) (hdg : decode cc pc = .ok (.ireturn, 1)) (hK : va_K D vwCl tys s) (hP : va_P D vwCl (w u) H) (hD : va_D A (w u)) (hS : va_S A s.heap H locs) (hq : post v u) (hc : cells ≤ mc) (hs : slots ≤ ms) :
    W p l e R s m args below meth c H locs cells slots (MQ below (QI D tys post w A) args s mc ms A) (F0 m pc ls [.int v]) :=
  W.widen hc hs (W.iret (v := v) hx hb hr (fun t ht hW => ⟨⟨v, u, rfl, hq, by rw [ht]; exact hP, va_K.moved hW.alike hK, hD⟩, hS.F ht⟩) hS.2.2 hdg hlocks)
theorem end_z {S : Type} {post : Int32 → S → Prop} {w : S → va_W} {u : S} {v : Int32} (hx : p.tables.exec = Jvm.exec) (hb : c.code = cc) (hr : meth.sig.returnType = some .boolean) (hlocks : meth.locks = false) (hdg : decode cc pc = .ok (.ireturn, 1)) (hK : va_K D vwCl tys s) (hP : va_P D vwCl (w u) H) (hD : va_D A (w u)) (hS : va_S A s.heap H locs) (hn : narrow .boolean (.int v) = .int v) (hq : post v u) (hc : cells ≤ mc) (hs : slots ≤ ms) :
    W p l e R s m args below meth c H locs cells slots (MQ below (QI D tys post w A) args s mc ms A) (F0 m pc ls [.int v]) :=
  W.widen hc hs (W.zret (v := v) hx hb hr hn (fun t ht hW => ⟨⟨v, u, rfl, hq, by rw [ht]; exact hP, va_K.moved hW.alike hK, hD⟩, hS.F ht⟩) hS.2.2 hdg hlocks)
theorem end_v {S : Type} {post : S → Prop} {w : S → va_W} {u : S} (hx : p.tables.exec = Jvm.exec) (hb : c.code = cc) (hr : meth.sig.returnType = none) (hlocks : meth.locks = false) (hdg : decode cc pc = .ok (.return_, 1)) (hK : va_K D vwCl tys s) (hP : va_P D vwCl (w u) H) (hD : va_D A (w u)) (hS : va_S A s.heap H locs) (hq : post u) (hc : cells ≤ mc) (hs : slots ≤ ms) :
    W p l e R s m args below meth c H locs cells slots (MQ below (QV D tys post w A) args s mc ms A) (F0 m pc ls []) :=
  W.widen hc hs (W.vret hx hb hr (fun t ht hW => ⟨⟨u, rfl, hq, by rw [ht]; exact hP, va_K.moved hW.alike hK, hD⟩, hS.F ht⟩) hS.2.2 hdg hlocks)
theorem end_r {S : Type} {post : Nat → S → Prop} {w : S → va_W} {u : S} {v : Nat} {rt : FieldType} (hx : p.tables.exec = Jvm.exec) (hb : c.code = cc) (hr : meth.sig.returnType = some rt) (hrt : (∃ n, rt = .object n) ∨ ∃ t, rt = .array t) (hlocks : meth.locks = false) (hdg : decode cc pc = .ok (.areturn, 1)) (hK : va_K D vwCl tys s) (hP : va_P D vwCl (w u) H) (hD : va_D A (w u)) (hS : va_S A s.heap H locs) (hq : post v u) (hc : cells ≤ mc) (hs : slots ≤ ms) :
    W p l e R s m args below meth c H locs cells slots (MQ below (QR D tys post w A) args s mc ms A) (F0 m pc ls [.ref v]) :=
  W.widen hc hs (W.aret (v := .ref v) hx hb hr hrt (Or.inr ⟨v, rfl⟩) (fun t ht hW => ⟨⟨u, v, rfl, trivial, hq, by rw [ht]; exact hP, va_K.moved hW.alike hK, hD⟩, hS.F ht⟩) hS.2.2 hdg hlocks)
end MyCalls
section MyRows
variable {p : Program} {l : Launch} {e : Env} {R : Room} {s : State} {m : MethodId} {args : Array Value} {below : List Frame} {meth : Method} {c : Code} {H : Heap} {locs : List Loc} {cells slots : Nat} {Q : State → Prop}
variable {cc : ByteArray} {pc : Nat} {ls : Array Slot} {rest : List Value} {D : va_G} {cl : List vw_C} {A : Nat → Prop} {a : Nat} {tys : List (ClassId × FieldType)} {ws : va_W} {H0 : Heap}
theorem to_i {x y : Int32} (h : x = y) (k : W p l e R s m args below meth c H locs cells slots Q (F0 m pc ls (.int y :: rest))) : W p l e R s m args below meth c H locs cells slots Q (F0 m pc ls (.int x :: rest)) := by rw [h]; exact k
theorem x_const {i : Int} {v : Int32} (hx : p.tables.exec = Jvm.exec) (hb : c.code = cc) (hdg : decode cc pc = .ok (.iconst i, 1)) (hv : Int32.ofInt i = v) (k : W p l e R s m args below meth c H locs cells slots Q (F0 m (pc + 1) ls (.int v :: rest))) : W p l e R s m args below meth c H locs cells slots Q (F0 m pc ls rest) := lv_iconst hx hb hdg hv k
theorem x_iald (hx : p.tables.exec = Jvm.exec) (hb : c.code = cc) (hK : va_K D cl tys s) (hP : va_P D cl ws H) (q0 t0 : Nat) {cA : ClassId} {n : Nat} {f : Nat → Int32} (ha : ws[q0]? = some (a, .inl (cA, n, .inl f))) (ht : tys[t0]? = some (cA, .int)) {t : Nat} (hin : t < n) (hn : n < 2 ^ 31) (hdg : decode cc pc = .ok (.iaload, 1))
    (kk : W p l e R s m args below meth c H locs cells slots Q (F0 m (pc + 1) ls (.int (f t) :: rest))) : W p l e R s m args below meth c H locs cells slots Q (F0 m pc ls (.int (nI t) :: .ref a :: rest)) :=
  va_iald hx hb hK hP q0 t0 ha ht (vp_in_nI hin hn) hdg (by rw [nI_clamp (Nat.lt_trans hin hn)]; exact kk)
theorem x_zald (hx : p.tables.exec = Jvm.exec) (hb : c.code = cc) (hK : va_K D cl tys s) (hP : va_P D cl ws H) (q0 t0 : Nat) {cA : ClassId} {n : Nat} {f : Nat → Int32} (ha : ws[q0]? = some (a, .inl (cA, n, .inl f))) (ht : tys[t0]? = some (cA, .boolean)) {t : Nat} (hin : t < n) (hn : n < 2 ^ 31) (hdg : decode cc pc = .ok (.baload, 1))
    (kk : W p l e R s m args below meth c H locs cells slots Q (F0 m (pc + 1) ls (.int (f t) :: rest))) : W p l e R s m args below meth c H locs cells slots Q (F0 m pc ls (.int (nI t) :: .ref a :: rest)) :=
  va_zald hx hb hK hP q0 t0 ha ht (vp_in_nI hin hn) hdg (by rw [nI_clamp (Nat.lt_trans hin hn)]; exact kk)
theorem x_aald (hx : p.tables.exec = Jvm.exec) (hb : c.code = cc) (hK : va_K D cl tys s) (hP : va_P D cl ws H) (q0 t0 : Nat) {cA : ClassId} {C : String} {n : Nat} {f : Nat → Option Nat} (ha : ws[q0]? = some (a, .inl (cA, n, .inr (.inr (.inr (.inr f)))))) (ht : tys[t0]? = some (cA, .object C)) {t : Nat} (hin : t < n) (hn : n < 2 ^ 31) (hdg : decode cc pc = .ok (.aaload, 1))
    (kk : W p l e R s m args below meth c H locs cells slots Q (F0 m (pc + 1) ls (va_rf (f t) :: rest))) : W p l e R s m args below meth c H locs cells slots Q (F0 m pc ls (.int (nI t) :: .ref a :: rest)) :=
  va_aldq hx hb hK hP q0 t0 ha ht (vp_in_nI hin hn) hdg (by rw [nI_clamp (Nat.lt_trans hin hn)]; exact kk)
theorem x_aaldA (hx : p.tables.exec = Jvm.exec) (hb : c.code = cc) (hK : va_K D cl tys s) (hP : va_P D cl ws H) (q0 t0 : Nat) {cA : ClassId} {ty : FieldType} {n : Nat} {f : Nat → Option Nat} (ha : ws[q0]? = some (a, .inl (cA, n, .inr (.inr (.inr (.inr f)))))) (ht : tys[t0]? = some (cA, .array ty)) {t : Nat} (hin : t < n) (hn : n < 2 ^ 31) (hdg : decode cc pc = .ok (.aaload, 1))
    (kk : W p l e R s m args below meth c H locs cells slots Q (F0 m (pc + 1) ls (va_rf (f t) :: rest))) : W p l e R s m args below meth c H locs cells slots Q (F0 m pc ls (.int (nI t) :: .ref a :: rest)) := by
  have ec : (nI t).toNatClampNeg = t := nI_clamp (Nat.lt_trans hin hn)
  exact W.aald (v := va_rf (f t)) (ty := .array ty) hx hb (hP q0 _ ha) ((hK.2 t0 _ ht).1 n (fun j => va_rf (f j))) rfl (fun q => by cases q) (by show ¬ (nI t < 0 ∨ (arrV _ _ _).slots.size ≤ _); rw [arrV_size]; exact vp_in_nI hin hn) (by show (arrV _ _ _).slots[_]? = _; rw [ec, arrV_read _ _ hin]) rfl rfl hdg kk
theorem x_iast (hx : p.tables.exec = Jvm.exec) (hb : c.code = cc) (hK : va_K D cl tys s) (hP : va_P D cl ws H) (hD : va_D A ws) (hS : va_S A H0 H locs) (q0 t0 : Nat) {cA : ClassId} {n : Nat} {f : Nat → Int32} (ha : ws[q0]? = some (a, .inl (cA, n, .inl f))) (ht : tys[t0]? = some (cA, .int)) {t : Nat} {x : Int32} (hin : t < n) (hn : n < 2 ^ 31) (hdg : decode cc pc = .ok (.iastore, 1))
    (kk : ∀ (H1 : Heap) (locs1 : List Loc), va_P D cl (ws.set q0 (a, .inl (cA, n, .inl (upd f t x)))) H1 → va_D A (ws.set q0 (a, .inl (cA, n, .inl (upd f t x)))) → va_S A H0 H1 locs1 → W p l e R s m args below meth c H1 locs1 cells slots Q (F0 m (pc + 1) ls rest)) : W p l e R s m args below meth c H locs cells slots Q (F0 m pc ls (.int x :: .int (nI t) :: .ref a :: rest)) :=
  va_iast hx hb hK hP hD hS q0 t0 ha ht (vp_in_nI hin hn) hdg (by rw [nI_clamp (Nat.lt_trans hin hn)]; exact kk)
theorem x_zast (hx : p.tables.exec = Jvm.exec) (hb : c.code = cc) (hK : va_K D cl tys s) (hP : va_P D cl ws H) (hD : va_D A ws) (hS : va_S A H0 H locs) (q0 t0 : Nat) {cA : ClassId} {n : Nat} {f : Nat → Int32} (ha : ws[q0]? = some (a, .inl (cA, n, .inl f))) (ht : tys[t0]? = some (cA, .boolean)) {t : Nat} {x : Int32} (hin : t < n) (hn : n < 2 ^ 31) (hv : vp_nar .boolean x = x) (hdg : decode cc pc = .ok (.bastore, 1))
    (kk : ∀ (H1 : Heap) (locs1 : List Loc), va_P D cl (ws.set q0 (a, .inl (cA, n, .inl (upd f t x)))) H1 → va_D A (ws.set q0 (a, .inl (cA, n, .inl (upd f t x)))) → va_S A H0 H1 locs1 → W p l e R s m args below meth c H1 locs1 cells slots Q (F0 m (pc + 1) ls rest)) : W p l e R s m args below meth c H locs cells slots Q (F0 m pc ls (.int x :: .int (nI t) :: .ref a :: rest)) :=
  va_zast hx hb hK hP hD hS q0 t0 ha ht (vp_in_nI hin hn) hdg (by rw [nI_clamp (Nat.lt_trans hin hn), hv]; exact kk)
theorem n_ge {x y : Nat} (hx : p.tables.exec = Jvm.exec) (hb : c.code = cc) {off : Int} {tgt : Nat} (hdg : decode cc pc = .ok (.if_icmp .ge off, 3)) (ht : (pc : Int) + off = (tgt : Int)) (h1 : x < 2 ^ 31) (h2 : y < 2 ^ 31)
    (kt : y ≤ x → W p l e R s m args below meth c H locs cells slots Q (F0 m tgt ls rest)) (kf : x < y → W p l e R s m args below meth c H locs cells slots Q (F0 m (pc + 3) ls rest)) : W p l e R s m args below meth c H locs cells slots Q (F0 m pc ls (.int (nI y) :: .int (nI x) :: rest)) :=
  lv_icmp_ge hx hb hdg ht (fun h => kt ((nI_leI h2 h1).mp h)) (fun h => kf (Nat.lt_of_not_le fun q => h ((nI_leI h2 h1).mpr q)))
theorem n_eq {x y : Nat} (hx : p.tables.exec = Jvm.exec) (hb : c.code = cc) {off : Int} {tgt : Nat} (hdg : decode cc pc = .ok (.if_icmp .eq off, 3)) (ht : (pc : Int) + off = (tgt : Int)) (h1 : x < 2 ^ 31) (h2 : y < 2 ^ 31)
    (kt : x = y → W p l e R s m args below meth c H locs cells slots Q (F0 m tgt ls rest)) (kf : ¬ x = y → W p l e R s m args below meth c H locs cells slots Q (F0 m (pc + 3) ls rest)) : W p l e R s m args below meth c H locs cells slots Q (F0 m pc ls (.int (nI y) :: .int (nI x) :: rest)) :=
  lv_icmp_eq hx hb hdg ht (fun h => kt ((nI_eq h1 h2).mp h)) (fun h => kf (fun q => h ((nI_eq h1 h2).mpr q)))
theorem n_ne {x y : Nat} (hx : p.tables.exec = Jvm.exec) (hb : c.code = cc) {off : Int} {tgt : Nat} (hdg : decode cc pc = .ok (.if_icmp .ne off, 3)) (ht : (pc : Int) + off = (tgt : Int)) (h1 : x < 2 ^ 31) (h2 : y < 2 ^ 31)
    (kt : ¬ x = y → W p l e R s m args below meth c H locs cells slots Q (F0 m tgt ls rest)) (kf : x = y → W p l e R s m args below meth c H locs cells slots Q (F0 m (pc + 3) ls rest)) : W p l e R s m args below meth c H locs cells slots Q (F0 m pc ls (.int (nI y) :: .int (nI x) :: rest)) :=
  lv_icmp_ne hx hb hdg ht (fun h => kt (fun q => h ((nI_eq h1 h2).mpr q))) (fun h => kf ((nI_eq h1 h2).mp h))
theorem n_if_eq {x : Nat} (hx : p.tables.exec = Jvm.exec) (hb : c.code = cc) {off : Int} {tgt : Nat} (hdg : decode cc pc = .ok (.ifCond .eq off, 3)) (ht : (pc : Int) + off = (tgt : Int)) (h1 : x < 2 ^ 31)
    (kt : x = 0 → W p l e R s m args below meth c H locs cells slots Q (F0 m tgt ls rest)) (kf : ¬ x = 0 → W p l e R s m args below meth c H locs cells slots Q (F0 m (pc + 3) ls rest)) : W p l e R s m args below meth c H locs cells slots Q (F0 m pc ls (.int (nI x) :: rest)) :=
  lv_if_eq hx hb hdg ht (fun h => kt ((nI_eq h1 (by decide)).mp (h.trans nI_0.symm))) (fun h => kf (fun q => h ((congrArg nI q).trans nI_0)))
theorem n_if_ne {x : Nat} (hx : p.tables.exec = Jvm.exec) (hb : c.code = cc) {off : Int} {tgt : Nat} (hdg : decode cc pc = .ok (.ifCond .ne off, 3)) (ht : (pc : Int) + off = (tgt : Int)) (h1 : x < 2 ^ 31)
    (kt : ¬ x = 0 → W p l e R s m args below meth c H locs cells slots Q (F0 m tgt ls rest)) (kf : x = 0 → W p l e R s m args below meth c H locs cells slots Q (F0 m (pc + 3) ls rest)) : W p l e R s m args below meth c H locs cells slots Q (F0 m pc ls (.int (nI x) :: rest)) :=
  lv_if_ne hx hb hdg ht (fun h => kt (fun q => h ((congrArg nI q).trans nI_0))) (fun h => kf ((nI_eq h1 (by decide)).mp (h.trans nI_0.symm)))
theorem n_if_le {x : Nat} (hx : p.tables.exec = Jvm.exec) (hb : c.code = cc) {off : Int} {tgt : Nat} (hdg : decode cc pc = .ok (.ifCond .le off, 3)) (ht : (pc : Int) + off = (tgt : Int)) (h1 : x < 2 ^ 31)
    (kt : x = 0 → W p l e R s m args below meth c H locs cells slots Q (F0 m tgt ls rest)) (kf : 0 < x → W p l e R s m args below meth c H locs cells slots Q (F0 m (pc + 3) ls rest)) : W p l e R s m args below meth c H locs cells slots Q (F0 m pc ls (.int (nI x) :: rest)) :=
  lv_if_le hx hb hdg ht (fun h => kt (by have h2 := (nI_leI h1 (show (0 : Nat) < 2 ^ 31 by decide)).mp (by rw [nI_0]; exact h); omega)) (fun h => kf (by
    rcases Nat.eq_zero_or_pos x with q | q
    · exact absurd (by rw [q, nI_0]; decide) h
    · exact q))
theorem n_if_gt {x : Nat} (hx : p.tables.exec = Jvm.exec) (hb : c.code = cc) {off : Int} {tgt : Nat} (hdg : decode cc pc = .ok (.ifCond .gt off, 3)) (ht : (pc : Int) + off = (tgt : Int)) (h1 : x < 2 ^ 31)
    (kt : 0 < x → W p l e R s m args below meth c H locs cells slots Q (F0 m tgt ls rest)) (kf : x = 0 → W p l e R s m args below meth c H locs cells slots Q (F0 m (pc + 3) ls rest)) : W p l e R s m args below meth c H locs cells slots Q (F0 m pc ls (.int (nI x) :: rest)) :=
  lv_if_gt hx hb hdg ht (fun h => kt (by
    rcases Nat.eq_zero_or_pos x with q | q
    · exact absurd h (by rw [q, nI_0]; decide)
    · exact q)) (fun h => kf (by
    rcases Nat.eq_zero_or_pos x with q | q
    · exact q
    · exact absurd (by have h2 := (nI_ltI (show (0 : Nat) < 2 ^ 31 by decide) h1).mpr q; rw [nI_0] at h2; exact h2) h))
theorem n_lt {x y : Nat} (hx : p.tables.exec = Jvm.exec) (hb : c.code = cc) {off : Int} {tgt : Nat} (hdg : decode cc pc = .ok (.if_icmp .lt off, 3)) (ht : (pc : Int) + off = (tgt : Int)) (h1 : x < 2 ^ 31) (h2 : y < 2 ^ 31)
    (kt : x < y → W p l e R s m args below meth c H locs cells slots Q (F0 m tgt ls rest)) (kf : y ≤ x → W p l e R s m args below meth c H locs cells slots Q (F0 m (pc + 3) ls rest)) : W p l e R s m args below meth c H locs cells slots Q (F0 m pc ls (.int (nI y) :: .int (nI x) :: rest)) :=
  lv_icmp_lt hx hb hdg ht (fun h => kt ((nI_ltI h1 h2).mp h)) (fun h => kf (Nat.le_of_not_lt fun q => h ((nI_ltI h1 h2).mpr q)))
end MyRows
end
section
/-! array classes; numbers -/
abbrev tyL (cy : Nat → ClassId) : List (ClassId × FieldType) := [(cy 0, .int), (cy 1, .boolean), (cy 2, .object "ClauseShop$Version"), (cy 3, .object "java/lang/Object"), (cy 4, .array .int)]
theorem upd_nI (f : Nat → Nat) (t v : Nat) : upd (fun j => nI (f j)) t (nI v) = fun j => nI (va_up f t v j) := by
  funext j
  by_cases h : j = t <;> simp [upd, va_up, h]
theorem pk_m1s (n : Nat) : nI (n + 1) - nI 1 = nI n := by
  have h := nI_pred n
  exact h
theorem cl_of {x : Int32} (h : (0 : Int32) ≤ x ∧ x ≤ 9) : ∃ j : Nat, j < 10 ∧ x = nI j ∧ (nI j).toNatClampNeg = j := by
  obtain ⟨j, h1, h2⟩ := nI_of2 (x := x) (M := 9) (n := 9) (by decide) (fun q => Int32.not_lt.mpr h.1 q) h.2
  exact ⟨j, by omega, h2, nI_clamp (by omega)⟩
theorem sd_of {x : Int32} (h : (0 : Int32) ≤ x ∧ x ≤ 1) : ∃ j : Nat, j < 2 ∧ x = nI j ∧ (nI j).toNatClampNeg = j := by
  obtain ⟨j, h1, h2⟩ := nI_of2 (x := x) (M := 1) (n := 1) (by decide) (fun q => Int32.not_lt.mpr h.1 q) h.2
  exact ⟨j, by omega, h2, nI_clamp (by omega)⟩
def ix (x : Int32) : Nat := x.toNatClampNeg
theorem cl_ix {x : Int32} (h : (0 : Int32) ≤ x ∧ x ≤ 9) : ∃ j : Nat, j < 10 ∧ x = nI j ∧ ix (nI j) = j := cl_of h
theorem sd_ix {x : Int32} (h : (0 : Int32) ≤ x ∧ x ≤ 1) : ∃ j : Nat, j < 2 ∧ x = nI j ∧ ix (nI j) = j := sd_of h
theorem ct_ix {x : Int32} {n : Nat} (hn : n ≤ 1000) (h : (0 : Int32) ≤ x ∧ x ≤ nI n - 1) : ∃ j : Nat, j < n ∧ x = nI j ∧ ix (nI j) = j := by
  cases n with
  | zero =>
    have h1 : (0 : Int32) ≤ nI 0 - 1 := Int32.le_trans h.1 h.2
    exact absurd h1 (by decide)
  | succ k =>
    have e : nI (k + 1) - 1 = nI k := nI_pred k
    rw [e] at h
    obtain ⟨j, h1, h2⟩ := nI_of2 (x := x) (M := nI k) (n := k) (nI_toInt (by omega)) (fun q => Int32.not_lt.mpr h.1 q) h.2
    exact ⟨j, by omega, h2, nI_clamp (by omega)⟩
abbrev isC (C : Nat → Nat) (k : Nat) (x : Int32) : Prop := (0 : Int32) ≤ x ∧ x ≤ nI (C k) - 1
abbrev isCl (x : Int32) : Prop := (0 : Int32) ≤ x ∧ x ≤ 9
abbrev isSd (x : Int32) : Prop := (0 : Int32) ≤ x ∧ x ≤ 1
end

section
-- ===== PART A: goes FIRST, ahead of the names: the tables' words, and 'selects' of the private methods out of them =====
/-- a private method of a class that the tables say can be made, by its rows of tables_1 -/
def lw_okq (q : MethodName × Nat) : Prop := (q.1.cls ≠ "java/lang/invoke/MethodHandle" ∧ q.1.cls ≠ "java/lang/invoke/VarHandle") ∧ Cond.instantiable q.1.cls q.2 ∈ tables_1 ∧ Cond.privateMethod q.1 ∈ tables_1 ∧ Cond.instanceMethod q.1 ∈ tables_1
theorem lw_p0 : lw_okq (⟨"java/lang/Throwable", "fillInStackTrace", "(I)Ljava/lang/Throwable;"⟩, 6) := ⟨⟨by decide +kernel, by decide +kernel⟩, List.mem_of_getElem? (i := 139) (by decide +kernel), List.mem_of_getElem? (i := 137) (by decide +kernel), List.mem_of_getElem? (i := 138) (by decide +kernel)⟩
theorem lw_p1 : lw_okq (⟨"ClauseShop", "newestNumber", "(I)I"⟩, 6) := ⟨⟨by decide +kernel, by decide +kernel⟩, List.mem_of_getElem? (i := 22) (by decide +kernel), List.mem_of_getElem? (i := 174) (by decide +kernel), List.mem_of_getElem? (i := 175) (by decide +kernel)⟩
theorem lw_p2 : lw_okq (⟨"java/util/ArrayList", "add", "(Ljava/lang/Object;[Ljava/lang/Object;I)V"⟩, 3) := ⟨⟨by decide +kernel, by decide +kernel⟩, List.mem_of_getElem? (i := 32) (by decide +kernel), List.mem_of_getElem? (i := 286) (by decide +kernel), List.mem_of_getElem? (i := 287) (by decide +kernel)⟩
theorem lw_p3 : lw_okq (⟨"java/util/ArrayList", "grow", "()[Ljava/lang/Object;"⟩, 3) := ⟨⟨by decide +kernel, by decide +kernel⟩, List.mem_of_getElem? (i := 32) (by decide +kernel), List.mem_of_getElem? (i := 290) (by decide +kernel), List.mem_of_getElem? (i := 291) (by decide +kernel)⟩
theorem lw_p4 : lw_okq (⟨"java/util/ArrayList", "grow", "(I)[Ljava/lang/Object;"⟩, 3) := ⟨⟨by decide +kernel, by decide +kernel⟩, List.mem_of_getElem? (i := 32) (by decide +kernel), List.mem_of_getElem? (i := 294) (by decide +kernel), List.mem_of_getElem? (i := 295) (by decide +kernel)⟩
theorem lw_p5 : lw_okq (⟨"ClauseShop", "contractAt", "(I)LClauseShop$Contract;"⟩, 6) := ⟨⟨by decide +kernel, by decide +kernel⟩, List.mem_of_getElem? (i := 22) (by decide +kernel), List.mem_of_getElem? (i := 346) (by decide +kernel), List.mem_of_getElem? (i := 347) (by decide +kernel)⟩
theorem lw_p6 : lw_okq (⟨"ClauseShop", "hasLaterVersion", "(LClauseShop$Contract;I)Z"⟩, 6) := ⟨⟨by decide +kernel, by decide +kernel⟩, List.mem_of_getElem? (i := 22) (by decide +kernel), List.mem_of_getElem? (i := 409) (by decide +kernel), List.mem_of_getElem? (i := 410) (by decide +kernel)⟩
theorem lw_p7 : lw_okq (⟨"ClauseShop", "obstacle", "(LClauseShop$Contract;)I"⟩, 6) := ⟨⟨by decide +kernel, by decide +kernel⟩, List.mem_of_getElem? (i := 22) (by decide +kernel), List.mem_of_getElem? (i := 438) (by decide +kernel), List.mem_of_getElem? (i := 439) (by decide +kernel)⟩
theorem lw_p8 : lw_okq (⟨"ClauseShop", "makeDuties", "(LClauseShop$Contract;)I"⟩, 6) := ⟨⟨by decide +kernel, by decide +kernel⟩, List.mem_of_getElem? (i := 22) (by decide +kernel), List.mem_of_getElem? (i := 461) (by decide +kernel), List.mem_of_getElem? (i := 462) (by decide +kernel)⟩
theorem lw_p9 : lw_okq (⟨"ClauseShop", "putOffHeldUpDuties", "()V"⟩, 6) := ⟨⟨by decide +kernel, by decide +kernel⟩, List.mem_of_getElem? (i := 22) (by decide +kernel), List.mem_of_getElem? (i := 496) (by decide +kernel), List.mem_of_getElem? (i := 497) (by decide +kernel)⟩
theorem lw_p10 : lw_okq (⟨"ClauseShop", "breachUncuredDuties", "()I"⟩, 6) := ⟨⟨by decide +kernel, by decide +kernel⟩, List.mem_of_getElem? (i := 22) (by decide +kernel), List.mem_of_getElem? (i := 508) (by decide +kernel), List.mem_of_getElem? (i := 509) (by decide +kernel)⟩
theorem lw_p11 : lw_okq (⟨"ClauseShop", "dutyAt", "(I)LClauseShop$Duty;"⟩, 6) := ⟨⟨by decide +kernel, by decide +kernel⟩, List.mem_of_getElem? (i := 22) (by decide +kernel), List.mem_of_getElem? (i := 527) (by decide +kernel), List.mem_of_getElem? (i := 528) (by decide +kernel)⟩
theorem lw_p12 : lw_okq (⟨"ClauseShopModel", "isContract", "(I)Z"⟩, 22) := ⟨⟨by decide +kernel, by decide +kernel⟩, List.mem_of_getElem? (i := 579) (by decide +kernel), List.mem_of_getElem? (i := 685) (by decide +kernel), List.mem_of_getElem? (i := 686) (by decide +kernel)⟩
theorem lw_p13 : lw_okq (⟨"ClauseShopModel", "marks", "(IIII)V"⟩, 22) := ⟨⟨by decide +kernel, by decide +kernel⟩, List.mem_of_getElem? (i := 579) (by decide +kernel), List.mem_of_getElem? (i := 689) (by decide +kernel), List.mem_of_getElem? (i := 690) (by decide +kernel)⟩
theorem lw_p14 : lw_okq (⟨"ClauseShopModel", "reason", "(I)I"⟩, 22) := ⟨⟨by decide +kernel, by decide +kernel⟩, List.mem_of_getElem? (i := 579) (by decide +kernel), List.mem_of_getElem? (i := 709) (by decide +kernel), List.mem_of_getElem? (i := 710) (by decide +kernel)⟩
theorem lw_p15 : lw_okq (⟨"ClauseShopModel", "makesDuties", "(I)I"⟩, 22) := ⟨⟨by decide +kernel, by decide +kernel⟩, List.mem_of_getElem? (i := 579) (by decide +kernel), List.mem_of_getElem? (i := 717) (by decide +kernel), List.mem_of_getElem? (i := 718) (by decide +kernel)⟩
def lw_privs_1 : List (MethodName × Nat) := [(⟨"java/lang/Throwable", "fillInStackTrace", "(I)Ljava/lang/Throwable;"⟩, 6), (⟨"ClauseShop", "newestNumber", "(I)I"⟩, 6), (⟨"java/util/ArrayList", "add", "(Ljava/lang/Object;[Ljava/lang/Object;I)V"⟩, 3), (⟨"java/util/ArrayList", "grow", "()[Ljava/lang/Object;"⟩, 3), (⟨"java/util/ArrayList", "grow", "(I)[Ljava/lang/Object;"⟩, 3), (⟨"ClauseShop", "contractAt", "(I)LClauseShop$Contract;"⟩, 6), (⟨"ClauseShop", "hasLaterVersion", "(LClauseShop$Contract;I)Z"⟩, 6), (⟨"ClauseShop", "obstacle", "(LClauseShop$Contract;)I"⟩, 6), (⟨"ClauseShop", "makeDuties", "(LClauseShop$Contract;)I"⟩, 6), (⟨"ClauseShop", "putOffHeldUpDuties", "()V"⟩, 6), (⟨"ClauseShop", "breachUncuredDuties", "()I"⟩, 6), (⟨"ClauseShop", "dutyAt", "(I)LClauseShop$Duty;"⟩, 6), (⟨"ClauseShopModel", "isContract", "(I)Z"⟩, 22), (⟨"ClauseShopModel", "marks", "(IIII)V"⟩, 22), (⟨"ClauseShopModel", "reason", "(I)I"⟩, 22), (⟨"ClauseShopModel", "makesDuties", "(I)I"⟩, 22)]
theorem lw_r1 : ∀ q ∈ lw_privs_1, lw_okq q := List.forall_mem_cons.mpr ⟨lw_p0, List.forall_mem_cons.mpr ⟨lw_p1, List.forall_mem_cons.mpr ⟨lw_p2, List.forall_mem_cons.mpr ⟨lw_p3, List.forall_mem_cons.mpr ⟨lw_p4, List.forall_mem_cons.mpr ⟨lw_p5, List.forall_mem_cons.mpr ⟨lw_p6, List.forall_mem_cons.mpr ⟨lw_p7, List.forall_mem_cons.mpr ⟨lw_p8, List.forall_mem_cons.mpr ⟨lw_p9, List.forall_mem_cons.mpr ⟨lw_p10, List.forall_mem_cons.mpr ⟨lw_p11, List.forall_mem_cons.mpr ⟨lw_p12, List.forall_mem_cons.mpr ⟨lw_p13, List.forall_mem_cons.mpr ⟨lw_p14, List.forall_mem_cons.mpr ⟨lw_p15, fun _ h => absurd h List.not_mem_nil⟩⟩⟩⟩⟩⟩⟩⟩⟩⟩⟩⟩⟩⟩⟩⟩
theorem lw_p16 : lw_okq (⟨"ClauseShopModel", "passes", "()I"⟩, 22) := ⟨⟨by decide +kernel, by decide +kernel⟩, List.mem_of_getElem? (i := 579) (by decide +kernel), List.mem_of_getElem? (i := 725) (by decide +kernel), List.mem_of_getElem? (i := 726) (by decide +kernel)⟩
theorem lw_p17 : lw_okq (⟨"ClauseShopModel", "isSuspendedNow", "(I)Z"⟩, 22) := ⟨⟨by decide +kernel, by decide +kernel⟩, List.mem_of_getElem? (i := 579) (by decide +kernel), List.mem_of_getElem? (i := 729) (by decide +kernel), List.mem_of_getElem? (i := 730) (by decide +kernel)⟩
theorem lw_p18 : lw_okq (⟨"ClauseShopModel", "isDuty", "(I)Z"⟩, 22) := ⟨⟨by decide +kernel, by decide +kernel⟩, List.mem_of_getElem? (i := 579) (by decide +kernel), List.mem_of_getElem? (i := 741) (by decide +kernel), List.mem_of_getElem? (i := 742) (by decide +kernel)⟩
def lw_privs_2 : List (MethodName × Nat) := [(⟨"ClauseShopModel", "passes", "()I"⟩, 22), (⟨"ClauseShopModel", "isSuspendedNow", "(I)Z"⟩, 22), (⟨"ClauseShopModel", "isDuty", "(I)Z"⟩, 22)]
theorem lw_r2 : ∀ q ∈ lw_privs_2, lw_okq q := List.forall_mem_cons.mpr ⟨lw_p16, List.forall_mem_cons.mpr ⟨lw_p17, List.forall_mem_cons.mpr ⟨lw_p18, fun _ h => absurd h List.not_mem_nil⟩⟩⟩
def lw_privs : List (MethodName × Nat) := lw_privs_1 ++ (lw_privs_2)
def lw_tbl : List Cond := k2_sels lw_privs ++ tables_1
theorem lw_privs_ok : ∀ q ∈ lw_privs, lw_okq q := by
  show ∀ q ∈ lw_privs_1 ++ (lw_privs_2), lw_okq q
  exact List.forall_mem_append.mpr ⟨lw_r1, lw_r2⟩
end
section
/-- the words of an array class over an array type, whatever the arguments -/
def va_AOA (t : FieldType) (U : State) : Prop := (Cond.arrayOver (.array t)).before #[] U = true
theorem va_AOA.of {t : FieldType} {A : Array Value} {U : State} (h : (Cond.arrayOver (.array t)).before A U = true) : va_AOA t U := h
theorem va_AOA.use {t : FieldType} {A : Array Value} {U : State} (h : va_AOA t U) : (Cond.arrayOver (.array t)).before A U = true := h
end
section
/-! ===== BEGIN words of one list among another's, by their places ===== -/
theorem goodIn_r {big : List Cond} (ws : List Cond) (ps : List Nat) (hp : ws = ps.filterMap (fun i => big[i]?)) (h : ws.all goodWord = true) : GoodIn big ws := by
  intro w hw
  have h1 := List.all_eq_true.mp h w hw
  rw [hp] at hw
  obtain ⟨i, -, hi⟩ := List.mem_filterMap.mp hw
  have hm : w ∈ big := by first | exact List.mem_of_getElem? hi | exact List.getElem?_mem hi
  exact ⟨hm, good_of_word h1⟩
theorem goodIn_app {big a b : List Cond} (ha : GoodIn big a) (hb : GoodIn big b) : GoodIn big (a ++ b) := fun w h => (List.mem_append.mp h).elim (ha w) (hb w)
theorem goodIn_ca {big a b : List Cond} {c : Cond} (ha : GoodIn big (c :: a)) (hb : GoodIn big b) : GoodIn big (c :: (a ++ b)) := fun w h => (List.mem_cons.mp h).elim (fun e => ha w (List.mem_cons.mpr (Or.inl e))) (fun h => (List.mem_append.mp h).elim (fun h => ha w (List.mem_cons.mpr (Or.inr h))) (hb w))
theorem goodIn_sub {big ws : List Cond} (hm : ∀ w ∈ ws, w ∈ big) (h : ws.all goodWord = true) : GoodIn big ws := fun w hw => ⟨hm w hw, good_of_word (List.all_eq_true.mp h w hw)⟩
/-! ===== END ===== -/

/-! ===== BEGIN new T[n][m]: the outer array a place, the inner ones among the pooled ===== -/
/-- f, but v at every address of l -/
def vr_up {α : Type} (f : Nat → α) (l : List Nat) (v : α) : Nat → α := fun a => if a ∈ l then v else f a
theorem vr_up_in {α : Type} {f : Nat → α} {l : List Nat} {v : α} {a : Nat} (h : a ∈ l) : vr_up f l v a = v := if_pos h
theorem vr_up_ne {α : Type} {f : Nat → α} {l : List Nat} {v : α} {a : Nat} (h : a ∉ l) : vr_up f l v a = f a := if_neg h
theorem vr_rows {L l : List Nat} {f : Nat → va_E} {e : va_E} (h : ∀ a, a ∈ l → a ∉ L) : va_pl L f ++ l.map (fun a => (a, e)) = va_pl (L ++ l) (vr_up f l e) := by
  unfold va_pl
  rw [List.map_append]
  congr 1
  · apply List.map_congr_left
    intro a ha
    rw [vr_up_ne (fun q => h a q ha)]
  · apply List.map_congr_left
    intro a ha
    rw [vr_up_in ha]
theorem vr_lay {X rows : va_W} {x : Nat × va_E} {pl : va_W} {D : va_G} {cl : List vw_C} {H : Heap} (hP : va_P D cl (((X ++ pl) ++ [x]) ++ rows) H) : va_P D cl ((X ++ [x]) ++ (pl ++ rows)) H := by
  rw [List.append_assoc (X ++ pl)] at hP
  have h := va_P.swap hP
  rw [← List.append_assoc X] at h
  have h2 := va_P.swap h
  rw [List.append_assoc (X ++ [x])] at h2
  exact h2
theorem vr_layD {X rows : va_W} {x : Nat × va_E} {pl : va_W} {A : Nat → Prop} (hD : va_D A (((X ++ pl) ++ [x]) ++ rows)) : va_D A ((X ++ [x]) ++ (pl ++ rows)) := by
  rw [List.append_assoc (X ++ pl)] at hD
  have h := va_D.swap hD
  rw [← List.append_assoc X] at h
  have h2 := va_D.swap h
  rw [List.append_assoc (X ++ [x])] at h2
  exact h2
theorem vr_outer (c : ClassId) (N h0 : Nat) : ∀ i : Nat, Jvm.Free.Multi.outerC c N h0 i = arrV c N (fun j => va_rf (if j < i then some (h0 + 1 + j) else none))
  | 0 => by
    show ({ cls := c, slots := Array.replicate N .null, vm := .none } : Cell) = _
    rw [arrV_new]
    refine congrArg (arrV c N) (funext fun j => ?_)
    simp [va_rf]
  | i + 1 => by
    show (Jvm.Free.Multi.outerC c N h0 i).setSlot i (.ref (h0 + 1 + i)) = _
    rw [vr_outer c N h0 i, arrV_store]
    refine congrArg (arrV c N) (funext fun j => ?_)
    by_cases e : j = i
    · subst e
      simp [updV, va_rf]
    · by_cases h : j < i
      · simp [updV, e, h, Nat.lt_succ_of_lt h]
      · simp [updV, e, h, show ¬ j < i + 1 by omega]
section VGM
variable {p : Program} {l : Launch} {e : Env} {R : Room} {s : State} {m : MethodId} {args : Array Value} {below : List Frame} {meth : Method} {c : Code} {H : Heap} {locs : List Loc} {cells slots : Nat} {Q : State → Prop}
variable {cc : ByteArray} {pc : Nat} {ls : Array Slot} {rest : List Value} {D : va_G} {cl : List vw_C} {A : Nat → Prop} {a : Nat} {tys : List (ClassId × FieldType)} {ws : va_W} {H0 : Heap}
theorem va_mna {X : va_W} {L : List Nat} {f : Nat → va_E} {cc : ByteArray} (hexec : p.tables.exec = Jvm.exec) (hb : c.code = cc) {own : String} {index : Nat} {ty : FieldType} {cy : ClassId} (hown : s.vm.findClass own = some m.cls) (hclink : (Cond.classLink own index ("[" ++ (FieldType.array ty).toString)).before args s = true) (hover : va_AOA ty s) (harr : (Cond.arrayClass ty).before args s = true) (hcy : s.vm.findClass (FieldType.array ty).toString = some cy)
    (hK : va_K D cl tys s) (hP : va_P D cl (X ++ va_pl L f) H) (hD : va_D A (X ++ va_pl L f)) (hS : va_S A H0 H locs) (hA : ∀ q, H0.size ≤ q → A q) {n k : Int32} {N' K' : Nat} {z : vp_A} (hn : ¬ n < 0) (hk : ¬ k < 0) (hN : n.toNatClampNeg = N') (hM : k.toNatClampNeg = K')
    (hb1 : N' * 4 ≤ 536870912) (hb2 : K' * componentBytes ty ≤ 536870912) (hb3 : K' ≤ 536870912) (hdf : fits ty (defaultValue ty) = true) (hdd : (defaultValue ty).isDefault = true) (hcells : cells + (1 + N') ≤ R.cells) (hslots : slots + (N' + N' * K') ≤ R.slots) (hz : ∀ c : ClassId, Jvm.Free.Multi.innerC c K' (defaultValue ty) = vp_cell c z) (hdg : decode cc pc = .ok (.multianewarray index 2, 4))
    (kk : ∀ (q : Nat) (r : Nat → Nat) (cA : ClassId) (H1 : Heap), (∀ i j : Nat, i < N' → j < N' → r i = r j → i = j) → (∀ i : Nat, i < N' → r i ∉ L) → va_K D cl (tys ++ [(cA, .array ty)]) s →
      va_P D cl ((X ++ [(q, .inl (cA, N', .inr (.inr (.inr (.inr (fun i => if i < N' then some (r i) else none))))))]) ++ va_pl (L ++ (List.range N').map r) (vr_up f ((List.range N').map r) (.inl (cy, z)))) H1 → va_D A ((X ++ [(q, .inl (cA, N', .inr (.inr (.inr (.inr (fun i => if i < N' then some (r i) else none))))))]) ++ va_pl (L ++ (List.range N').map r) (vr_up f ((List.range N').map r) (.inl (cy, z)))) → va_S A H0 H1 locs →
      W p l e R s m args below meth c H1 locs (cells + 1 + N') (slots + N' + N' * K') Q (F0 m (pc + 4) ls (.ref q :: rest))) : W p l e R s m args below meth c H locs cells slots Q (F0 m pc ls (.int k :: .int n :: rest)) := by
  subst hN
  subst hM
  intro T hT Xs
  obtain ⟨vm₁, cA, comp, -, fA, fC, hO, -, X', step⟩ := Xs.multianewarray2F hexec hown hclink (va_AOA.use hover) harr (g := F0 m pc ls (.int k :: .int n :: rest)) rfl (by rw [hb]; exact hdg) rfl hn hk hb1 hb2 hb3 hdf hdd hcells hslots
  have ec : some cy = some comp := hcy.symm.trans fC
  cases ec
  generalize hF : Jvm.Free.Multi.fill (T.setVm vm₁) cA cy n.toNatClampNeg k.toNatClampNeg (defaultValue ty) n.toNatClampNeg = F at X' step
  have hTh : (T.setVm vm₁).heap = H := hT
  obtain ⟨f1, f2, -, -⟩ := Jvm.Free.Multi.fill_facts (T.setVm vm₁) cA cy n.toNatClampNeg k.toNatClampNeg (defaultValue ty) n.toNatClampNeg
  rw [hF, hTh] at f1 f2
  have hold : ∀ x : Nat, x < H.size → F.heap[x]? = H[x]? := fun x hx => by
    have := Jvm.Free.Multi.fill_old (T.setVm vm₁) cA cy n.toNatClampNeg k.toNatClampNeg (defaultValue ty) (a := x) (by rw [hTh]; exact hx) n.toNatClampNeg
    rw [hF, hTh] at this
    exact this
  have hrow : ∀ j : Nat, j < n.toNatClampNeg → F.heap[H.size + 1 + j]? = some (vp_cell cy z) := fun j hj => by
    have := Jvm.Free.Multi.fill_inner (T.setVm vm₁) cA cy n.toNatClampNeg k.toNatClampNeg (defaultValue ty) n.toNatClampNeg j hj
    rw [hF, hTh, hz] at this
    exact this
  have hout : Jvm.Free.Multi.outerC cA n.toNatClampNeg H.size n.toNatClampNeg = vp_cell cA (n.toNatClampNeg, .inr (.inr (.inr (.inr (fun i => if i < n.toNatClampNeg then some (H.size + 1 + i) else none))))) := by
    rw [vp_cell_q]
    exact vr_outer cA n.toNatClampNeg H.size n.toNatClampNeg
  rw [hout] at f2
  have hlt : ∀ a, a ∈ L → a < H.size := fun a ha => by
    obtain ⟨k9, hk9⟩ := va_pl_get (X := X) (f := f) ha
    exact (hP k9 _ hk9).lt
  have hnl : ∀ i : Nat, i < n.toNatClampNeg → H.size + 1 + i ∉ L := fun i _ h => by
    have := hlt _ h
    omega
  have hnm : ∀ a, a ∈ (List.range n.toNatClampNeg).map (fun i => H.size + 1 + i) → a ∉ L := fun a ha h => by
    obtain ⟨i, -, rfl⟩ := List.mem_map.mp ha
    have := hlt _ h
    omega
  have hP0 : va_P D cl (X ++ va_pl L f) F.heap := hP.kept (fun k9 x hx => hold x.1 ((hP k9 x hx).lt))
  have hP1 : va_P D cl ((X ++ va_pl L f) ++ [(H.size, .inl (cA, n.toNatClampNeg, .inr (.inr (.inr (.inr (fun i => if i < n.toNatClampNeg then some (H.size + 1 + i) else none))))))]) F.heap := hP0.app (fun k9 x hx => by
    have h0 : k9 < 1 := (List.getElem?_eq_some_iff.mp hx).1
    rw [show k9 = 0 by omega] at hx
    cases hx
    exact f2)
  have hP2 : va_P D cl (((X ++ va_pl L f) ++ [(H.size, .inl (cA, n.toNatClampNeg, .inr (.inr (.inr (.inr (fun i => if i < n.toNatClampNeg then some (H.size + 1 + i) else none))))))]) ++ ((List.range n.toNatClampNeg).map (fun i => H.size + 1 + i)).map (fun a => (a, .inl (cy, z)))) F.heap := hP1.app (fun k9 x hx => by
    obtain ⟨a, ha, rfl⟩ := List.mem_map.mp (List.mem_of_getElem? hx)
    obtain ⟨i, hi, rfl⟩ := List.mem_map.mp ha
    exact hrow i (List.mem_range.mp hi))
  have hD2 : va_D A (((X ++ va_pl L f) ++ [(H.size, .inl (cA, n.toNatClampNeg, .inr (.inr (.inr (.inr (fun i => if i < n.toNatClampNeg then some (H.size + 1 + i) else none))))))]) ++ ((List.range n.toNatClampNeg).map (fun i => H.size + 1 + i)).map (fun a => (a, .inl (cy, z)))) := by
    have hD1 := hD.push (e := .inl (cA, n.toNatClampNeg, .inr (.inr (.inr (.inr (fun i => if i < n.toNatClampNeg then some (H.size + 1 + i) else none)))))) hP rfl (hA _ hS.1)
    generalize hW1 : (X ++ va_pl L f) ++ [(H.size, .inl (cA, n.toNatClampNeg, .inr (.inr (.inr (.inr (fun i => if i < n.toNatClampNeg then some (H.size + 1 + i) else none))))))] = W1 at hD1 hP1 ⊢
    have hle : ∀ (k9 : Nat) (x : Nat × va_E), W1[k9]? = some x → x.1 ≤ H.size := fun k9 x hx => by
      rw [← hW1] at hx
      by_cases hl : k9 < (X ++ va_pl L f).length
      · rw [List.getElem?_append_left hl] at hx
        exact Nat.le_of_lt ((hP k9 x hx).lt)
      · rw [List.getElem?_append_right (by omega)] at hx
        have h0 : k9 - (X ++ va_pl L f).length < 1 := (List.getElem?_eq_some_iff.mp hx).1
        rw [show k9 - (X ++ va_pl L f).length = 0 by omega] at hx
        cases hx
        exact Nat.le_refl _
    have hr : ∀ (k9 : Nat) (x : Nat × va_E), (((List.range n.toNatClampNeg).map (fun i => H.size + 1 + i)).map (fun a => ((a, .inl (cy, z)) : Nat × va_E)))[k9]? = some x → x.1 = H.size + 1 + k9 := fun k9 x hx => by
      rw [List.getElem?_map, List.getElem?_map] at hx
      by_cases h9 : k9 < n.toNatClampNeg
      · rw [List.getElem?_range h9] at hx
        cases hx
        rfl
      · have hn0 : (List.range n.toNatClampNeg)[k9]? = none := List.getElem?_eq_none (by rw [List.length_range]; omega)
        rw [hn0] at hx
        cases hx
    refine ⟨fun i j x y hi hj hxy => ?_, fun k9 x hx => ?_⟩
    · by_cases h1 : i < W1.length <;> by_cases h2 : j < W1.length
      · rw [List.getElem?_append_left h1] at hi
        rw [List.getElem?_append_left h2] at hj
        exact hD1.1 i j x y hi hj hxy
      · rw [List.getElem?_append_left h1] at hi
        rw [List.getElem?_append_right (by omega)] at hj
        have := hle _ _ hi
        have := hr _ _ hj
        omega
      · rw [List.getElem?_append_right (by omega)] at hi
        rw [List.getElem?_append_left h2] at hj
        have := hle _ _ hj
        have := hr _ _ hi
        omega
      · rw [List.getElem?_append_right (by omega)] at hi hj
        have := hr _ _ hi
        have := hr _ _ hj
        omega
    · by_cases h1 : k9 < W1.length
      · rw [List.getElem?_append_left h1] at hx
        exact hD1.2 k9 x hx
      · rw [List.getElem?_append_right (by omega)] at hx
        have := hr _ _ hx
        exact hA _ (by have := hS.1; omega)
  have hAr : ArrOfT s cA (.array ty) := fun N9 z9 => by
    obtain ⟨-, k9, hk9, cm9, hkk9⟩ := (hO 0 0 0).1
    exact ⟨(fun q hq => by cases hq), k9, hk9, cm9, hkk9⟩
  have hK2 : va_K D cl (tys ++ [(cA, .array ty)]) s := ⟨hK.1, fun k9 x hx => by
    by_cases hl : k9 < tys.length
    · rw [List.getElem?_append_left hl] at hx
      exact hK.2 k9 x hx
    · rw [List.getElem?_append_right (by omega)] at hx
      have h0 : k9 - tys.length < 1 := (List.getElem?_eq_some_iff.mp hx).1
      rw [show k9 - tys.length = 0 by omega] at hx
      cases hx
      exact ⟨hAr, fA⟩⟩
  obtain ⟨t, a1, b1⟩ := kk H.size (fun i => H.size + 1 + i) cA F.heap (fun i j _ _ h => by have h9 : H.size + 1 + i = H.size + 1 + j := h; omega) hnl hK2 (by rw [← vr_rows hnm]; exact vr_lay hP2) (by rw [← vr_rows hnm]; exact vr_layD hD2) ⟨by rw [f1]; have := hS.1; omega, fun x h1 h2 => (hold x (Nat.lt_of_lt_of_le h1 hS.1)).trans (hS.2.1 x h1 h2), hS.2.2⟩ F rfl X'
  refine ⟨t, step t ?_, b1⟩
  have e : T.heap.size = H.size := by rw [hT]
  rw [e]
  exact a1
end VGM
/-! ===== END ===== -/

/-! ===== BEGIN exceptions that leave a method, and their catching by the caller (launches without stack traces) ===== -/
section VXA
/-! The laws vx_back, vx_callV, vx_callS, vx_callSW, vx_throw0, vx_throwS follow proofs of the library, with one case more: JvmDerived/Free/Laws.lean (Back.of_free), Shelf42/LK1.lean (callV, callS), Shelf/KitTraced.lean (throwNew0V, throwNewS). -/
/-- where a method has thrown q: the class by its name, the cell, what was written, the world -/
def vx_T (XC : String → State → State → Prop) (st : State) (q : Addr) (t : State) (mc ms : Nat) (free : Addr → Prop) : Prop :=
  ∃ (E : String) (ce : Cell) (L : List Loc), XC E st t ∧ t.heap[q]? = some ce ∧ ce.vm = .none ∧ st.vm.findClass E = some ce.cls ∧ st.WarmedH t.vm ∧ st.sameButNew ({ t with vm := st.vm } : State) L mc ms ∧ ∀ z ∈ L, free z.base
def vx_Q (Qc : Array Value → State → Outcome → State → Prop) (XC : String → State → State → Prop) (mc ms : Nat) (free : Addr → Prop) : Array Value → State → Outcome → State → Prop := fun a st o t =>
  (Qc a st o t ∧ ∃ L, FrameEnd st o t L mc ms ∧ ∀ q ∈ L, free q.base) ∨ ∃ q, o = .threw q ∧ vx_T XC st q t mc ms free
/-- a callee that returns or throws -/
def vx_Met (l : Launch) (y : MethodName) (ws : List Cond) (rm : Room) (Pc : Array Value → State → Prop) (Qc : Array Value → State → Outcome → State → Prop) (XC : String → State → State → Prop) (mc ms : Nat) (free : Addr → Prop) : Prop :=
  MetFree l y (headSpec ws rm) Pc (fun _ _ _ _ _ => True) (vx_Q Qc XC mc ms free)
def vx_Post (XC : String → State → State → Prop) (mc ms : Nat) (free : Addr → Prop) : Pt → Array Value → Addr → Pt → Prop := fun A a q B =>
  ∃ (g : JFrame) (mk : MethodId) (t : State) (L : List Loc) (E : String) (ce : Cell), B.U.heap = t.heap ∧ B.U.vm = t.vm ∧ XC E (A.U.calling g mk a) t ∧ t.heap[q]? = some ce ∧ ce.vm = .none ∧ A.U.vm.findClass E = some ce.cls ∧ B.locs = A.locs ++ L ∧ (∀ z ∈ L, free z.base) ∧ B.cells = A.cells + mc ∧ B.slots = A.slots + ms
def vx_Back (l : Launch) (R : Room) (p : Program) (e : Env) (below : List Frame) (s : State) (sargs : Array Value) (y : MethodName) (len W9 : Nat)
    (Pre : Pt → Array Value → Prop) (Post : Pt → Array Value → Option Value → Pt → Prop) (PostX : Pt → Array Value → Addr → Pt → Prop) : Prop :=
  ∀ (m : MethodId) (meth : Method) (c : Code) (A : Pt) (g : JFrame) (ig : Instr) (mk : MethodId) (a : Array Value),
    Stand p l e R s m sargs below meth c A.U A.locs A.cells A.slots → g.method = m → g.locals.size = c.maxLocals → decode c.code g.pc = .ok (ig, len) →
    2 * g.monitorRoom + (g.stack.map fun v => v.category).sum ≤ W9 → A.U.methodNamed? y = some mk → Pre A a →
    (∃ (v : Option Value) (B : Pt), Stand p l e R s m sargs below meth c B.U B.locs B.cells B.slots ∧ Post A a v B ∧
      Steps p.tables e below (doInvoke e (A.U.setTop g) [] mk a).1 (B.U.setTop { g with pc := g.pc + len, stack := v.toList ++ g.stack })) ∨
    (∃ (q : Addr) (B : Pt), Stand p l e R s m sargs below meth c B.U B.locs B.cells B.slots ∧ PostX A a q B ∧
      Steps p.tables e below (doInvoke e (A.U.setTop g) [] mk a).1 ((B.U.setTop g).pushFrame (.throwing q)))
section Payer
variable {l : Launch} {R : Room} {p : Program} {e : Env} {below : List Frame} {s : State} {sargs : Array Value} {y : MethodName} {len W9 : Nat}
theorem vx_back {ws : List Cond} {rm : Room} {Pc : Array Value → State → Prop} {Qc : Array Value → State → Outcome → State → Prop} {XC : String → State → State → Prop} {mc ms : Nat} {free : Addr → Prop} {bytes : ByteArray} {maxL : Nat} {ret : Option FieldType}
    (hM : vx_Met l y ws rm Pc Qc XC mc ms free) (hblind : FrameBlind Pc) (hrc : rm.cells = mc) (hrs : rm.slots = ms)
    (hframes : rm.frames + 1 ≤ R.frames) (hlocals : W9 + (maxL + 11) + rm.locals ≤ R.locals)
    (hws : ∀ w ∈ ws, ∀ a' U, s.WarmedH U.vm → w.before a' U = true) (hcode : Cond.code y bytes maxL ret ∈ ws) (hinit : ∀ a' U, s.WarmedH U.vm → (Cond.initialized y.cls).before a' U = true) :
    vx_Back l R p e below s sargs y len W9 (PreOf R mc ms Pc) (PostOf Qc mc ms free) (vx_Post XC mc ms free) := by
  intro m meth c A g ig mk a X hg hsize hdg hW hn hp
  have h1 : (headSpec ws rm).pre.before a A.U = true := atoms_intro fun w hw => hws w hw _ _ X.warmed
  have h2 : (Cond.code y bytes maxL ret).before a A.U = true := hws _ hcode _ _ X.warmed
  have h3 : (Cond.initialized y.cls).before a A.U = true := hinit _ _ X.warmed
  have h4 : A.cells + (headSpec ws rm).room.cells ≤ R.cells := by rw [show (headSpec ws rm).room.cells = mc from hrc]; exact hp.1
  have h5 : A.slots + (headSpec ws rm).room.slots ≤ R.slots := by rw [show (headSpec ws rm).room.slots = ms from hrs]; exact hp.2.1
  have hPc : Pc a (A.U.calling g mk a) := hblind _ _ _ _ hp.2.2
  obtain ⟨U, Ls, c0, s0⟩ := A
  dsimp only [Pt.U, Pt.locs, Pt.cells, Pt.slots] at h1 h2 h3 h4 h5 X hn hPc ⊢
  obtain ⟨methY, cY, hmY, hcY, -, hlY, -, -, -, -⟩ := Cond.code_spec hn h2
  obtain ⟨kY, hkY, -⟩ := className_of_methodNamed hn
  have hinitY : kY.init = .initialized := Cond.initialized_spec (findClass_of_methodNamed hn) hkY h3
  have h : At U g.method c below := by rw [hg]; exact X.here
  have hlocals9 : W9 + (maxL + 11) + (headSpec ws rm).room.locals ≤ R.locals := hlocals
  have happ : (headSpec ws rm).appliesLoose y e.platform (U.calling g mk a) = true :=
    Spec.appliesLoose_calling (g := g) h hdg hn hkY hinitY
      (X.room_calling (g := g) (R' := (headSpec ws rm).room) hsize hmY hcY hframes (by rw [hlY]; omega) h4 h5) h1
  obtain ⟨mid, hmid⟩ := h.above
  have hfr : (U.setTop g).frames = (.java g :: mid) ++ below := by rw [State.frames_setTop' g h.top, hmid]; rfl
  obtain ⟨o, s₂, hsteps, -, hend, hq⟩ := Steps.callFree hM p X.admits X.cas X.clock (acts := []) hfr happ hPc trivial
  have hq' : vx_Q Qc XC mc ms free a (U.calling g mk a) o s₂ := hq
  rw [State.frames_setTop' g h.top] at hend
  obtain ⟨g₀, hg0⟩ := Option.isSome_iff_exists.mp h.top
  obtain ⟨r, hr⟩ := State.topJava?_eq_some.mp hg0
  have hr' : (({ U with heap := s₂.heap, slotsUsed := s₂.slotsUsed } : State).setVm s₂.vm).frames = .java g₀ :: r := hr
  rcases hq' with ⟨hqc, L, hfe, hL⟩ | ⟨q, rfl, E, ce, L, hx, hce, hcv, hcl, hW₂, hsm, hL⟩
  · obtain ⟨⟨v, rfl⟩, hW₂, e2, q2, q3, q4, q5, q6⟩ := id hfe
    have e3 : s₂ = ({ (U.calling g mk a).setFrames s₂.frames with heap := s₂.heap, slotsUsed := s₂.slotsUsed } : State).setVm s₂.vm := by
      have : s₂ = ({ s₂ with vm := (U.calling g mk a).vm } : State).setVm s₂.vm := rfl
      rw [e2] at this
      exact this
    obtain ⟨c₂, i₂, len₂, hc₂, hd₂, hf₂⟩ := hend
    have hW' : U.WarmedH s₂.vm := hW₂
    have hcc : c₂ = c := by
      have h1 : s₂.code? g.method = U.code? g.method := by
        rw [State.code?_eq, State.code?_eq, hW'.alike.method?]
      exact Option.some.inj (hc₂.symm.trans (h1.trans h.code))
    subst hcc
    have hlen : len₂ = len := by rw [hdg] at hd₂; cases hd₂; rfl
    subst hlen
    have hs₂ : s₂ = (({ U with heap := s₂.heap, slotsUsed := s₂.slotsUsed } : State).setVm s₂.vm).setTop { g with pc := g.pc + len₂, stack := v.toList ++ g.stack } := by
      refine e3.trans ?_
      rw [hf₂, State.calling_eq h.top, State.setFrames_setFrames, State.setTop_of_frames _ hr', hr]
      rfl
    have hsame : U.sameButNew ({ U with heap := s₂.heap, slotsUsed := s₂.slotsUsed } : State) L mc ms := by
      refine ⟨?_, q2, q3, q4, q5, q6⟩
      obtain ⟨t, ht, -⟩ := State.frames_cons hr
      show ({ U with heap := s₂.heap, slotsUsed := s₂.slotsUsed } : State) = { U.setFrames U.frames with heap := s₂.heap, slotsUsed := s₂.slotsUsed }
      rw [State.setFrames_self ht]
    subst hg
    refine Or.inl ⟨v, ⟨(({ U with heap := s₂.heap, slotsUsed := s₂.slotsUsed } : State).setVm s₂.vm), Ls ++ L, c0 + mc, s0 + ms⟩,
      ⟨X.admits, X.cas, X.clock, X.frames, X.room, X.hears, X.method, X.code, (X.here.setHeapUsed s₂.heap s₂.slotsUsed).setVm hW'.alike, X.tail, State.WarmedH.trans X.warmed hW', X.limits, X.bytes, X.same.trans (hsame.setVm s.vm)⟩,
      ⟨g, mk, s₂, L, rfl, rfl, hqc, rfl, hL, rfl, rfl⟩, ?_⟩
    show Steps p.tables e below _ ((({ U with heap := s₂.heap, slotsUsed := s₂.slotsUsed } : State).setVm s₂.vm).setTop { g with pc := g.pc + len₂, stack := v.toList ++ g.stack })
    rw [← hs₂]
    exact hsteps
  · obtain ⟨e2, q2, q3, q4, q5, q6⟩ := id hsm
    have e3 : s₂ = ({ (U.calling g mk a).setFrames s₂.frames with heap := s₂.heap, slotsUsed := s₂.slotsUsed } : State).setVm s₂.vm := by
      have : s₂ = ({ s₂ with vm := (U.calling g mk a).vm } : State).setVm s₂.vm := rfl
      rw [e2] at this
      exact this
    have hf₂ : s₂.frames = .throwing q :: .java g :: U.frames.tail := hend
    have hW' : U.WarmedH s₂.vm := hW₂
    have hs₂ : s₂ = ((({ U with heap := s₂.heap, slotsUsed := s₂.slotsUsed } : State).setVm s₂.vm).setTop g).pushFrame (.throwing q) := by
      refine e3.trans ?_
      rw [hf₂, State.calling_eq h.top, State.setFrames_setFrames, State.pushFrame, State.frames_setTop _ hr', State.setTop_of_frames _ hr', State.setFrames_setFrames, hr]
      rfl
    have hsame : U.sameButNew ({ U with heap := s₂.heap, slotsUsed := s₂.slotsUsed } : State) L mc ms := by
      refine ⟨?_, q2, q3, q4, q5, q6⟩
      obtain ⟨t, ht, -⟩ := State.frames_cons hr
      show ({ U with heap := s₂.heap, slotsUsed := s₂.slotsUsed } : State) = { U.setFrames U.frames with heap := s₂.heap, slotsUsed := s₂.slotsUsed }
      rw [State.setFrames_self ht]
    subst hg
    refine Or.inr ⟨q, ⟨(({ U with heap := s₂.heap, slotsUsed := s₂.slotsUsed } : State).setVm s₂.vm), Ls ++ L, c0 + mc, s0 + ms⟩,
      ⟨X.admits, X.cas, X.clock, X.frames, X.room, X.hears, X.method, X.code, (X.here.setHeapUsed s₂.heap s₂.slotsUsed).setVm hW'.alike, X.tail, State.WarmedH.trans X.warmed hW', X.limits, X.bytes, X.same.trans (hsame.setVm s.vm)⟩,
      ⟨g, mk, s₂, L, E, ce, rfl, rfl, hx, hce, hcv, hcl, rfl, hL, rfl, rfl⟩, ?_⟩
    show Steps p.tables e below _ (((({ U with heap := s₂.heap, slotsUsed := s₂.slotsUsed } : State).setVm s₂.vm).setTop g).pushFrame (.throwing q))
    rw [← hs₂]
    exact hsteps
end Payer
section Calls
variable {p : Program} {l : Launch} {e : Env} {R : Room} {s : State} {m : MethodId} {args : Array Value} {below : List Frame} {meth : Method} {c : Code} {T : State} {locs : List Loc} {cells slots : Nat}
theorem vx_callV (X : Stand p l e R s m args below meth c T locs cells slots) (hexec : p.tables.exec = Jvm.exec) {own C : String} {index : Nat} {y : MethodName} {bytes : ByteArray} {maxL : Nat} {ret : Option FieldType}
    (hown : s.vm.findClass own = some m.cls) (hlink : (Cond.methodLink own index y).before args s = true) (hinst : (Cond.instanceMethod y).before args s = true) (hsel : (Cond.selects C y y).before args s = true)
    (hcode : (Cond.code y bytes maxL ret).before args s = true) (hy : y.cls ≠ "java/lang/invoke/MethodHandle" ∧ y.cls ≠ "java/lang/invoke/VarHandle")
    {W9 : Nat} {Pre : Pt → Array Value → Prop} {Post : Pt → Array Value → Option Value → Pt → Prop} {PostX : Pt → Array Value → Addr → Pt → Prop} (hK : vx_Back l R p e below s args y 3 W9 Pre Post PostX)
    {b : Addr} {cellB : Cell} (hcell : T.heap[b]? = some cellB) (hobj : cellB.vm.isStatics = false) (hcls : s.vm.findClass C = some cellB.cls)
    {g : JFrame} (hg : g.method = m) (hsize : g.locals.size = c.maxLocals) {argsL rest : List Value} (hlen : ∀ sig, parseMethodDescriptor y.desc = some sig → argsL.length = sig.parameters.length)
    (hstack : g.stack = argsL.reverse ++ .ref b :: rest) (hW : 2 * g.monitorRoom + (rest.map fun v => v.category).sum ≤ W9) (hdg : decode c.code g.pc = .ok (.invokevirtual index, 3))
    (hpre : ∀ vm₁, s.WarmedH vm₁ → Pre ⟨T.setVm vm₁, locs, cells, slots⟩ (Value.ref b :: argsL).toArray) :
    (∃ (v : Option Value) (vm₁ : Vm) (B : Pt), s.WarmedH vm₁ ∧ Stand p l e R s m args below meth c B.U B.locs B.cells B.slots ∧ Post ⟨T.setVm vm₁, locs, cells, slots⟩ (Value.ref b :: argsL).toArray v B ∧
      ∀ target, Steps p.tables e below (B.U.setTop { g with pc := g.pc + 3, stack := v.toList ++ rest }) target → Steps p.tables e below (T.setTop g) target) ∨
    (∃ (q : Addr) (vm₁ : Vm) (B : Pt), s.WarmedH vm₁ ∧ Stand p l e R s m args below meth c B.U B.locs B.cells B.slots ∧ PostX ⟨T.setVm vm₁, locs, cells, slots⟩ (Value.ref b :: argsL).toArray q B ∧
      Steps p.tables e below (T.setTop g) ((B.U.setTop { g with stack := rest }).pushFrame (.throwing q))) := by
  obtain ⟨mk, methM, hnamed, hmethM, hstM, habM⟩ := Cond.instanceMethod_spec hinst
  obtain ⟨methM', cM, hmethM', -, -, -, -, -, -, hsigM⟩ := Cond.code_spec hnamed hcode
  cases hmethM.symm.trans hmethM'
  obtain ⟨c2, r2, m2, q1, q2, q3, q4, kP, hkP, hkPi⟩ := Cond.selects_spec hsel
  cases hcls.symm.trans q1
  cases (State.methodFound?_of_named hnamed hy).symm.trans q2
  cases hnamed.symm.trans q3
  have hselP : selectMethod e.platform s.vm cellB.cls mk = .method mk := by rw [Launch.admits_selectMethod X.admits]; exact q4
  obtain ⟨vm₁, X₁, hstep₁⟩ := X.invokevirtual hexec hown hlink hnamed hmethM hstM hkP hkPi hy (a := b) (cell := cellB) hcell
    (fun z h => by rw [h] at hobj; cases hobj) hselP hmethM habM hkP hkPi (g := g) hg (argsL := argsL) (rest := rest) (hlen _ hsigM) hstack hdg
  rcases hK m meth c ⟨T.setVm vm₁, locs, cells, slots⟩ { g with stack := rest } (.invokevirtual index) mk (Value.ref b :: argsL).toArray X₁ hg hsize hdg hW (X₁.named hnamed) (hpre vm₁ X₁.warmed) with ⟨v, B, X', hpost, hsteps⟩ | ⟨q, B, X', hpost, hsteps⟩
  · exact Or.inl ⟨v, vm₁, B, X₁.warmed, X', hpost, fun target h => hstep₁ _ fun acts => by rw [doInvoke_state]; exact hsteps.trans h⟩
  · exact Or.inr ⟨q, vm₁, B, X₁.warmed, X', hpost, hstep₁ _ fun acts => by rw [doInvoke_state]; exact hsteps⟩
theorem vx_callS (X : Stand p l e R s m args below meth c T locs cells slots) (hexec : p.tables.exec = Jvm.exec) {own : String} {index : Nat} {y : MethodName} {bytes : ByteArray} {maxL : Nat} {ret : Option FieldType}
    (hown : s.vm.findClass own = some m.cls) (hlink : (Cond.methodLink own index y).before args s = true) (hstat : (Cond.static y).before args s = true) (hinit : (Cond.initialized y.cls).before args s = true)
    (hcode : (Cond.code y bytes maxL ret).before args s = true) (hy : y.cls ≠ "java/lang/invoke/MethodHandle" ∧ y.cls ≠ "java/lang/invoke/VarHandle")
    {W9 : Nat} {Pre : Pt → Array Value → Prop} {Post : Pt → Array Value → Option Value → Pt → Prop} {PostX : Pt → Array Value → Addr → Pt → Prop} (hK : vx_Back l R p e below s args y 3 W9 Pre Post PostX)
    {g : JFrame} (hg : g.method = m) (hsize : g.locals.size = c.maxLocals) {argsL rest : List Value} (hlen : ∀ sig, parseMethodDescriptor y.desc = some sig → argsL.length = sig.parameters.length)
    (hstack : g.stack = argsL.reverse ++ rest) (hW : 2 * g.monitorRoom + (rest.map fun v => v.category).sum ≤ W9) (hdg : decode c.code g.pc = .ok (.invokestatic index, 3))
    (hpre : ∀ vm₁, s.WarmedH vm₁ → Pre ⟨T.setVm vm₁, locs, cells, slots⟩ argsL.toArray) :
    (∃ (v : Option Value) (vm₁ : Vm) (B : Pt), s.WarmedH vm₁ ∧ Stand p l e R s m args below meth c B.U B.locs B.cells B.slots ∧ Post ⟨T.setVm vm₁, locs, cells, slots⟩ argsL.toArray v B ∧
      ∀ target, Steps p.tables e below (B.U.setTop { g with pc := g.pc + 3, stack := v.toList ++ rest }) target → Steps p.tables e below (T.setTop g) target) ∨
    (∃ (q : Addr) (vm₁ : Vm) (B : Pt), s.WarmedH vm₁ ∧ Stand p l e R s m args below meth c B.U B.locs B.cells B.slots ∧ PostX ⟨T.setVm vm₁, locs, cells, slots⟩ argsL.toArray q B ∧
      Steps p.tables e below (T.setTop g) ((B.U.setTop { g with stack := rest }).pushFrame (.throwing q))) := by
  obtain ⟨mk, hnamed⟩ := Cond.code_named hcode
  obtain ⟨methM, cM, hmethM, -, -, -, -, -, -, hsigM⟩ := Cond.code_spec hnamed hcode
  have hstatic : methM.isStatic = true := Cond.static_spec hnamed hmethM hstat
  obtain ⟨kP, hkP, -⟩ := className_of_methodNamed hnamed
  have hinitP : kP.init = .initialized := Cond.initialized_spec (findClass_of_methodNamed hnamed) hkP hinit
  obtain ⟨vm₁, X₁, hstep₁⟩ := X.invokestatic hexec hown hlink hnamed hmethM hstatic hkP hinitP hy (g := g) hg (argsL := argsL) (rest := rest) (hlen _ hsigM) hstack hdg
  rcases hK m meth c ⟨T.setVm vm₁, locs, cells, slots⟩ { g with stack := rest } (.invokestatic index) mk argsL.toArray X₁ hg hsize hdg hW (X₁.named hnamed) (hpre vm₁ X₁.warmed) with ⟨v, B, X', hpost, hsteps⟩ | ⟨q, B, X', hpost, hsteps⟩
  · exact Or.inl ⟨v, vm₁, B, X₁.warmed, X', hpost, fun target h => hstep₁ _ fun acts => by rw [doInvoke_state]; exact hsteps.trans h⟩
  · exact Or.inr ⟨q, vm₁, B, X₁.warmed, X', hpost, hstep₁ _ fun acts => by rw [doInvoke_state]; exact hsteps⟩
end Calls
theorem vx_cls {s : State} {T : State} {vm₁ : Vm} {E : String} {k : ClassId} (hW : s.WarmedH vm₁) (h : (T.setVm vm₁).vm.findClass E = some k) : s.vm.findClass E = some k := by
  have h1 : vm₁.findClass E = some k := h
  rw [hW.alike.findClass] at h1
  exact h1
/-- the method's frame g, with q thrown over it -/
def vx_W (p : Program) (l : Launch) (e : Env) (R : Room) (s : State) (m : MethodId) (args : Array Value) (below : List Frame) (meth : Method) (c : Code) (H : Heap) (locs : List Loc) (cells slots : Nat) (Q : State → Prop) (g : JFrame) (q : Addr) : Prop :=
  ∀ T : State, T.heap = H → Stand p l e R s m args below meth c T locs cells slots → ∃ t, Steps p.tables e below ((T.setTop g).pushFrame (.throwing q)) t ∧ Q t
def vx_Run (p : Program) (l : Launch) (e : Env) (R : Room) (s : State) (m : MethodId) (args : Array Value) (below : List Frame) (meth : Method) (c : Code) (H : Heap) (locs : List Loc) (cells slots mc ms : Nat) (g : JFrame) (rest : List Value) (Qa : State → Outcome → State → Prop) (XC : String → State → State → Prop) (free : Addr → Prop) : Prop :=
  ∀ T : State, T.heap = H → Stand p l e R s m args below meth c T locs cells slots →
    (∃ (v : Option Value) (st₀ t T' : State) (L : List Loc), st₀.heap = H ∧ Stand p l e R s m args below meth c T' (locs ++ L) (cells + mc) (slots + ms) ∧ (∀ q ∈ L, free q.base) ∧ T'.heap = t.heap ∧ T'.vm = t.vm ∧ Qa st₀ (.returned v) t ∧
      Goes p e below T g T' { g with pc := g.pc + 3, stack := v.toList ++ rest }) ∨
    (∃ (q : Addr) (st₀ t T' : State) (L : List Loc) (E : String) (ce : Cell), st₀.heap = H ∧ Stand p l e R s m args below meth c T' (locs ++ L) (cells + mc) (slots + ms) ∧ (∀ z ∈ L, free z.base) ∧ T'.heap = t.heap ∧ T'.vm = t.vm ∧ XC E st₀ t ∧ t.heap[q]? = some ce ∧ ce.vm = .none ∧ s.vm.findClass E = some ce.cls ∧
      Steps p.tables e below (T.setTop g) ((T'.setTop { g with stack := rest }).pushFrame (.throwing q)))
def vx_X {S : Type} (px : S → Prop) (B : String → S → State → Prop) (A : Nat → Prop) : String → State → State → Prop := fun E st t => ∃ u : S, px u ∧ B E u t ∧ va_F A st t
section Runs
variable {p : Program} {l : Launch} {e : Env} {R : Room} {s : State} {m : MethodId} {args : Array Value} {below : List Frame} {meth : Method} {c : Code} {H : Heap} {locs : List Loc} {cells slots : Nat}
variable {y : MethodName} {bytes cc : ByteArray} {maxL nL mc ms n index : Nat} {ret : Option FieldType} {ws : List Cond} {rm : Room} {Pc : Array Value → State → Prop} {Qc : Array Value → State → Outcome → State → Prop} {XC : String → State → State → Prop} {free : Addr → Prop} {Ts : List Cond} {own C : String} {b : Addr} {As rest : List Value} {g : JFrame}
theorem vx_callBack (cb : CallB R s args own index y bytes maxL ret ws rm mc ms n) (hM : vx_Met l y ws rm Pc Qc XC mc ms free) (hbl : FrameBlind Pc) : vx_Back l R p e below s args y 3 8 (PreOf R mc ms Pc) (PostOf Qc mc ms free) (vx_Post XC mc ms free) := by
  obtain ⟨hrc, hrs, hfr, hlo, hws, hcw, -, hini, -⟩ := cb
  exact vx_back (bytes := bytes) (maxL := maxL) (ret := ret) hM hbl hrc hrs hfr hlo hws hcw (fun a' U hW => word_at hW (Or.inl (by first | rfl | simp [Cond.onTables, Cond.keeps, Cond.steady])) hini)
theorem vx_runV (S : CallFix p m c cc nL s args Ts own) (hM : vx_Met l y ws rm Pc Qc XC mc ms free) (cw : CallW R s args own C index y bytes maxL ret ws rm mc ms n) (hp : PreV s H C b Pc As)
    (hg : g.method = m) (hn : As.length = n) (hsize : g.locals.size = nL) (hstack : g.stack = As.reverse ++ .ref b :: rest) (hW : 2 * g.monitorRoom + (rest.map fun v => v.category).sum ≤ 8) (hdg : decode cc g.pc = .ok (.invokevirtual index, 3)) (hf : cells + mc ≤ R.cells ∧ slots + ms ≤ R.slots) :
    vx_Run p l e R s m args below meth c H locs cells slots mc ms g rest (Qc (Value.ref b :: As).toArray) XC free := by
  have hK : vx_Back l R p e below s args y 3 8 (PreOf R mc ms Pc) (PostOf Qc mc ms free) (vx_Post XC mc ms free) := vx_callBack cw.1 hM hp.1
  obtain ⟨⟨-, -, -, -, -, -, hcode, -, hy, hlen, hl⟩, hin, hse⟩ := cw
  obtain ⟨hx, hb, hml, ho, -⟩ := S
  obtain ⟨-, ⟨cellB, hcB, hoB, hclB⟩, hPc⟩ := hp
  intro T hT X
  rcases vx_callV X hx (C := C) (bytes := bytes) (maxL := maxL) (ret := ret) ho hl hin hse hcode hy hK (by rw [hT]; exact hcB) hoB hclB hg (hsize.trans hml.symm) (argsL := As) (rest := rest) (fun sig h => hn.trans (hlen sig h)) hstack hW (by rw [hb]; exact hdg)
    (fun vm₁ hW₁ => ⟨hf.1, hf.2, hPc (T.setVm vm₁) hT hW₁⟩) with ⟨v, vm₁, ⟨U', l2, c2, s2⟩, hW₁, X', ⟨g', mk, t, L, e1, e2, hq, h1, hL, h2, h3⟩, st⟩ | ⟨q, vm₁, ⟨U', l2, c2, s2⟩, hW₁, X', ⟨g', mk, t, L, E, ce, e1, e2, hq, hce, hcv, hcl, h1, hL, h2, h3⟩, st⟩
  · dsimp only [Pt.U, Pt.locs, Pt.cells, Pt.slots] at X' e1 e2 h1 h2 h3 st
    subst h1; subst h2; subst h3
    exact Or.inl ⟨v, (T.setVm vm₁).calling g' mk (Value.ref b :: As).toArray, t, U', L, hT, X', hL, e1, e2, hq, st⟩
  · dsimp only [Pt.U, Pt.locs, Pt.cells, Pt.slots] at X' e1 e2 h1 h2 h3 st hcl
    subst h1; subst h2; subst h3
    exact Or.inr ⟨q, (T.setVm vm₁).calling g' mk (Value.ref b :: As).toArray, t, U', L, E, ce, hT, X', hL, e1, e2, hq, hce, hcv, vx_cls hW₁ hcl, st⟩
theorem vx_runS (S : CallFix p m c cc nL s args Ts own) (hM : vx_Met l y ws rm Pc Qc XC mc ms free) (cw : CallB R s args own index y bytes maxL ret ws rm mc ms n ∧ (Cond.static y).before args s = true) (hp : PreS s H Pc As)
    (hg : g.method = m) (hn : As.length = n) (hsize : g.locals.size = nL) (hstack : g.stack = As.reverse ++ rest) (hW : 2 * g.monitorRoom + (rest.map fun v => v.category).sum ≤ 8) (hdg : decode cc g.pc = .ok (.invokestatic index, 3)) (hf : cells + mc ≤ R.cells ∧ slots + ms ≤ R.slots) :
    vx_Run p l e R s m args below meth c H locs cells slots mc ms g rest (Qc As.toArray) XC free := by
  have hK : vx_Back l R p e below s args y 3 8 (PreOf R mc ms Pc) (PostOf Qc mc ms free) (vx_Post XC mc ms free) := vx_callBack cw.1 hM hp.1
  obtain ⟨⟨-, -, -, -, -, -, hcode, hini, hy, hlen, hl⟩, hstt⟩ := cw
  obtain ⟨hx, hb, hml, ho, -⟩ := S
  intro T hT X
  rcases vx_callS X hx (bytes := bytes) (maxL := maxL) (ret := ret) ho hl hstt hini hcode hy hK hg (hsize.trans hml.symm) (argsL := As) (rest := rest) (fun sig h => hn.trans (hlen sig h)) hstack hW (by rw [hb]; exact hdg)
    (fun vm₁ hW₁ => ⟨hf.1, hf.2, hp.2 (T.setVm vm₁) hT hW₁⟩) with ⟨v, vm₁, ⟨U', l2, c2, s2⟩, hW₁, X', ⟨g', mk, t, L, e1, e2, hq, h1, hL, h2, h3⟩, st⟩ | ⟨q, vm₁, ⟨U', l2, c2, s2⟩, hW₁, X', ⟨g', mk, t, L, E, ce, e1, e2, hq, hce, hcv, hcl, h1, hL, h2, h3⟩, st⟩
  · dsimp only [Pt.U, Pt.locs, Pt.cells, Pt.slots] at X' e1 e2 h1 h2 h3 st
    subst h1; subst h2; subst h3
    exact Or.inl ⟨v, (T.setVm vm₁).calling g' mk As.toArray, t, U', L, hT, X', hL, e1, e2, hq, st⟩
  · dsimp only [Pt.U, Pt.locs, Pt.cells, Pt.slots] at X' e1 e2 h1 h2 h3 st hcl
    subst h1; subst h2; subst h3
    exact Or.inr ⟨q, (T.setVm vm₁).calling g' mk As.toArray, t, U', L, E, ce, hT, X', hL, e1, e2, hq, hce, hcv, vx_cls hW₁ hcl, st⟩
end Runs
section Rows
variable {p : Program} {l : Launch} {e : Env} {R : Room} {s : State} {m : MethodId} {args : Array Value} {below : List Frame} {meth : Method} {c : Code} {H : Heap} {locs : List Loc} {cells slots : Nat} {Q : State → Prop}
variable {mc ms : Nat} {free : Addr → Prop} {A0 A1 : Nat → Prop} {H0 : Heap} {a : Array Value} {pc : Nat} {ls : Array Slot} {st0 rest : List Value}
theorem vx_keep {st₀ t T' : State} {L : List Loc} (h0 : st₀.heap = H) (e1 : T'.heap = t.heap) (hS : va_S A0 H0 H locs) (hA : ∀ q, q < H.size → A1 q → A0 q) (hf : ∀ q, free q → A0 q) (hL : ∀ q ∈ L, free q.base) (hF : va_F A1 st₀ t) :
    H.size ≤ T'.heap.size ∧ (∀ q : Nat, q < H.size → ¬ A1 q → T'.heap[q]? = H[q]?) ∧ va_S A0 H0 T'.heap (locs ++ L) := by
  obtain ⟨hz, hk⟩ := hF
  rw [h0] at hz hk
  exact ⟨by rw [e1]; exact hz, fun q h1 h2 => by rw [e1]; exact hk q h1 h2,
    ⟨Nat.le_trans hS.1 (by rw [e1]; exact hz), fun q h1 h2 => by rw [e1, hk q (Nat.lt_of_lt_of_le h1 hS.1) (fun z => h2 (hA q (Nat.lt_of_lt_of_le h1 hS.1) z))]; exact hS.2.1 q h1 h2, fun q hq => by
      rcases List.mem_append.mp hq with h | h
      · exact hS.2.2 q h
      · exact hf _ (hL q h)⟩⟩
theorem vx_calli {S SX : Type} {post : Int32 → S → Prop} {px : SX → Prop} {B : S → State → Prop} {BX : String → SX → State → Prop} {AX : Nat → Prop} (hr : vx_Run p l e R s m args below meth c H locs cells slots mc ms (F0 m pc ls st0) rest (va_Qi post B A1 a) (vx_X px BX AX) free) (hS : va_S A0 H0 H locs) (hA : ∀ q, q < H.size → A1 q → A0 q) (hf : ∀ q, free q → A0 q) (hAX : ∀ q, q < H.size → AX q → A0 q)
    (kx : ∀ (E : String) (ce : Cell) (q9 : Addr) (u : SX) (t : State) (H1 : Heap) (locs1 : List Loc), t.heap = H1 → s.vm.Alike t.vm → px u → BX E u t → H.size ≤ H1.size → (∀ q : Nat, q < H.size → ¬ AX q → H1[q]? = H[q]?) → va_S A0 H0 H1 locs1 → H1[q9]? = some ce → ce.vm = .none → s.vm.findClass E = some ce.cls → vx_W p l e R s m args below meth c H1 locs1 (cells + mc) (slots + ms) Q (F0 m pc ls rest) q9)
    (kk : ∀ (r : Int32) (u : S) (t : State) (H1 : Heap) (locs1 : List Loc), t.heap = H1 → s.vm.Alike t.vm → post r u → B u t → H.size ≤ H1.size → (∀ q : Nat, q < H.size → ¬ A1 q → H1[q]? = H[q]?) → va_S A0 H0 H1 locs1 → W p l e R s m args below meth c H1 locs1 (cells + mc) (slots + ms) Q (F0 m (pc + 3) ls (.int r :: rest))) : W p l e R s m args below meth c H locs cells slots Q (F0 m pc ls st0) := by
  intro T hT X
  rcases hr T hT X with ⟨v, st₀, t, T', L, h0, X', hL, e1, e2, ⟨⟨r, u, hv, hp, hb⟩, hF⟩, st⟩ | ⟨q, st₀, t, T', L, E, ce, h0, X', hL, e1, e2, ⟨u, hp, hb, hF⟩, hce, hcv, hcl, st⟩
  · cases hv
    obtain ⟨k1, k2, k3⟩ := vx_keep h0 e1 hS hA hf hL hF
    obtain ⟨t2, a1, b1⟩ := kk r u t T'.heap (locs ++ L) e1.symm (by rw [← e2]; exact X'.warmed.alike) hp hb k1 k2 k3 T' rfl X'
    exact ⟨t2, st t2 a1, b1⟩
  · obtain ⟨k1, k2, k3⟩ := vx_keep h0 e1 hS hAX hf hL hF
    obtain ⟨t2, a1, b1⟩ := kx E ce q u t T'.heap (locs ++ L) e1.symm (by rw [← e2]; exact X'.warmed.alike) hp hb k1 k2 k3 (by rw [e1]; exact hce) hcv hcl T' rfl X'
    exact ⟨t2, st.trans a1, b1⟩
theorem vx_calll {S SX : Type} {post : Int64 → S → Prop} {px : SX → Prop} {B : S → State → Prop} {BX : String → SX → State → Prop} {AX : Nat → Prop} (hr : vx_Run p l e R s m args below meth c H locs cells slots mc ms (F0 m pc ls st0) rest (va_Ql post B A1 a) (vx_X px BX AX) free) (hS : va_S A0 H0 H locs) (hA : ∀ q, q < H.size → A1 q → A0 q) (hf : ∀ q, free q → A0 q) (hAX : ∀ q, q < H.size → AX q → A0 q)
    (kx : ∀ (E : String) (ce : Cell) (q9 : Addr) (u : SX) (t : State) (H1 : Heap) (locs1 : List Loc), t.heap = H1 → s.vm.Alike t.vm → px u → BX E u t → H.size ≤ H1.size → (∀ q : Nat, q < H.size → ¬ AX q → H1[q]? = H[q]?) → va_S A0 H0 H1 locs1 → H1[q9]? = some ce → ce.vm = .none → s.vm.findClass E = some ce.cls → vx_W p l e R s m args below meth c H1 locs1 (cells + mc) (slots + ms) Q (F0 m pc ls rest) q9)
    (kk : ∀ (r : Int64) (u : S) (t : State) (H1 : Heap) (locs1 : List Loc), t.heap = H1 → s.vm.Alike t.vm → post r u → B u t → H.size ≤ H1.size → (∀ q : Nat, q < H.size → ¬ A1 q → H1[q]? = H[q]?) → va_S A0 H0 H1 locs1 → W p l e R s m args below meth c H1 locs1 (cells + mc) (slots + ms) Q (F0 m (pc + 3) ls (.long r :: rest))) : W p l e R s m args below meth c H locs cells slots Q (F0 m pc ls st0) := by
  intro T hT X
  rcases hr T hT X with ⟨v, st₀, t, T', L, h0, X', hL, e1, e2, ⟨⟨r, u, hv, hp, hb⟩, hF⟩, st⟩ | ⟨q, st₀, t, T', L, E, ce, h0, X', hL, e1, e2, ⟨u, hp, hb, hF⟩, hce, hcv, hcl, st⟩
  · cases hv
    obtain ⟨k1, k2, k3⟩ := vx_keep h0 e1 hS hA hf hL hF
    obtain ⟨t2, a1, b1⟩ := kk r u t T'.heap (locs ++ L) e1.symm (by rw [← e2]; exact X'.warmed.alike) hp hb k1 k2 k3 T' rfl X'
    exact ⟨t2, st t2 a1, b1⟩
  · obtain ⟨k1, k2, k3⟩ := vx_keep h0 e1 hS hAX hf hL hF
    obtain ⟨t2, a1, b1⟩ := kx E ce q u t T'.heap (locs ++ L) e1.symm (by rw [← e2]; exact X'.warmed.alike) hp hb k1 k2 k3 (by rw [e1]; exact hce) hcv hcl T' rfl X'
    exact ⟨t2, st.trans a1, b1⟩
theorem vx_callf {S SX : Type} {post : UInt32 → S → Prop} {px : SX → Prop} {B : S → State → Prop} {BX : String → SX → State → Prop} {AX : Nat → Prop} (hr : vx_Run p l e R s m args below meth c H locs cells slots mc ms (F0 m pc ls st0) rest (va_Qf post B A1 a) (vx_X px BX AX) free) (hS : va_S A0 H0 H locs) (hA : ∀ q, q < H.size → A1 q → A0 q) (hf : ∀ q, free q → A0 q) (hAX : ∀ q, q < H.size → AX q → A0 q)
    (kx : ∀ (E : String) (ce : Cell) (q9 : Addr) (u : SX) (t : State) (H1 : Heap) (locs1 : List Loc), t.heap = H1 → s.vm.Alike t.vm → px u → BX E u t → H.size ≤ H1.size → (∀ q : Nat, q < H.size → ¬ AX q → H1[q]? = H[q]?) → va_S A0 H0 H1 locs1 → H1[q9]? = some ce → ce.vm = .none → s.vm.findClass E = some ce.cls → vx_W p l e R s m args below meth c H1 locs1 (cells + mc) (slots + ms) Q (F0 m pc ls rest) q9)
    (kk : ∀ (r : UInt32) (u : S) (t : State) (H1 : Heap) (locs1 : List Loc), t.heap = H1 → s.vm.Alike t.vm → post r u → B u t → H.size ≤ H1.size → (∀ q : Nat, q < H.size → ¬ A1 q → H1[q]? = H[q]?) → va_S A0 H0 H1 locs1 → W p l e R s m args below meth c H1 locs1 (cells + mc) (slots + ms) Q (F0 m (pc + 3) ls (.float r :: rest))) : W p l e R s m args below meth c H locs cells slots Q (F0 m pc ls st0) := by
  intro T hT X
  rcases hr T hT X with ⟨v, st₀, t, T', L, h0, X', hL, e1, e2, ⟨⟨r, u, hv, hp, hb⟩, hF⟩, st⟩ | ⟨q, st₀, t, T', L, E, ce, h0, X', hL, e1, e2, ⟨u, hp, hb, hF⟩, hce, hcv, hcl, st⟩
  · cases hv
    obtain ⟨k1, k2, k3⟩ := vx_keep h0 e1 hS hA hf hL hF
    obtain ⟨t2, a1, b1⟩ := kk r u t T'.heap (locs ++ L) e1.symm (by rw [← e2]; exact X'.warmed.alike) hp hb k1 k2 k3 T' rfl X'
    exact ⟨t2, st t2 a1, b1⟩
  · obtain ⟨k1, k2, k3⟩ := vx_keep h0 e1 hS hAX hf hL hF
    obtain ⟨t2, a1, b1⟩ := kx E ce q u t T'.heap (locs ++ L) e1.symm (by rw [← e2]; exact X'.warmed.alike) hp hb k1 k2 k3 (by rw [e1]; exact hce) hcv hcl T' rfl X'
    exact ⟨t2, st.trans a1, b1⟩
theorem vx_calld {S SX : Type} {post : UInt64 → S → Prop} {px : SX → Prop} {B : S → State → Prop} {BX : String → SX → State → Prop} {AX : Nat → Prop} (hr : vx_Run p l e R s m args below meth c H locs cells slots mc ms (F0 m pc ls st0) rest (va_Qd post B A1 a) (vx_X px BX AX) free) (hS : va_S A0 H0 H locs) (hA : ∀ q, q < H.size → A1 q → A0 q) (hf : ∀ q, free q → A0 q) (hAX : ∀ q, q < H.size → AX q → A0 q)
    (kx : ∀ (E : String) (ce : Cell) (q9 : Addr) (u : SX) (t : State) (H1 : Heap) (locs1 : List Loc), t.heap = H1 → s.vm.Alike t.vm → px u → BX E u t → H.size ≤ H1.size → (∀ q : Nat, q < H.size → ¬ AX q → H1[q]? = H[q]?) → va_S A0 H0 H1 locs1 → H1[q9]? = some ce → ce.vm = .none → s.vm.findClass E = some ce.cls → vx_W p l e R s m args below meth c H1 locs1 (cells + mc) (slots + ms) Q (F0 m pc ls rest) q9)
    (kk : ∀ (r : UInt64) (u : S) (t : State) (H1 : Heap) (locs1 : List Loc), t.heap = H1 → s.vm.Alike t.vm → post r u → B u t → H.size ≤ H1.size → (∀ q : Nat, q < H.size → ¬ A1 q → H1[q]? = H[q]?) → va_S A0 H0 H1 locs1 → W p l e R s m args below meth c H1 locs1 (cells + mc) (slots + ms) Q (F0 m (pc + 3) ls (.double r :: rest))) : W p l e R s m args below meth c H locs cells slots Q (F0 m pc ls st0) := by
  intro T hT X
  rcases hr T hT X with ⟨v, st₀, t, T', L, h0, X', hL, e1, e2, ⟨⟨r, u, hv, hp, hb⟩, hF⟩, st⟩ | ⟨q, st₀, t, T', L, E, ce, h0, X', hL, e1, e2, ⟨u, hp, hb, hF⟩, hce, hcv, hcl, st⟩
  · cases hv
    obtain ⟨k1, k2, k3⟩ := vx_keep h0 e1 hS hA hf hL hF
    obtain ⟨t2, a1, b1⟩ := kk r u t T'.heap (locs ++ L) e1.symm (by rw [← e2]; exact X'.warmed.alike) hp hb k1 k2 k3 T' rfl X'
    exact ⟨t2, st t2 a1, b1⟩
  · obtain ⟨k1, k2, k3⟩ := vx_keep h0 e1 hS hAX hf hL hF
    obtain ⟨t2, a1, b1⟩ := kx E ce q u t T'.heap (locs ++ L) e1.symm (by rw [← e2]; exact X'.warmed.alike) hp hb k1 k2 k3 (by rw [e1]; exact hce) hcv hcl T' rfl X'
    exact ⟨t2, st.trans a1, b1⟩
theorem vx_callv {S SX : Type} {post : S → Prop} {px : SX → Prop} {B : S → State → Prop} {BX : String → SX → State → Prop} {AX : Nat → Prop} (hr : vx_Run p l e R s m args below meth c H locs cells slots mc ms (F0 m pc ls st0) rest (va_Qv post B A1 a) (vx_X px BX AX) free) (hS : va_S A0 H0 H locs) (hA : ∀ q, q < H.size → A1 q → A0 q) (hf : ∀ q, free q → A0 q) (hAX : ∀ q, q < H.size → AX q → A0 q)
    (kx : ∀ (E : String) (ce : Cell) (q9 : Addr) (u : SX) (t : State) (H1 : Heap) (locs1 : List Loc), t.heap = H1 → s.vm.Alike t.vm → px u → BX E u t → H.size ≤ H1.size → (∀ q : Nat, q < H.size → ¬ AX q → H1[q]? = H[q]?) → va_S A0 H0 H1 locs1 → H1[q9]? = some ce → ce.vm = .none → s.vm.findClass E = some ce.cls → vx_W p l e R s m args below meth c H1 locs1 (cells + mc) (slots + ms) Q (F0 m pc ls rest) q9)
    (kk : ∀ (u : S) (t : State) (H1 : Heap) (locs1 : List Loc), t.heap = H1 → s.vm.Alike t.vm → post u → B u t → H.size ≤ H1.size → (∀ q : Nat, q < H.size → ¬ A1 q → H1[q]? = H[q]?) → va_S A0 H0 H1 locs1 → W p l e R s m args below meth c H1 locs1 (cells + mc) (slots + ms) Q (F0 m (pc + 3) ls (rest))) : W p l e R s m args below meth c H locs cells slots Q (F0 m pc ls st0) := by
  intro T hT X
  rcases hr T hT X with ⟨v, st₀, t, T', L, h0, X', hL, e1, e2, ⟨⟨u, hv, hp, hb⟩, hF⟩, st⟩ | ⟨q, st₀, t, T', L, E, ce, h0, X', hL, e1, e2, ⟨u, hp, hb, hF⟩, hce, hcv, hcl, st⟩
  · cases hv
    obtain ⟨k1, k2, k3⟩ := vx_keep h0 e1 hS hA hf hL hF
    obtain ⟨t2, a1, b1⟩ := kk u t T'.heap (locs ++ L) e1.symm (by rw [← e2]; exact X'.warmed.alike) hp hb k1 k2 k3 T' rfl X'
    exact ⟨t2, st t2 a1, b1⟩
  · obtain ⟨k1, k2, k3⟩ := vx_keep h0 e1 hS hAX hf hL hF
    obtain ⟨t2, a1, b1⟩ := kx E ce q u t T'.heap (locs ++ L) e1.symm (by rw [← e2]; exact X'.warmed.alike) hp hb k1 k2 k3 (by rw [e1]; exact hce) hcv hcl T' rfl X'
    exact ⟨t2, st.trans a1, b1⟩
/-- caught by the row x of this method's table; the rows ahead don't take it -/
theorem vx_catch {own name : String} {E : String} {ce : Cell} {q : Addr} (hown : s.vm.findClass own = some m.cls) (pre : List ExceptionTableEntry) (x : ExceptionTableEntry) (suf : List ExceptionTableEntry) (hsplit : c.exceptionTable.toList = pre ++ x :: suf)
    (hpass : ∀ z ∈ pre, covers z pc = false ∨ (z.catchType ≠ 0 ∧ ∃ nm : String, (Cond.classLink own z.catchType nm).before args s = true ∧ va_Nc E nm s)) (hx : covers x pc = true) (h0 : x.catchType ≠ 0)
    (hlink : (Cond.classLink own x.catchType name).before args s = true) (hcast : (Cond.castable E name).before args s = true) (hcell : H[q]? = some ce) (hv : ce.vm = .none) (hcl : s.vm.findClass E = some ce.cls)
    (kk : W p l e R s m args below meth c H locs cells slots Q (F0 m x.handlerPc ls [.ref q])) : vx_W p l e R s m args below meth c H locs cells slots Q (F0 m pc ls rest) q := by
  intro T hT X
  have hpl : e.platform.magicAccessors = ({} : Platform).magicAccessors := by rw [X.admits.platform]
  obtain ⟨c3, c4, hc3, hc4, hasg⟩ := Cond.castable_spec hcast
  cases Option.some.inj (hc3.symm.trans hcl)
  obtain ⟨c5, hc5, hcl5⟩ := Cond.classLink_spec hown hlink e.platform hpl
  cases Option.some.inj (hc4.symm.trans hc5)
  obtain ⟨vm', X', st⟩ := X.thenCaughtThrough q (g := F0 m pc ls rest) rfl (Steps.refl _) (by rw [hT]; exact hcell) (by rw [hv]; rfl) (by obtain ⟨k9, h9, -⟩ := Vm.findClass_spec hcl; exact ⟨k9, h9⟩) pre x suf hsplit
    (fun z hz => by
      rcases hpass z hz with h | ⟨hz0, nm, hl1, hn1⟩
      · exact Or.inl h
      · obtain ⟨c6, hc6, hcl6⟩ := Cond.classLink_spec hown hl1 e.platform hpl
        obtain ⟨a8, b8, h1, h2, h3⟩ := hn1
        cases Option.some.inj (h1.symm.trans hcl)
        cases Option.some.inj (h2.symm.trans hc6)
        exact Or.inr ⟨hz0, _, hcl6, h3⟩) hx (Or.inr ⟨h0, c4, hcl5, hasg⟩)
  obtain ⟨t, a1, b1⟩ := kk (T.setVm vm') hT X'
  exact ⟨t, st.trans a1, b1⟩
end Rows
section Ends
variable {p : Program} {l : Launch} {e : Env} {R : Room} {s : State} {m : MethodId} {args : Array Value} {below : List Frame} {meth : Method} {c : Code} {H : Heap} {locs : List Loc} {cells slots : Nat} {Q : State → Prop}
variable {mc ms : Nat} {free : Addr → Prop} {A0 A1 : Nat → Prop} {H0 : Heap} {a : Array Value} {ls : Array Slot} {st0 rest : List Value}
variable {Qc : Array Value → State → Outcome → State → Prop} {XC : String → State → State → Prop}
/-- what a body that may throw owes at its end -/
def vx_MQ (below : List Frame) (Qc : Array Value → State → Outcome → State → Prop) (XC : String → State → State → Prop) (a : Array Value) (s : State) (mc ms : Nat) (free : Addr → Prop) : State → Prop := fun t =>
  ∃ o, t.status = .running ∧ Ended t below o ∧ vx_Q Qc XC mc ms free a s o t
theorem vx_ret {g : JFrame} {mc ms : Nat} (k : W p l e R s m args below meth c H locs cells slots (MQ below Qc args s mc ms free) g) : W p l e R s m args below meth c H locs cells slots (vx_MQ below Qc XC args s mc ms free) g := by
  intro T hT X
  obtain ⟨t, a1, o, b1, b2, b3, b4⟩ := k T hT X
  exact ⟨t, a1, o, b1, b2, Or.inl ⟨b3, b4⟩⟩
/-- not caught here: it goes on to the caller -/
theorem vx_widen {g : JFrame} {q : Addr} {k n : Nat} (h1 : cells ≤ k) (h2 : slots ≤ n) (kk : vx_W p l e R s m args below meth c H locs k n Q g q) : vx_W p l e R s m args below meth c H locs cells slots Q g q := fun T hT X => kk T hT (stand_widen X h1 h2)
theorem vx_out {pc : Nat} {E : String} {ce : Cell} {q : Addr} {mc ms : Nat} (hout : ∀ x ∈ c.exceptionTable.toList, covers x pc = false) (hlocks : meth.locks = false) (hcell : H[q]? = some ce) (hv : ce.vm = .none) (hcl : s.vm.findClass E = some ce.cls)
    (hx : ∀ t : State, t.heap = H → s.vm.Alike t.vm → XC E s t) (hf : ∀ z ∈ locs, free z.base) (hc : cells ≤ mc) (hs : slots ≤ ms) :
    vx_W p l e R s m args below meth c H locs cells slots (vx_MQ below Qc XC args s mc ms free) (F0 m pc ls rest) q := by
  intro T hT X
  obtain ⟨st1, hrun, hend, hW, hsm⟩ := X.leaveThrown q (g := F0 m pc ls rest) rfl rfl rfl hout hlocks
  have hcell9 : (T.setFrames (.throwing q :: below)).heap[q]? = some ce := by
    show T.heap[q]? = some ce
    rw [hT]; exact hcell
  exact ⟨_, st1, .threw q, hrun, hend, Or.inr ⟨q, rfl, E, ce, locs, hx _ hT hW.alike, hcell9, hv, hcl, hW, hsm.mono hc hs, hf⟩⟩
theorem vx_frame {U : State} {k n : Nat} (h : s.sameButNew ({ U with vm := s.vm } : State) locs k n) : s.heap.size ≤ U.heap.size ∧ ∀ q : Nat, q < s.heap.size → (∀ z ∈ locs, z.base ≠ q) → U.heap[q]? = s.heap[q]? := by
  obtain ⟨-, h2, -, -, -, h6⟩ := h
  refine ⟨h2, fun q hq hz => ?_⟩
  obtain ⟨c9, e1, e2, e3, e4⟩ := h6 q _ (Array.getElem?_eq_getElem hq)
  have hs : c9.slots = (s.heap[q]).slots := Array.ext_getElem? fun i => e4 i fun hm => hz _ hm rfl
  have h9 : c9 = s.heap[q] := by
    rw [hs] at e2
    exact e2
  have e5 : U.heap[q]? = some c9 := e1
  rw [e5, h9, Array.getElem?_eq_getElem hq]
/-- the words of a throw but the four that speak of the heap -/
def vx_no (w : Cond) : Bool := decide (w ≠ .isRef (.static Bundle.tN "UNASSIGNED_STACK" Bundle.steD)) && decide (w ≠ .isRef (.static Bundle.tN "SUPPRESSED_SENTINEL" Bundle.listD)) && decide (w ≠ .laysStatic Bundle.tN "UNASSIGNED_STACK" Bundle.steD) && decide (w ≠ .laysStatic Bundle.tN "SUPPRESSED_SENTINEL" Bundle.listD)
def vx_at0 (own : String) (ic : Nat) (X : String) (names : List String) : List Cond := (Bundle.ownAtoms0 own ic X names).filter vx_no
def vx_atS (own : String) (ic : Nat) (X : String) (names : List String) : List Cond := (Bundle.ownAtoms own ic X names).filter vx_no
/-- a word that the tables alone decide, or a good one -/
def vx_ot (w : Cond) : Bool := w.onTables || goodWord w
theorem vx_ot_at {args a' : Array Value} {s U : State} {w : Cond} (hW : s.WarmedH U.vm) (hvm : s.vm = U.vm) (hg : vx_ot w = true) (h : w.before args s = true) : w.before a' U = true := by
  simp only [vx_ot, Bool.or_eq_true] at hg
  rcases hg with hg | hg
  · exact va_tabs hg hvm h
  · exact word_at hW (good_of_word hg) h
/-- a list's words: the good ones out of the method's own list, the others by premises of their own -/
theorem vx_hat {args : Array Value} {s : State} {L B : List Cond} (h1 : ∀ w ∈ L.filter goodWord, w.before args s = true) (h2 : ∀ w ∈ L.filter (fun w => !goodWord w), w ∈ B) (h3 : ∀ w ∈ B, w.before args s = true) : ∀ w ∈ L, w.before args s = true := by
  intro w hw
  by_cases g : goodWord w = true
  · exact h1 w (List.mem_filter.mpr ⟨hw, g⟩)
  · refine h3 w (h2 w (List.mem_filter.mpr ⟨hw, ?_⟩))
    show (!goodWord w) = true
    cases hgw : goodWord w
    · rfl
    · exact absurd hgw g
theorem vx_c {args : Array Value} {s : State} {w : Cond} {B : List Cond} (h : w.before args s = true) (t : ∀ w ∈ B, w.before args s = true) : ∀ w' ∈ w :: B, w'.before args s = true := fun w' h' => (List.mem_cons.mp h').elim (fun e => by rw [e]; exact h) (t w')
theorem vx_n {args : Array Value} {s : State} : ∀ w ∈ ([] : List Cond), w.before args s = true := fun _ h => nomatch h
theorem vx_own {args : Array Value} {s : State} {L : List Cond} (h1 : ∀ w ∈ L.filter vx_no, w.before args s = true)
    (hU : (Cond.isRef (.static Bundle.tN "UNASSIGNED_STACK" Bundle.steD)).before args s = true) (hN : (Cond.isRef (.static Bundle.tN "SUPPRESSED_SENTINEL" Bundle.listD)).before args s = true)
    (lU : (Cond.laysStatic Bundle.tN "UNASSIGNED_STACK" Bundle.steD).before args s = true) (lN : (Cond.laysStatic Bundle.tN "SUPPRESSED_SENTINEL" Bundle.listD).before args s = true) : ∀ w ∈ L, w.before args s = true := by
  intro w hw
  by_cases e1 : w = .isRef (.static Bundle.tN "UNASSIGNED_STACK" Bundle.steD)
  · rw [e1]; exact hU
  · by_cases e2 : w = .isRef (.static Bundle.tN "SUPPRESSED_SENTINEL" Bundle.listD)
    · rw [e2]; exact hN
    · by_cases e3 : w = .laysStatic Bundle.tN "UNASSIGNED_STACK" Bundle.steD
      · rw [e3]; exact lU
      · by_cases e4 : w = .laysStatic Bundle.tN "SUPPRESSED_SENTINEL" Bundle.listD
        · rw [e4]; exact lN
        · exact h1 w (List.mem_filter.mpr ⟨hw, by unfold vx_no; rw [decide_eq_true e1, decide_eq_true e2, decide_eq_true e3, decide_eq_true e4]; rfl⟩)
/-- where a static field lies, its class's statics cell in H -/
def vx_L (C n d : String) (A : Nat → Prop) (U : State) (H : Heap) : Prop := ∃ (c : ClassId) (k : Class) (i : Nat) (f : Field) (a : Nat) (cell : Cell), U.vm.findClass C = some c ∧ U.fieldFound? C n d = some (c, k, i, f) ∧ f.isStatic = true ∧ k.statics = some a ∧ H[a]? = some cell ∧ cell.vm.isStatics = true ∧ cell.cls = c ∧ f.slot < cell.slots.size ∧ k.staticTypes[f.slot]? = some f.type ∧ ¬ A a
theorem vx_L.moved {C n d : String} {A : Nat → Prop} {u U : State} {H : Heap} (hvm : u.vm.Alike U.vm) (h : vx_L C n d A u H) : vx_L C n d A U H := by
  obtain ⟨c, k, i, f, a, cell, h1, h2, h3, h4, h5, h6, h7, h8, h9, h10⟩ := h
  obtain ⟨k', hi', he⟩ := State.fieldFound?_setVm hvm h2
  exact ⟨c, k', i, f, a, cell, by rw [hvm.findClass]; exact h1, hi', h3, by rw [he]; exact h4, h5, h6, h7, h8, by rw [he]; exact h9, h10⟩
theorem vx_L.kept {C n d : String} {A : Nat → Prop} {U : State} {H H1 : Heap} (h : vx_L C n d A U H) (hq : ∀ a : Nat, a < H.size → ¬ A a → H1[a]? = H[a]?) : vx_L C n d A U H1 := by
  obtain ⟨c, k, i, f, a, cell, h1, h2, h3, h4, h5, h6, h7, h8, h9, h10⟩ := h
  exact ⟨c, k, i, f, a, cell, h1, h2, h3, h4, by rw [hq a (Array.getElem?_eq_some_iff.mp h5).1 h10]; exact h5, h6, h7, h8, h9, h10⟩
theorem vx_L.narrow {C n d : String} {A B : Nat → Prop} {U : State} {H : Heap} (h : vx_L C n d A U H) (hAB : ∀ q, B q → A q) : vx_L C n d B U H := by
  obtain ⟨c, k, i, f, a, cell, h1, h2, h3, h4, h5, h6, h7, h8, h9, h10⟩ := h
  exact ⟨c, k, i, f, a, cell, h1, h2, h3, h4, h5, h6, h7, h8, h9, fun z => h10 (hAB _ z)⟩
theorem vx_L.word {C n d : String} {A : Nat → Prop} {s : State} {args : Array Value} (h : vx_L C n d A s s.heap) : (Cond.laysStatic C n d).before args s = true := by
  obtain ⟨c, k, i, f, a, cell, h1, h2, h3, h4, h5, h6, h7, h8, h9, -⟩ := h
  show (Cond.laysStatic C n d).holds args s none s [] = true
  exact Cond.laysStatic_of h1 h2 h3 h4 h5 h6 h7 h8 h9
/-- .. and what it holds: null or some reference -/
def vx_Zq (C n d : String) (A : Nat → Prop) (U : State) (H : Heap) : Prop := va_Zq C n d A U H ∧ vx_L C n d A U H
theorem vx_Zq.moved {C n d : String} {A : Nat → Prop} {u U : State} {H : Heap} (hvm : u.vm.Alike U.vm) (h : vx_Zq C n d A u H) : vx_Zq C n d A U H := ⟨va_Zq.moved hvm h.1, vx_L.moved hvm h.2⟩
theorem vx_Zq.kept {C n d : String} {A : Nat → Prop} {U : State} {H H1 : Heap} (h : vx_Zq C n d A U H) (hq : ∀ a : Nat, a < H.size → ¬ A a → H1[a]? = H[a]?) : vx_Zq C n d A U H1 := ⟨va_Zq.kept h.1 hq, vx_L.kept h.2 hq⟩
theorem vx_Zq.narrow {C n d : String} {A B : Nat → Prop} {U : State} {H : Heap} (h : vx_Zq C n d A U H) (hAB : ∀ q, B q → A q) : vx_Zq C n d B U H := ⟨va_Zq.narrow h.1 hAB, vx_L.narrow h.2 hAB⟩
theorem vx_Zqof {args : Array Value} {s : State} {C n d : String} {A : Nat → Prop} (hl : (Cond.laysStatic C n d).before args s = true) (hini : (Cond.initialized C).before args s = true) (h : (Cond.isRef (.static C n d)).before args s = true) (hA : ∀ a : Nat, a < s.heap.size → ¬ A a) : vx_Zq C n d A s s.heap := by
  refine ⟨va_Zqof hl hini h hA, ?_⟩
  obtain ⟨c, k, i, f, a, cell, h1, h2, h3, h4, h5, h6, h7, h8, h9⟩ := Cond.laysStatic_spec hl
  exact ⟨c, k, i, f, a, cell, h1, h2, h3, h4, h5, h6, h7, h8, h9, hA a (Array.getElem?_eq_some_iff.mp h5).1⟩
theorem vx_isRef {C n d : String} {v : Value} {A : Nat → Prop} {s : State} {args : Array Value} (h : va_Z C n d v A s s.heap) (hv : v.isRef = true) : (Cond.isRef (.static C n d)).before args s = true := by
  obtain ⟨cf, kf, fi, f, a, cell, h1, h2, h3, h4, h5, h6, h7, -⟩ := h
  have he : (Term.static C n d).eval args s none [] s = some v := by
    simp [Term.eval, State.fieldNamed?, h1, h2, h4, h5, h6, h7]
  simp only [Cond.before, Cond.holds, Cond.value, he]
  cases v <;> simp_all [Value.isRef]
theorem vx_isRefq {C n d : String} {A : Nat → Prop} {s : State} {args : Array Value} (h : va_Zq C n d A s s.heap) : (Cond.isRef (.static C n d)).before args s = true := by
  rcases h with h | ⟨t, h⟩
  · exact vx_isRef h rfl
  · exact vx_isRef h rfl
/-- the same frame, seen from here: as if the method were called anew in this heap -/
theorem vx_rebase {T : State} (X : Stand p l e R s m args below meth c T locs cells slots) {R' : Room} (hf : R'.frames ≤ R.frames) (hl : R'.locals ≤ R.locals) (hc : cells + R'.cells ≤ R.cells) (hs : slots + R'.slots ≤ R.slots) :
    Stand p l e R' ((T.setVm s.vm).setFrames (.invoking m args :: below)) m args below meth c T [] 0 0 := by
  have htop : (T.setVm s.vm).topJava?.isSome := X.here.top
  have hF : ((T.setVm s.vm).setFrames (.invoking m args :: below)).frames = .invoking m args :: below := State.frames_setFrames _ (State.cur_lt_of_top htop)
  obtain ⟨g₀, hg0⟩ := Option.isSome_iff_exists.mp htop
  obtain ⟨r, hr⟩ := State.topJava?_eq_some.mp hg0
  have hl9 : e.platform.stackLimits (T.setVm s.vm).me = e.platform.stackLimits s.me := X.limits
  have hb9 : (T.setVm s.vm).me.stackBytes = s.me.stackBytes := X.bytes
  refine ⟨X.admits, X.cas, X.clock, hF, ?_, X.hears, X.method, X.code, X.here, X.tail, X.warmed, ?_, ?_, ?_⟩
  · have h := X.room
    have hU : ((T.setVm s.vm).setFrames (.invoking m args :: below)).localsInUse = s.localsInUse := by
      rw [State.localsInUse_invoking hF (meth := meth) (c := c) X.method X.code, State.localsInUse_invoking X.frames X.method X.code]
    simp only [State.hasRoom, Bool.and_eq_true, decide_eq_true_eq] at h ⊢
    obtain ⟨⟨⟨⟨h1, h2, h3, h4, h5, h6⟩, h7⟩, h8⟩, h9⟩ := h
    rw [X.frames, List.length_cons] at h2 h3
    have q1 := X.heapSize
    have q2 := X.used
    simp only [hF, hU, List.length_cons, State.stackLimits_setFrames, State.stackBytes_setFrames, hl9, hb9]
    refine ⟨⟨⟨⟨by omega, by omega, by omega, by omega, by omega, h6⟩, ?_⟩, ?_⟩, X.book⟩
    · show T.heap.size + R'.cells ≤ e.platform.maxCells
      omega
    · show T.slotsUsed + R'.slots ≤ e.platform.maxSlots
      omega
  · rw [State.stackLimits_setFrames]; rfl
  · rw [State.stackBytes_setFrames]; rfl
  · refine ⟨?_, Nat.le_refl _, Nat.le_refl _, ?_, ?_, fun a c9 h9 => ⟨c9, h9, rfl, rfl, fun _ _ => rfl⟩⟩
    · obtain ⟨t, ht, -⟩ := State.frames_cons hr
      show T.setVm s.vm = { ((T.setVm s.vm).setFrames (.invoking m args :: below)).setFrames (T.setVm s.vm).frames with heap := T.heap, slotsUsed := T.slotsUsed }
      rw [State.setFrames_setFrames, State.setFrames_self ht]
      rfl
    · show T.slotsUsed = T.slotsUsed + ((T.heap.toList.drop T.heap.size).map (·.slots.size)).sum
      rw [List.drop_eq_nil_of_le (Nat.le_of_eq Array.length_toList)]
      rfl
    · show ((T.heap.toList.drop T.heap.size).map (·.slots.size)).sum ≤ 0
      rw [List.drop_eq_nil_of_le (Nat.le_of_eq Array.length_toList)]
      exact Nat.le_refl _
/-- 'throw new E()': new; dup; invokespecial; athrow -/
theorem vx_throw0 {cc : ByteArray} {pc : Nat} (hexec : p.tables.exec = Jvm.exec) (hb : c.code = cc) (hl : l.stackTraces = false) {own cls : String} {names : List String} {ik ic mc ms : Nat} {A : Nat → Prop}
    (hown : s.vm.findClass own = some m.cls) (hcls : Bundle.fit cls = true) (hnames : ∀ n ∈ names, Bundle.fit n = true)
    (hk : (Cond.classLink own ik cls).before args s = true) (hini : (Cond.initialized cls).before args s = true) (hat : ∀ w ∈ vx_at0 own ic cls names, w.before args s = true)
    (hgood : ∀ w ∈ Cond.classLink own ik cls :: Cond.initialized cls :: vx_at0 own ic cls names, vx_ot w = true)
    (hU : vx_Zq Bundle.tN "UNASSIGNED_STACK" Bundle.steD A s s.heap) (hN : vx_Zq Bundle.tN "SUPPRESSED_SENTINEL" Bundle.listD A s s.heap) (hS : va_S A s.heap H locs) (hsize : ls.size = c.maxLocals)
    (d0 : decode cc pc = .ok (.new ik, 3)) (d3 : decode cc (pc + 3) = .ok (.dup, 1)) (d4 : decode cc (pc + 4) = .ok (.invokespecial ic, 3)) (d7 : decode cc (pc + 7) = .ok (.athrow, 1))
    (hout : ∀ x ∈ c.exceptionTable.toList, covers x (pc + 7) = false)
    (hRframes : names.length + 3 < R.frames) (hRlocals : (rest.map fun v => v.category).sum + (13 * (names.length + 1) + 42) ≤ R.locals) (hRcells : cells + 1 ≤ R.cells) (hRslots : slots + 6 ≤ R.slots) (hlocks : meth.locks = false)
    (hx : ∀ t : State, s.vm.Alike t.vm → H.size ≤ t.heap.size → (∀ q : Nat, q < H.size → t.heap[q]? = H[q]?) → XC cls s t)
    (hf : ∀ z ∈ locs, free z.base) (hc : cells + 1 ≤ mc) (hs : slots + 6 ≤ ms) :
    W p l e R s m args below meth c H locs cells slots (vx_MQ below Qc XC args s mc ms free) (F0 m pc ls rest) := by
  intro T hT X
  have htr : e.platform.stackTraces = false := (show e.platform.stackTraces = l.stackTraces by rw [X.admits.platform]).trans hl
  have Y := vx_rebase X (R' := { frames := R.frames, locals := R.locals, cells := 1, slots := 6 }) (Nat.le_refl _) (Nat.le_refl _) hRcells hRslots
  obtain ⟨s', hA⟩ : ∃ z, z = (T.setVm s.vm).setFrames (.invoking m args :: below) := ⟨_, rfl⟩
  rw [← hA] at Y
  have hvm : s'.vm = s.vm := by rw [hA]; rfl
  have hhp : s'.heap = H := by rw [hA]; exact hT
  have hW0 : s.WarmedH s'.vm := by rw [hvm]; exact State.WarmedH.refl s
  have hat' : ∀ w ∈ vx_at0 own ic cls names, w.before args s' = true := fun w hw => vx_ot_at hW0 hvm.symm (hgood w (List.mem_cons_of_mem _ (List.mem_cons_of_mem _ hw))) (hat w hw)
  have hk' : (Cond.classLink own ik cls).before args s' = true := vx_ot_at hW0 hvm.symm (hgood _ List.mem_cons_self) hk
  have hini' : (Cond.initialized cls).before args s' = true := vx_ot_at hW0 hvm.symm (hgood _ (List.mem_cons_of_mem _ List.mem_cons_self)) hini
  have hU' : vx_Zq Bundle.tN "UNASSIGNED_STACK" Bundle.steD A s' s'.heap := by rw [hhp]; exact vx_Zq.moved hW0.alike (hU.kept hS.2.1)
  have hN' : vx_Zq Bundle.tN "SUPPRESSED_SENTINEL" Bundle.listD A s' s'.heap := by rw [hhp]; exact vx_Zq.moved hW0.alike (hN.kept hS.2.1)
  have h : ∀ w ∈ Bundle.ownAtoms0 own ic cls names, w.before args s' = true := vx_own hat' (vx_isRefq hU'.1) (vx_isRefq hN'.1) hU'.2.word hN'.2.word
  have hown' : s'.vm.findClass own = some m.cls := by rw [hvm]; exact hown
  have hins : (Cond.instantiable cls 6).before args s' = true := h _ (by simp [Bundle.ownAtoms0])
  obtain ⟨vm₁, cX, kX, hfX, hkX, -, -, X₁, st1⟩ := Y.newCold hexec (own := own) (C := cls) (index := ik) (n := 6) hown' hk' hins hini'
    (g := F0 m pc ls rest) rfl (by rw [hb]; exact d0) (Nat.le_refl _) (Nat.le_refl _)
  generalize hT1 : (T.setVm vm₁).pushCell { cls := cX, slots := kX.instanceTypes.map defaultValue, vm := .none } = T1 at X₁ st1
  have hcat : (Value.ref T.heap.size).category = 1 := rfl
  have hcellA : T1.heap[T.heap.size]? = some (freshCell cX kX) := by rw [← hT1]; exact State.heap_pushCell_size _ _
  have d3' : decode c.code (pc + 3) = .ok (.dup, 1) := by rw [hb]; exact d3
  obtain ⟨U, hsteps, hrun, hend, hW, hsame, ce, hce, hO⟩ := X₁.ctorThrow0 hexec htr (own := own) (cls := cls) (names := names) (ic := ic) hown' hcls hnames h (fun x hx => nomatch hx) hfX hkX hcellA (by rw [hhp, hT]; exact Nat.le_refl _)
    (g := { method := m, pc := pc + 4, locals := ls, stack := .ref T.heap.size :: .ref T.heap.size :: rest, locked := none }) rfl hsize rfl rfl (rest := rest) rfl
    (by rw [hb]; exact d4) (by rw [hb]; exact d7) hout hRframes (by simp only [List.map_cons, List.sum_cons, hcat]; omega) hlocks
  obtain ⟨f1, f2⟩ := vx_frame hsame
  rw [hhp] at f1 f2
  have hWs : s.WarmedH U.vm := State.WarmedH.trans hW0 hW
  have hcl : s.vm.findClass cls = some ce.cls := by
    have h9 := hO.cls
    rw [hvm] at h9
    exact h9
  have hall : s.sameButNew ({ U with vm := s.vm } : State) locs mc ms := by
    subst hA
    obtain ⟨e1, e2⟩ := hsame
    rw [State.setFrames_setFrames] at e1
    have h2 : (T.setVm s.vm).sameButNew ({ U with vm := s.vm } : State) [] (0 + 1) (0 + 6) := ⟨e1, e2⟩
    have h3 := X.same.trans h2
    rw [List.append_nil] at h3
    exact h3.mono hc hs
  refine ⟨U, ?_, .threw T.heap.size, hrun, hend, Or.inr ⟨T.heap.size, rfl, cls, ce, locs, hx U hWs.alike f1 (fun q hq => f2 q hq (fun z hz => nomatch hz)), hce, hO.vm, hcl, hWs, hall, hf⟩⟩
  refine st1 _ ?_
  show Steps p.tables e below (T1.setTop { method := m, pc := pc + 3, locals := ls, stack := .ref T.heap.size :: rest, locked := none }) _
  jvm_step X₁.here [X₁.here.top, hexec, d3', Value.category]
  exact hsteps
/-- 'throw new E("text")': new; dup; ldc; invokespecial; athrow -/
theorem vx_throwS {cc : ByteArray} {pc : Nat} (hexec : p.tables.exec = Jvm.exec) (hb : c.code = cc) (hl : l.stackTraces = false) {own cls text : String} {names : List String} {ik is ic mc ms sa : Nat} {A : Nat → Prop}
    (hown : s.vm.findClass own = some m.cls) (hcls : Bundle.fit cls = true) (hnames : ∀ n ∈ names, Bundle.fit n = true)
    (hk : (Cond.classLink own ik cls).before args s = true) (hini : (Cond.initialized cls).before args s = true) (hstr : vk_R own is text sa s) (hat : ∀ w ∈ vx_atS own ic cls names, w.before args s = true)
    (hgood : ∀ w ∈ Cond.classLink own ik cls :: Cond.initialized cls :: vx_atS own ic cls names, vx_ot w = true)
    (hU : vx_Zq Bundle.tN "UNASSIGNED_STACK" Bundle.steD A s s.heap) (hN : vx_Zq Bundle.tN "SUPPRESSED_SENTINEL" Bundle.listD A s s.heap) (hS : va_S A s.heap H locs) (hsize : ls.size = c.maxLocals)
    (d0 : decode cc pc = .ok (.new ik, 3)) (d3 : decode cc (pc + 3) = .ok (.dup, 1)) (d4 : decode cc (pc + 4) = .ok (.ldc is, 2)) (d6 : decode cc (pc + 6) = .ok (.invokespecial ic, 3)) (d9 : decode cc (pc + 9) = .ok (.athrow, 1))
    (hout : ∀ x ∈ c.exceptionTable.toList, covers x (pc + 9) = false)
    (hRframes : names.length + 3 < R.frames) (hRlocals : (rest.map fun v => v.category).sum + (13 * (names.length + 1) + 43) ≤ R.locals) (hRcells : cells + 1 ≤ R.cells) (hRslots : slots + 6 ≤ R.slots) (hlocks : meth.locks = false)
    (hx : ∀ t : State, s.vm.Alike t.vm → H.size ≤ t.heap.size → (∀ q : Nat, q < H.size → t.heap[q]? = H[q]?) → XC cls s t)
    (hf : ∀ z ∈ locs, free z.base) (hc : cells + 1 ≤ mc) (hs : slots + 6 ≤ ms) :
    W p l e R s m args below meth c H locs cells slots (vx_MQ below Qc XC args s mc ms free) (F0 m pc ls rest) := by
  intro T hT X
  have htr : e.platform.stackTraces = false := (show e.platform.stackTraces = l.stackTraces by rw [X.admits.platform]).trans hl
  have Y := vx_rebase X (R' := { frames := R.frames, locals := R.locals, cells := 1, slots := 6 }) (Nat.le_refl _) (Nat.le_refl _) hRcells hRslots
  obtain ⟨s', hA⟩ : ∃ z, z = (T.setVm s.vm).setFrames (.invoking m args :: below) := ⟨_, rfl⟩
  rw [← hA] at Y
  have hvm : s'.vm = s.vm := by rw [hA]; rfl
  have hhp : s'.heap = H := by rw [hA]; exact hT
  have hW0 : s.WarmedH s'.vm := by rw [hvm]; exact State.WarmedH.refl s
  have hat' : ∀ w ∈ vx_atS own ic cls names, w.before args s' = true := fun w hw => vx_ot_at hW0 hvm.symm (hgood w (List.mem_cons_of_mem _ (List.mem_cons_of_mem _ hw))) (hat w hw)
  have hk' : (Cond.classLink own ik cls).before args s' = true := vx_ot_at hW0 hvm.symm (hgood _ List.mem_cons_self) hk
  have hini' : (Cond.initialized cls).before args s' = true := vx_ot_at hW0 hvm.symm (hgood _ (List.mem_cons_of_mem _ List.mem_cons_self)) hini
  have hU' : vx_Zq Bundle.tN "UNASSIGNED_STACK" Bundle.steD A s' s'.heap := by rw [hhp]; exact vx_Zq.moved hW0.alike (hU.kept hS.2.1)
  have hN' : vx_Zq Bundle.tN "SUPPRESSED_SENTINEL" Bundle.listD A s' s'.heap := by rw [hhp]; exact vx_Zq.moved hW0.alike (hN.kept hS.2.1)
  have h : ∀ w ∈ Bundle.ownAtoms own ic cls names, w.before args s' = true := vx_own hat' (vx_isRefq hU'.1) (vx_isRefq hN'.1) hU'.2.word hN'.2.word
  have hown' : s'.vm.findClass own = some m.cls := by rw [hvm]; exact hown
  have hins : (Cond.instantiable cls 6).before args s' = true := h _ (by simp [Bundle.ownAtoms])
  obtain ⟨vm₁, cX, kX, hfX, hkX, -, -, X₁, st1⟩ := Y.newCold hexec (own := own) (C := cls) (index := ik) (n := 6) hown' hk' hins hini'
    (g := F0 m pc ls rest) rfl (by rw [hb]; exact d0) (Nat.le_refl _) (Nat.le_refl _)
  generalize hT1 : (T.setVm vm₁).pushCell { cls := cX, slots := kX.instanceTypes.map defaultValue, vm := .none } = T1 at X₁ st1
  have hcat : (Value.ref T.heap.size).category = 1 := rfl
  have hcellA : T1.heap[T.heap.size]? = some (freshCell cX kX) := by rw [← hT1]; exact State.heap_pushCell_size _ _
  have d3' : decode c.code (pc + 3) = .ok (.dup, 1) := by rw [hb]; exact d3
  have d4' : decode c.code (pc + 4) = .ok (.ldc is, 2) := by rw [hb]; exact d4
  have hstr' : vk_R own is text sa s' := vk_R.warm hW0 hstr
  obtain ⟨U, hsteps, hrun, hend, hW, hsame, ce, hce, hO⟩ := X₁.ctorThrowS hexec htr (own := own) (cls := cls) (names := names) (ic := ic) hown' hcls hnames h (fun x hx => nomatch hx) hfX hkX hcellA (by rw [hhp, hT]; exact Nat.le_refl _) (msg := .ref sa) rfl
    (g := { method := m, pc := pc + 6, locals := ls, stack := .ref sa :: .ref T.heap.size :: .ref T.heap.size :: rest, locked := none }) rfl hsize rfl rfl (rest := rest) rfl
    (by rw [hb]; exact d6) (by rw [hb]; exact d9) hout hRframes (by simp only [List.map_cons, List.sum_cons, hcat]; omega) hlocks
  obtain ⟨f1, f2⟩ := vx_frame hsame
  rw [hhp] at f1 f2
  have hWs : s.WarmedH U.vm := State.WarmedH.trans hW0 hW
  have hcl : s.vm.findClass cls = some ce.cls := by
    have h9 := hO.cls
    rw [hvm] at h9
    exact h9
  have hall : s.sameButNew ({ U with vm := s.vm } : State) locs mc ms := by
    subst hA
    obtain ⟨e1, e2⟩ := hsame
    rw [State.setFrames_setFrames] at e1
    have h2 : (T.setVm s.vm).sameButNew ({ U with vm := s.vm } : State) [] (0 + 1) (0 + 6) := ⟨e1, e2⟩
    have h3 := X.same.trans h2
    rw [List.append_nil] at h3
    exact h3.mono hc hs
  refine ⟨U, ?_, .threw T.heap.size, hrun, hend, Or.inr ⟨T.heap.size, rfl, cls, ce, locs, hx U hWs.alike f1 (fun q hq => f2 q hq (fun z hz => nomatch hz)), hce, hO.vm, hcl, hWs, hall, hf⟩⟩
  refine st1 _ ?_
  show Steps p.tables e below (T1.setTop { method := m, pc := pc + 3, locals := ls, stack := .ref T.heap.size :: rest, locked := none }) _
  jvm_step X₁.here [X₁.here.top, hexec, d3', Value.category]
  exact X₁.ldcString hexec (own := own) (text := text) (index := is) (a := sa) hown' hstr'.1 hstr'.2
    (g := { method := m, pc := pc + 4, locals := ls, stack := .ref T.heap.size :: .ref T.heap.size :: rest, locked := none }) rfl d4' _ hsteps
/-- 'throw new E("text")', the text by a wide index -/
theorem vx_throwSW {cc : ByteArray} {pc : Nat} (hexec : p.tables.exec = Jvm.exec) (hb : c.code = cc) (hl : l.stackTraces = false) {own cls text : String} {names : List String} {ik is ic mc ms sa : Nat} {A : Nat → Prop}
    (hown : s.vm.findClass own = some m.cls) (hcls : Bundle.fit cls = true) (hnames : ∀ n ∈ names, Bundle.fit n = true)
    (hk : (Cond.classLink own ik cls).before args s = true) (hini : (Cond.initialized cls).before args s = true) (hstr : vk_R own is text sa s) (hat : ∀ w ∈ vx_atS own ic cls names, w.before args s = true)
    (hgood : ∀ w ∈ Cond.classLink own ik cls :: Cond.initialized cls :: vx_atS own ic cls names, vx_ot w = true)
    (hU : vx_Zq Bundle.tN "UNASSIGNED_STACK" Bundle.steD A s s.heap) (hN : vx_Zq Bundle.tN "SUPPRESSED_SENTINEL" Bundle.listD A s s.heap) (hS : va_S A s.heap H locs) (hsize : ls.size = c.maxLocals)
    (d0 : decode cc pc = .ok (.new ik, 3)) (d3 : decode cc (pc + 3) = .ok (.dup, 1)) (d4 : decode cc (pc + 4) = .ok (.ldc_w is, 3)) (d7 : decode cc (pc + 7) = .ok (.invokespecial ic, 3)) (d10 : decode cc (pc + 10) = .ok (.athrow, 1))
    (hout : ∀ x ∈ c.exceptionTable.toList, covers x (pc + 10) = false)
    (hRframes : names.length + 3 < R.frames) (hRlocals : (rest.map fun v => v.category).sum + (13 * (names.length + 1) + 43) ≤ R.locals) (hRcells : cells + 1 ≤ R.cells) (hRslots : slots + 6 ≤ R.slots) (hlocks : meth.locks = false)
    (hx : ∀ t : State, s.vm.Alike t.vm → H.size ≤ t.heap.size → (∀ q : Nat, q < H.size → t.heap[q]? = H[q]?) → XC cls s t)
    (hf : ∀ z ∈ locs, free z.base) (hc : cells + 1 ≤ mc) (hs : slots + 6 ≤ ms) :
    W p l e R s m args below meth c H locs cells slots (vx_MQ below Qc XC args s mc ms free) (F0 m pc ls rest) := by
  intro T hT X
  have htr : e.platform.stackTraces = false := (show e.platform.stackTraces = l.stackTraces by rw [X.admits.platform]).trans hl
  have Y := vx_rebase X (R' := { frames := R.frames, locals := R.locals, cells := 1, slots := 6 }) (Nat.le_refl _) (Nat.le_refl _) hRcells hRslots
  obtain ⟨s', hA⟩ : ∃ z, z = (T.setVm s.vm).setFrames (.invoking m args :: below) := ⟨_, rfl⟩
  rw [← hA] at Y
  have hvm : s'.vm = s.vm := by rw [hA]; rfl
  have hhp : s'.heap = H := by rw [hA]; exact hT
  have hW0 : s.WarmedH s'.vm := by rw [hvm]; exact State.WarmedH.refl s
  have hat' : ∀ w ∈ vx_atS own ic cls names, w.before args s' = true := fun w hw => vx_ot_at hW0 hvm.symm (hgood w (List.mem_cons_of_mem _ (List.mem_cons_of_mem _ hw))) (hat w hw)
  have hk' : (Cond.classLink own ik cls).before args s' = true := vx_ot_at hW0 hvm.symm (hgood _ List.mem_cons_self) hk
  have hini' : (Cond.initialized cls).before args s' = true := vx_ot_at hW0 hvm.symm (hgood _ (List.mem_cons_of_mem _ List.mem_cons_self)) hini
  have hU' : vx_Zq Bundle.tN "UNASSIGNED_STACK" Bundle.steD A s' s'.heap := by rw [hhp]; exact vx_Zq.moved hW0.alike (hU.kept hS.2.1)
  have hN' : vx_Zq Bundle.tN "SUPPRESSED_SENTINEL" Bundle.listD A s' s'.heap := by rw [hhp]; exact vx_Zq.moved hW0.alike (hN.kept hS.2.1)
  have h : ∀ w ∈ Bundle.ownAtoms own ic cls names, w.before args s' = true := vx_own hat' (vx_isRefq hU'.1) (vx_isRefq hN'.1) hU'.2.word hN'.2.word
  have hown' : s'.vm.findClass own = some m.cls := by rw [hvm]; exact hown
  have hins : (Cond.instantiable cls 6).before args s' = true := h _ (by simp [Bundle.ownAtoms])
  obtain ⟨vm₁, cX, kX, hfX, hkX, -, -, X₁, st1⟩ := Y.newCold hexec (own := own) (C := cls) (index := ik) (n := 6) hown' hk' hins hini'
    (g := F0 m pc ls rest) rfl (by rw [hb]; exact d0) (Nat.le_refl _) (Nat.le_refl _)
  generalize hT1 : (T.setVm vm₁).pushCell { cls := cX, slots := kX.instanceTypes.map defaultValue, vm := .none } = T1 at X₁ st1
  have hcat : (Value.ref T.heap.size).category = 1 := rfl
  have hcellA : T1.heap[T.heap.size]? = some (freshCell cX kX) := by rw [← hT1]; exact State.heap_pushCell_size _ _
  have d3' : decode c.code (pc + 3) = .ok (.dup, 1) := by rw [hb]; exact d3
  have d4' : decode c.code (pc + 4) = .ok (.ldc_w is, 3) := by rw [hb]; exact d4
  have hstr' : vk_R own is text sa s' := vk_R.warm hW0 hstr
  obtain ⟨U, hsteps, hrun, hend, hW, hsame, ce, hce, hO⟩ := X₁.ctorThrowS hexec htr (own := own) (cls := cls) (names := names) (ic := ic) hown' hcls hnames h (fun x hx => nomatch hx) hfX hkX hcellA (by rw [hhp, hT]; exact Nat.le_refl _) (msg := .ref sa) rfl
    (g := { method := m, pc := pc + 7, locals := ls, stack := .ref sa :: .ref T.heap.size :: .ref T.heap.size :: rest, locked := none }) rfl hsize rfl rfl (rest := rest) rfl
    (by rw [hb]; exact d7) (by rw [hb]; exact d10) hout hRframes (by simp only [List.map_cons, List.sum_cons, hcat]; omega) hlocks
  obtain ⟨f1, f2⟩ := vx_frame hsame
  rw [hhp] at f1 f2
  have hWs : s.WarmedH U.vm := State.WarmedH.trans hW0 hW
  have hcl : s.vm.findClass cls = some ce.cls := by
    have h9 := hO.cls
    rw [hvm] at h9
    exact h9
  have hall : s.sameButNew ({ U with vm := s.vm } : State) locs mc ms := by
    subst hA
    obtain ⟨e1, e2⟩ := hsame
    rw [State.setFrames_setFrames] at e1
    have h2 : (T.setVm s.vm).sameButNew ({ U with vm := s.vm } : State) [] (0 + 1) (0 + 6) := ⟨e1, e2⟩
    have h3 := X.same.trans h2
    rw [List.append_nil] at h3
    exact h3.mono hc hs
  refine ⟨U, ?_, .threw T.heap.size, hrun, hend, Or.inr ⟨T.heap.size, rfl, cls, ce, locs, hx U hWs.alike f1 (fun q hq => f2 q hq (fun z hz => nomatch hz)), hce, hO.vm, hcl, hWs, hall, hf⟩⟩
  refine st1 _ ?_
  show Steps p.tables e below (T1.setTop { method := m, pc := pc + 3, locals := ls, stack := .ref T.heap.size :: rest, locked := none }) _
  jvm_step X₁.here [X₁.here.top, hexec, d3', Value.category]
  exact X₁.ldcStringW hexec (own := own) (text := text) (index := is) (a := sa) hown' hstr'.1 hstr'.2
    (g := { method := m, pc := pc + 4, locals := ls, stack := .ref T.heap.size :: .ref T.heap.size :: rest, locked := none }) rfl d4' _ hsteps
end Ends
section Bodies
variable {l : Launch}
theorem vx_ofW {y : MethodName} {ws ws' : List Cond} {rm : Room} {Pc : Array Value → State → Prop} {Qc : Array Value → State → Outcome → State → Prop} {XC : String → State → State → Prop} {mc ms : Nat} {free : Addr → Prop} {cc : ByteArray} {maxL : Nat} {ret : Option FieldType}
    (hy : plainName y.cls = true) (hw : ws = Cond.code y cc maxL ret :: ws')
    (body : ∀ p e s m args below meth c s₁, BodyLoose p l y (headSpec ws rm) cc maxL ret e s m args below meth c s₁ → c.maxLocals = maxL → (∀ x ∈ c.exceptionTable.toList, False) → Pc args s →
      W p l e (headSpec ws rm).room s m args below meth c s.heap [] 0 0 (vx_MQ below Qc XC args s mc ms free) (entryFrame m args maxL)) : vx_Met l y ws rm Pc Qc XC mc ms free := by
  refine MetFree.of_bodyS (code := cc) (maxLocals := maxL) (ret := ret) hy ?_ ?_
  · intro args s m h hn
    obtain ⟨meth, c, h1, h2, h3, h4, h5, h6, -, -⟩ := Cond.code_spec hn (atoms_spec (ws := ws) h _ (by rw [hw]; exact List.mem_cons_self))
    exact ⟨meth, c, h1, h2, h3, h4, h5, h6⟩
  · intro p e s m args below meth c s₁ B hml hP _
    have hh0 : s₁.heap = s.heap := by rw [B.state]; rfl
    have ht : ∀ x ∈ c.exceptionTable.toList, False := by
      obtain ⟨meth9, c9, h1, h2, -, -, -, -, h7, -⟩ := Cond.code_spec B.named (atoms_spec (ws := ws) B.pre _ (by rw [hw]; exact List.mem_cons_self))
      cases Option.some.inj (h1.symm.trans B.method)
      cases Option.some.inj (h2.symm.trans (Stand.of_body B).code)
      intro x hx
      rw [Array.isEmpty_iff.mp h7] at hx
      cases hx
    obtain ⟨t, a1, o, b1, b2, b3⟩ := body p e s m args below meth c s₁ B hml ht hP s₁ hh0 (Stand.of_body B)
    exact ⟨t, o, a1, b1, b2, b3⟩
/-- the table of a body with handlers -/
theorem vx_table {p : Program} {x y : MethodName} {S : Spec} {cc bytes : ByteArray} {maxL maxL' : Nat} {ret ret' : Option FieldType} {e : Env} {s s₁ : State} {m : MethodId} {args : Array Value} {below : List Frame} {meth : Method} {c : Code} {hh : List (Nat × Nat × Nat × Nat)}
    (B : BodyLoose p l y S cc maxL ret e s m args below meth c s₁) (h : (Cond.codeWith y bytes maxL' ret' hh).before args s = true) : c.exceptionTable.toList = tableOf hh := by
  obtain ⟨m9, meth9, c9, hn9, h1, h2, -, -, h6, -⟩ := Cond.codeWith_spec h
  cases Option.some.inj (hn9.symm.trans B.named)
  cases Option.some.inj (h1.symm.trans B.method)
  cases Option.some.inj (h2.symm.trans (Stand.of_body B).code)
  rw [← h6, table_eq]
end Bodies
end VXA
/-! ===== END ===== -/
/-! ===== BEGIN a static call of a method with an exception table ===== -/
section VXS
variable {p : Program} {l : Launch} {e : Env} {R : Room} {s : State} {m : MethodId} {args : Array Value} {below : List Frame} {meth : Method} {c : Code} {T : State} {H : Heap} {locs : List Loc} {cells slots : Nat}
abbrev vx_CSW (R : Room) (s : State) (args : Array Value) (own : String) (index : Nat) (y : MethodName) (bytes : ByteArray) (maxL : Nat) (ret : Option FieldType) (hh : List (Nat × Nat × Nat × Nat)) (ws : List Cond) (rm : Room) (mc ms n : Nat) : Prop :=
  (rm.cells = mc ∧ rm.slots = ms ∧ rm.frames + 1 ≤ R.frames ∧ 8 + (maxL + 11) + rm.locals ≤ R.locals ∧ (∀ w ∈ ws, ∀ (a' : Array Value) (U : State), s.WarmedH U.vm → w.before a' U = true) ∧ Cond.codeWith y bytes maxL ret hh ∈ ws) ∧
  (Cond.codeWith y bytes maxL ret hh).before args s = true ∧ (Cond.initialized y.cls).before args s = true ∧ (y.cls ≠ "java/lang/invoke/MethodHandle" ∧ y.cls ≠ "java/lang/invoke/VarHandle") ∧
  (∀ sig, parseMethodDescriptor y.desc = some sig → n = sig.parameters.length) ∧ (Cond.methodLink own index y).before args s = true ∧ (Cond.static y).before args s = true
theorem vx_cwSW {own : String} {index maxL mc ms : Nat} {y : MethodName} {bytes : ByteArray} {ret : Option FieldType} {hh : List (Nat × Nat × Nat × Nat)} {Ts ws ws' : List Cond} {rm : Room} (n : Nat) (ht : ∀ w ∈ Ts, w.before args s = true) (hT : GoodIn Ts (va_wsS own index y ws)) (hw : ws = Cond.codeWith y bytes maxL ret hh :: ws') (hrc : rm.cells = mc) (hrs : rm.slots = ms)
    (hd : y.cls ≠ "java/lang/invoke/MethodHandle" ∧ y.cls ≠ "java/lang/invoke/VarHandle" ∧ (parseMethodDescriptor y.desc).map (fun d => d.parameters.length) = some n) (hR : rm.frames + 1 ≤ R.frames ∧ 8 + (maxL + 11) + rm.locals ≤ R.locals) :
    vx_CSW R s args own index y bytes maxL ret hh ws rm mc ms n := by
  have ok : ∀ w ∈ va_wsS own index y ws, w.before args s = true := fun w h => ht w (hT w h).1
  have hG : GoodIn Ts ws := fun w h => hT w (by unfold va_wsS; exact List.mem_append_right _ h)
  have hc : Cond.codeWith y bytes maxL ret hh ∈ ws := by rw [hw]; exact List.mem_cons_self
  refine ⟨⟨hrc, hrs, hR.1, hR.2, pay_in ht hG, hc⟩, ht _ (hG _ hc).1, ok _ (by simp [va_wsS]), ⟨hd.1, hd.2.1⟩, fun sig h => ?_, ok _ (by simp [va_wsS]), ok _ (by simp [va_wsS])⟩
  have h2 := hd.2.2
  rw [h] at h2
  exact (Option.some.inj h2).symm
theorem vx_callSW (X : Stand p l e R s m args below meth c T locs cells slots) (hexec : p.tables.exec = Jvm.exec) {own : String} {index : Nat} {y : MethodName} {bytes : ByteArray} {maxL : Nat} {ret : Option FieldType} {hh : List (Nat × Nat × Nat × Nat)}
    (hown : s.vm.findClass own = some m.cls) (hlink : (Cond.methodLink own index y).before args s = true) (hstat : (Cond.static y).before args s = true) (hinit : (Cond.initialized y.cls).before args s = true)
    (hcode : (Cond.codeWith y bytes maxL ret hh).before args s = true) (hy : y.cls ≠ "java/lang/invoke/MethodHandle" ∧ y.cls ≠ "java/lang/invoke/VarHandle")
    {W9 : Nat} {Pre : Pt → Array Value → Prop} {Post : Pt → Array Value → Option Value → Pt → Prop} (hK : Back l R p e below s args y 3 W9 Pre Post)
    {g : JFrame} (hg : g.method = m) (hsize : g.locals.size = c.maxLocals) {argsL rest : List Value} (hlen : ∀ sig, parseMethodDescriptor y.desc = some sig → argsL.length = sig.parameters.length)
    (hstack : g.stack = argsL.reverse ++ rest) (hW : 2 * g.monitorRoom + (rest.map fun v => v.category).sum ≤ W9) (hdg : decode c.code g.pc = .ok (.invokestatic index, 3))
    (hpre : ∀ vm₁, s.WarmedH vm₁ → Pre ⟨T.setVm vm₁, locs, cells, slots⟩ argsL.toArray) :
    ∃ (v : Option Value) (vm₁ : Vm) (B : Pt), s.WarmedH vm₁ ∧ Stand p l e R s m args below meth c B.U B.locs B.cells B.slots ∧ Post ⟨T.setVm vm₁, locs, cells, slots⟩ argsL.toArray v B ∧
      ∀ target, Steps p.tables e below (B.U.setTop { g with pc := g.pc + 3, stack := v.toList ++ rest }) target → Steps p.tables e below (T.setTop g) target := by
  obtain ⟨mk, methM, cM, hnamed, hmethM, -, -, -, -, -, -, hsigM⟩ := Cond.codeWith_spec hcode
  have hstatic : methM.isStatic = true := Cond.static_spec hnamed hmethM hstat
  obtain ⟨kP, hkP, -⟩ := className_of_methodNamed hnamed
  have hinitP : kP.init = .initialized := Cond.initialized_spec (findClass_of_methodNamed hnamed) hkP hinit
  obtain ⟨vm₁, X₁, hstep₁⟩ := X.invokestatic hexec hown hlink hnamed hmethM hstatic hkP hinitP hy (g := g) hg (argsL := argsL) (rest := rest) (hlen _ hsigM) hstack hdg
  obtain ⟨v, B, X', hpost, hsteps⟩ := hK m meth c ⟨T.setVm vm₁, locs, cells, slots⟩ { g with stack := rest } (.invokestatic index) mk argsL.toArray X₁ hg hsize hdg hW (X₁.named hnamed) (hpre vm₁ X₁.warmed)
  exact ⟨v, vm₁, B, X₁.warmed, X', hpost, fun target h => hstep₁ _ fun acts => by rw [doInvoke_state]; exact hsteps.trans h⟩
theorem vx_runSW {y : MethodName} {bytes cc : ByteArray} {maxL nL mc ms n index : Nat} {ret : Option FieldType} {hh : List (Nat × Nat × Nat × Nat)} {ws : List Cond} {rm : Room} {Pc : Array Value → State → Prop} {Qc : Array Value → State → Outcome → State → Prop} {free : Addr → Prop} {Ts : List Cond} {own : String} {As rest : List Value} {g : JFrame}
    (S : CallFix p m c cc nL s args Ts own) (hM : Met l y ws rm Pc Qc mc ms free) (cw : vx_CSW R s args own index y bytes maxL ret hh ws rm mc ms n) (hp : PreS s H Pc As)
    (hg : g.method = m) (hn : As.length = n) (hsize : g.locals.size = nL) (hstack : g.stack = As.reverse ++ rest) (hW : 2 * g.monitorRoom + (rest.map fun v => v.category).sum ≤ 8) (hdg : decode cc g.pc = .ok (.invokestatic index, 3)) (hf : cells + mc ≤ R.cells ∧ slots + ms ≤ R.slots) :
    va_Run p l e R s m args below meth c H locs cells slots mc ms g rest (Qc As.toArray) (free) := by
  obtain ⟨⟨hrc, hrs, hfr, hlo, hws, hcw⟩, hcode, hini, hy, hlen, hl, hstt⟩ := cw
  have hK : Back l R p e below s args y 3 8 (PreOf R mc ms Pc) (PostOf Qc mc ms free) := va_backW (hh := hh) (bytes := bytes) (maxL := maxL) (ret := ret) hM hp.1 hrc hrs hfr hlo hws hcw (fun a' U hW => word_at hW (Or.inl (by first | rfl | simp [Cond.onTables, Cond.keeps, Cond.steady])) hini)
  obtain ⟨hx, hb, hml, ho, -⟩ := S
  intro T hT X
  obtain ⟨v, vm₁, ⟨U', l2, c2, s2⟩, hW₁, X', ⟨g', mk, t, L, e1, e2, hq, h1, hL, h2, h3⟩, st⟩ := vx_callSW X hx (hh := hh) (bytes := bytes) (maxL := maxL) (ret := ret) ho hl hstt hini hcode hy hK hg (hsize.trans hml.symm) (argsL := As) (rest := rest) (fun sig h => hn.trans (hlen sig h)) hstack hW (by rw [hb]; exact hdg)
    (fun vm₁ hW₁ => ⟨hf.1, hf.2, hp.2 (T.setVm vm₁) hT hW₁⟩)
  dsimp only [Pt.U, Pt.locs, Pt.cells, Pt.slots] at X' e1 e2 h1 h2 h3 st
  subst h1; subst h2; subst h3
  exact ⟨v, (T.setVm vm₁).calling g' mk As.toArray, t, U', L, hT, X', hL, e1, e2, hq, st⟩
/-- not caught here, past rows that name other classes: it goes on to the caller -/
theorem vx_outP {p : Program} {l : Launch} {e : Env} {R : Room} {s : State} {m : MethodId} {args : Array Value} {below : List Frame} {meth : Method} {c : Code} {H : Heap} {locs : List Loc} {cells slots : Nat} {free : Addr → Prop} {ls : Array Slot} {rest : List Value} {Qc : Array Value → State → Outcome → State → Prop} {XC : String → State → State → Prop}
    {pc : Nat} {own E : String} {ce : Cell} {q : Addr} {mc ms : Nat} (hown : s.vm.findClass own = some m.cls) (hlocks : meth.locks = false)
    (hpass : ∀ z ∈ c.exceptionTable.toList, covers z pc = false ∨ (z.catchType ≠ 0 ∧ ∃ nm : String, (Cond.classLink own z.catchType nm).before args s = true ∧ va_Nc E nm s)) (hcell : H[q]? = some ce) (hv : ce.vm = .none) (hcl : s.vm.findClass E = some ce.cls)
    (hx : ∀ t : State, t.heap = H → s.vm.Alike t.vm → XC E s t) (hf : ∀ z ∈ locs, free z.base) (hc : cells ≤ mc) (hs : slots ≤ ms) :
    vx_W p l e R s m args below meth c H locs cells slots (vx_MQ below Qc XC args s mc ms free) (F0 m pc ls rest) q := by
  intro T hT X
  have hpl : e.platform.magicAccessors = ({} : Platform).magicAccessors := by rw [X.admits.platform]
  obtain ⟨vm', hW', X', st⟩ := X.outThrough hlocks q (g := F0 m pc ls rest) rfl rfl rfl (cell := ce) (by rw [hT]; exact hcell) (by rw [hv]; rfl)
    (by obtain ⟨k9, h9, -⟩ := Vm.findClass_spec hcl; exact ⟨k9, h9⟩) (fun z hz => by
      rcases hpass z hz with h | ⟨hz0, nm, hl1, hn1⟩
      · exact Or.inl h
      · obtain ⟨c6, hc6, hcl6⟩ := Cond.classLink_spec hown hl1 e.platform hpl
        obtain ⟨a8, b8, h1, h2, h3⟩ := hn1
        cases Option.some.inj (h1.symm.trans hcl)
        cases Option.some.inj (h2.symm.trans hc6)
        exact Or.inr ⟨hz0, _, hcl6, h3⟩)
  obtain ⟨g₀, hfr⟩ := X'.frames_eq
  have hcell9 : ((T.setVm vm').setFrames (.throwing q :: below)).heap[q]? = some ce := by
    show T.heap[q]? = some ce
    rw [hT]; exact hcell
  have hend : Ended ((T.setVm vm').setFrames (.throwing q :: below)) below (.threw q) := State.frames_setFrames _ (State.cur_lt_of_frames hfr)
  refine ⟨(T.setVm vm').setFrames (.throwing q :: below), ?_, .threw q, X'.here.running, hend, Or.inr ⟨q, rfl, E, ce, locs, hx _ hT (X'.ends _).1.alike, hcell9, hv, hcl, (X'.ends _).1, (X'.ends _).2.mono hc hs, hf⟩⟩
  rw [X.pushThrowing_eq]
  exact st
/-- a thing of a world lies in the heap -/
theorem vx_lt {D : va_G} {cl : List vw_C} {ws : va_W} {H1 : Heap} (h : va_P D cl ws H1) {k : Nat} {q : Nat × va_E} (hk : ws[k]? = some q) : q.1 < H1.size := (h k q hk).lt
end VXS
/-! ===== END ===== -/
/-! ===== BEGIN methods with a table of their own: called by a name, returning or throwing ===== -/
section VXH
/-! vx_backW, vx_callVX, vx_callSX, vx_callVW, vx_runVW, vx_runVX, vx_runSX, vx_ofWH follow the same proofs as their sisters above (Free/Laws.lean, Shelf42/LK1.lean); vx_outP calls Shelf42/NT130.lean (outThrough). -/
section
variable {l : Launch} {R : Room} {p : Program} {e : Env} {below : List Frame} {s : State} {sargs : Array Value} {y : MethodName} {len W9 : Nat}
theorem vx_backW {ws : List Cond} {rm : Room} {Pc : Array Value → State → Prop} {Qc : Array Value → State → Outcome → State → Prop} {XC : String → State → State → Prop} {mc ms : Nat} {free : Addr → Prop} {bytes : ByteArray} {maxL : Nat} {ret : Option FieldType} {hh : List (Nat × Nat × Nat × Nat)}
    (hM : vx_Met l y ws rm Pc Qc XC mc ms free) (hblind : FrameBlind Pc) (hrc : rm.cells = mc) (hrs : rm.slots = ms)
    (hframes : rm.frames + 1 ≤ R.frames) (hlocals : W9 + (maxL + 11) + rm.locals ≤ R.locals)
    (hws : ∀ w ∈ ws, ∀ a' U, s.WarmedH U.vm → w.before a' U = true) (hcode : Cond.codeWith y bytes maxL ret hh ∈ ws) (hinit : ∀ a' U, s.WarmedH U.vm → (Cond.initialized y.cls).before a' U = true) :
    vx_Back l R p e below s sargs y len W9 (PreOf R mc ms Pc) (PostOf Qc mc ms free) (vx_Post XC mc ms free) := by
  intro m meth c A g ig mk a X hg hsize hdg hW hn hp
  have h1 : (headSpec ws rm).pre.before a A.U = true := atoms_intro fun w hw => hws w hw _ _ X.warmed
  have h2 : (Cond.codeWith y bytes maxL ret hh).before a A.U = true := hws _ hcode _ _ X.warmed
  have h3 : (Cond.initialized y.cls).before a A.U = true := hinit _ _ X.warmed
  have h4 : A.cells + (headSpec ws rm).room.cells ≤ R.cells := by rw [show (headSpec ws rm).room.cells = mc from hrc]; exact hp.1
  have h5 : A.slots + (headSpec ws rm).room.slots ≤ R.slots := by rw [show (headSpec ws rm).room.slots = ms from hrs]; exact hp.2.1
  have hPc : Pc a (A.U.calling g mk a) := hblind _ _ _ _ hp.2.2
  obtain ⟨U, Ls, c0, s0⟩ := A
  dsimp only [Pt.U, Pt.locs, Pt.cells, Pt.slots] at h1 h2 h3 h4 h5 X hn hPc ⊢
  obtain ⟨m9, methY, cY, hn9, hmY, hcY, -, hlY, -⟩ := Cond.codeWith_spec h2
  cases Option.some.inj (hn9.symm.trans hn)
  obtain ⟨kY, hkY, -⟩ := className_of_methodNamed hn
  have hinitY : kY.init = .initialized := Cond.initialized_spec (findClass_of_methodNamed hn) hkY h3
  have h : At U g.method c below := by rw [hg]; exact X.here
  have hlocals9 : W9 + (maxL + 11) + (headSpec ws rm).room.locals ≤ R.locals := hlocals
  have happ : (headSpec ws rm).appliesLoose y e.platform (U.calling g mk a) = true :=
    Spec.appliesLoose_calling (g := g) h hdg hn hkY hinitY
      (X.room_calling (g := g) (R' := (headSpec ws rm).room) hsize hmY hcY hframes (by rw [hlY]; omega) h4 h5) h1
  obtain ⟨mid, hmid⟩ := h.above
  have hfr : (U.setTop g).frames = (.java g :: mid) ++ below := by rw [State.frames_setTop' g h.top, hmid]; rfl
  obtain ⟨o, s₂, hsteps, -, hend, hq⟩ := Steps.callFree hM p X.admits X.cas X.clock (acts := []) hfr happ hPc trivial
  have hq' : vx_Q Qc XC mc ms free a (U.calling g mk a) o s₂ := hq
  rw [State.frames_setTop' g h.top] at hend
  obtain ⟨g₀, hg0⟩ := Option.isSome_iff_exists.mp h.top
  obtain ⟨r, hr⟩ := State.topJava?_eq_some.mp hg0
  have hr' : (({ U with heap := s₂.heap, slotsUsed := s₂.slotsUsed } : State).setVm s₂.vm).frames = .java g₀ :: r := hr
  rcases hq' with ⟨hqc, L, hfe, hL⟩ | ⟨q, rfl, E, ce, L, hx, hce, hcv, hcl, hW₂, hsm, hL⟩
  · obtain ⟨⟨v, rfl⟩, hW₂, e2, q2, q3, q4, q5, q6⟩ := id hfe
    have e3 : s₂ = ({ (U.calling g mk a).setFrames s₂.frames with heap := s₂.heap, slotsUsed := s₂.slotsUsed } : State).setVm s₂.vm := by
      have : s₂ = ({ s₂ with vm := (U.calling g mk a).vm } : State).setVm s₂.vm := rfl
      rw [e2] at this
      exact this
    obtain ⟨c₂, i₂, len₂, hc₂, hd₂, hf₂⟩ := hend
    have hW' : U.WarmedH s₂.vm := hW₂
    have hcc : c₂ = c := by
      have h1 : s₂.code? g.method = U.code? g.method := by
        rw [State.code?_eq, State.code?_eq, hW'.alike.method?]
      exact Option.some.inj (hc₂.symm.trans (h1.trans h.code))
    subst hcc
    have hlen : len₂ = len := by rw [hdg] at hd₂; cases hd₂; rfl
    subst hlen
    have hs₂ : s₂ = (({ U with heap := s₂.heap, slotsUsed := s₂.slotsUsed } : State).setVm s₂.vm).setTop { g with pc := g.pc + len₂, stack := v.toList ++ g.stack } := by
      refine e3.trans ?_
      rw [hf₂, State.calling_eq h.top, State.setFrames_setFrames, State.setTop_of_frames _ hr', hr]
      rfl
    have hsame : U.sameButNew ({ U with heap := s₂.heap, slotsUsed := s₂.slotsUsed } : State) L mc ms := by
      refine ⟨?_, q2, q3, q4, q5, q6⟩
      obtain ⟨t, ht, -⟩ := State.frames_cons hr
      show ({ U with heap := s₂.heap, slotsUsed := s₂.slotsUsed } : State) = { U.setFrames U.frames with heap := s₂.heap, slotsUsed := s₂.slotsUsed }
      rw [State.setFrames_self ht]
    subst hg
    refine Or.inl ⟨v, ⟨(({ U with heap := s₂.heap, slotsUsed := s₂.slotsUsed } : State).setVm s₂.vm), Ls ++ L, c0 + mc, s0 + ms⟩,
      ⟨X.admits, X.cas, X.clock, X.frames, X.room, X.hears, X.method, X.code, (X.here.setHeapUsed s₂.heap s₂.slotsUsed).setVm hW'.alike, X.tail, State.WarmedH.trans X.warmed hW', X.limits, X.bytes, X.same.trans (hsame.setVm s.vm)⟩,
      ⟨g, mk, s₂, L, rfl, rfl, hqc, rfl, hL, rfl, rfl⟩, ?_⟩
    show Steps p.tables e below _ ((({ U with heap := s₂.heap, slotsUsed := s₂.slotsUsed } : State).setVm s₂.vm).setTop { g with pc := g.pc + len₂, stack := v.toList ++ g.stack })
    rw [← hs₂]
    exact hsteps
  · obtain ⟨e2, q2, q3, q4, q5, q6⟩ := id hsm
    have e3 : s₂ = ({ (U.calling g mk a).setFrames s₂.frames with heap := s₂.heap, slotsUsed := s₂.slotsUsed } : State).setVm s₂.vm := by
      have : s₂ = ({ s₂ with vm := (U.calling g mk a).vm } : State).setVm s₂.vm := rfl
      rw [e2] at this
      exact this
    have hf₂ : s₂.frames = .throwing q :: .java g :: U.frames.tail := hend
    have hW' : U.WarmedH s₂.vm := hW₂
    have hs₂ : s₂ = ((({ U with heap := s₂.heap, slotsUsed := s₂.slotsUsed } : State).setVm s₂.vm).setTop g).pushFrame (.throwing q) := by
      refine e3.trans ?_
      rw [hf₂, State.calling_eq h.top, State.setFrames_setFrames, State.pushFrame, State.frames_setTop _ hr', State.setTop_of_frames _ hr', State.setFrames_setFrames, hr]
      rfl
    have hsame : U.sameButNew ({ U with heap := s₂.heap, slotsUsed := s₂.slotsUsed } : State) L mc ms := by
      refine ⟨?_, q2, q3, q4, q5, q6⟩
      obtain ⟨t, ht, -⟩ := State.frames_cons hr
      show ({ U with heap := s₂.heap, slotsUsed := s₂.slotsUsed } : State) = { U.setFrames U.frames with heap := s₂.heap, slotsUsed := s₂.slotsUsed }
      rw [State.setFrames_self ht]
    subst hg
    refine Or.inr ⟨q, ⟨(({ U with heap := s₂.heap, slotsUsed := s₂.slotsUsed } : State).setVm s₂.vm), Ls ++ L, c0 + mc, s0 + ms⟩,
      ⟨X.admits, X.cas, X.clock, X.frames, X.room, X.hears, X.method, X.code, (X.here.setHeapUsed s₂.heap s₂.slotsUsed).setVm hW'.alike, X.tail, State.WarmedH.trans X.warmed hW', X.limits, X.bytes, X.same.trans (hsame.setVm s.vm)⟩,
      ⟨g, mk, s₂, L, E, ce, rfl, rfl, hx, hce, hcv, hcl, rfl, hL, rfl, rfl⟩, ?_⟩
    show Steps p.tables e below _ (((({ U with heap := s₂.heap, slotsUsed := s₂.slotsUsed } : State).setVm s₂.vm).setTop g).pushFrame (.throwing q))
    rw [← hs₂]
    exact hsteps
end
variable {p : Program} {l : Launch} {e : Env} {R : Room} {s : State} {m : MethodId} {args : Array Value} {below : List Frame} {meth : Method} {c : Code} {T : State} {H : Heap} {locs : List Loc} {cells slots : Nat}
theorem vx_callVX (X : Stand p l e R s m args below meth c T locs cells slots) (hexec : p.tables.exec = Jvm.exec) {own C : String} {index : Nat} {y : MethodName} {bytes : ByteArray} {maxL : Nat} {ret : Option FieldType} {hh : List (Nat × Nat × Nat × Nat)}
    (hown : s.vm.findClass own = some m.cls) (hlink : (Cond.methodLink own index y).before args s = true) (hinst : (Cond.instanceMethod y).before args s = true) (hsel : (Cond.selects C y y).before args s = true)
    (hcode : (Cond.codeWith y bytes maxL ret hh).before args s = true) (hy : y.cls ≠ "java/lang/invoke/MethodHandle" ∧ y.cls ≠ "java/lang/invoke/VarHandle")
    {W9 : Nat} {Pre : Pt → Array Value → Prop} {Post : Pt → Array Value → Option Value → Pt → Prop} {PostX : Pt → Array Value → Addr → Pt → Prop} (hK : vx_Back l R p e below s args y 3 W9 Pre Post PostX)
    {b : Addr} {cellB : Cell} (hcell : T.heap[b]? = some cellB) (hobj : cellB.vm.isStatics = false) (hcls : s.vm.findClass C = some cellB.cls)
    {g : JFrame} (hg : g.method = m) (hsize : g.locals.size = c.maxLocals) {argsL rest : List Value} (hlen : ∀ sig, parseMethodDescriptor y.desc = some sig → argsL.length = sig.parameters.length)
    (hstack : g.stack = argsL.reverse ++ .ref b :: rest) (hW : 2 * g.monitorRoom + (rest.map fun v => v.category).sum ≤ W9) (hdg : decode c.code g.pc = .ok (.invokevirtual index, 3))
    (hpre : ∀ vm₁, s.WarmedH vm₁ → Pre ⟨T.setVm vm₁, locs, cells, slots⟩ (Value.ref b :: argsL).toArray) :
    (∃ (v : Option Value) (vm₁ : Vm) (B : Pt), s.WarmedH vm₁ ∧ Stand p l e R s m args below meth c B.U B.locs B.cells B.slots ∧ Post ⟨T.setVm vm₁, locs, cells, slots⟩ (Value.ref b :: argsL).toArray v B ∧
      ∀ target, Steps p.tables e below (B.U.setTop { g with pc := g.pc + 3, stack := v.toList ++ rest }) target → Steps p.tables e below (T.setTop g) target) ∨
    (∃ (q : Addr) (vm₁ : Vm) (B : Pt), s.WarmedH vm₁ ∧ Stand p l e R s m args below meth c B.U B.locs B.cells B.slots ∧ PostX ⟨T.setVm vm₁, locs, cells, slots⟩ (Value.ref b :: argsL).toArray q B ∧
      Steps p.tables e below (T.setTop g) ((B.U.setTop { g with stack := rest }).pushFrame (.throwing q))) := by
  obtain ⟨mk, methM, hnamed, hmethM, hstM, habM⟩ := Cond.instanceMethod_spec hinst
  obtain ⟨m8, methM', cM, hn8, hmethM', -, -, -, -, -, -, hsigM⟩ := Cond.codeWith_spec hcode
  cases Option.some.inj (hn8.symm.trans hnamed)
  cases hmethM.symm.trans hmethM'
  obtain ⟨c2, r2, m2, q1, q2, q3, q4, kP, hkP, hkPi⟩ := Cond.selects_spec hsel
  cases hcls.symm.trans q1
  cases (State.methodFound?_of_named hnamed hy).symm.trans q2
  cases hnamed.symm.trans q3
  have hselP : selectMethod e.platform s.vm cellB.cls mk = .method mk := by rw [Launch.admits_selectMethod X.admits]; exact q4
  obtain ⟨vm₁, X₁, hstep₁⟩ := X.invokevirtual hexec hown hlink hnamed hmethM hstM hkP hkPi hy (a := b) (cell := cellB) hcell
    (fun z h => by rw [h] at hobj; cases hobj) hselP hmethM habM hkP hkPi (g := g) hg (argsL := argsL) (rest := rest) (hlen _ hsigM) hstack hdg
  rcases hK m meth c ⟨T.setVm vm₁, locs, cells, slots⟩ { g with stack := rest } (.invokevirtual index) mk (Value.ref b :: argsL).toArray X₁ hg hsize hdg hW (X₁.named hnamed) (hpre vm₁ X₁.warmed) with ⟨v, B, X', hpost, hsteps⟩ | ⟨q, B, X', hpost, hsteps⟩
  · exact Or.inl ⟨v, vm₁, B, X₁.warmed, X', hpost, fun target h => hstep₁ _ fun acts => by rw [doInvoke_state]; exact hsteps.trans h⟩
  · exact Or.inr ⟨q, vm₁, B, X₁.warmed, X', hpost, hstep₁ _ fun acts => by rw [doInvoke_state]; exact hsteps⟩
theorem vx_callSX (X : Stand p l e R s m args below meth c T locs cells slots) (hexec : p.tables.exec = Jvm.exec) {own : String} {index : Nat} {y : MethodName} {bytes : ByteArray} {maxL : Nat} {ret : Option FieldType} {hh : List (Nat × Nat × Nat × Nat)}
    (hown : s.vm.findClass own = some m.cls) (hlink : (Cond.methodLink own index y).before args s = true) (hstat : (Cond.static y).before args s = true) (hinit : (Cond.initialized y.cls).before args s = true)
    (hcode : (Cond.codeWith y bytes maxL ret hh).before args s = true) (hy : y.cls ≠ "java/lang/invoke/MethodHandle" ∧ y.cls ≠ "java/lang/invoke/VarHandle")
    {W9 : Nat} {Pre : Pt → Array Value → Prop} {Post : Pt → Array Value → Option Value → Pt → Prop} {PostX : Pt → Array Value → Addr → Pt → Prop} (hK : vx_Back l R p e below s args y 3 W9 Pre Post PostX)
    {g : JFrame} (hg : g.method = m) (hsize : g.locals.size = c.maxLocals) {argsL rest : List Value} (hlen : ∀ sig, parseMethodDescriptor y.desc = some sig → argsL.length = sig.parameters.length)
    (hstack : g.stack = argsL.reverse ++ rest) (hW : 2 * g.monitorRoom + (rest.map fun v => v.category).sum ≤ W9) (hdg : decode c.code g.pc = .ok (.invokestatic index, 3))
    (hpre : ∀ vm₁, s.WarmedH vm₁ → Pre ⟨T.setVm vm₁, locs, cells, slots⟩ argsL.toArray) :
    (∃ (v : Option Value) (vm₁ : Vm) (B : Pt), s.WarmedH vm₁ ∧ Stand p l e R s m args below meth c B.U B.locs B.cells B.slots ∧ Post ⟨T.setVm vm₁, locs, cells, slots⟩ argsL.toArray v B ∧
      ∀ target, Steps p.tables e below (B.U.setTop { g with pc := g.pc + 3, stack := v.toList ++ rest }) target → Steps p.tables e below (T.setTop g) target) ∨
    (∃ (q : Addr) (vm₁ : Vm) (B : Pt), s.WarmedH vm₁ ∧ Stand p l e R s m args below meth c B.U B.locs B.cells B.slots ∧ PostX ⟨T.setVm vm₁, locs, cells, slots⟩ argsL.toArray q B ∧
      Steps p.tables e below (T.setTop g) ((B.U.setTop { g with stack := rest }).pushFrame (.throwing q))) := by
  obtain ⟨mk, methM, cM, hnamed, hmethM, -, -, -, -, -, -, hsigM⟩ := Cond.codeWith_spec hcode
  have hstatic : methM.isStatic = true := Cond.static_spec hnamed hmethM hstat
  obtain ⟨kP, hkP, -⟩ := className_of_methodNamed hnamed
  have hinitP : kP.init = .initialized := Cond.initialized_spec (findClass_of_methodNamed hnamed) hkP hinit
  obtain ⟨vm₁, X₁, hstep₁⟩ := X.invokestatic hexec hown hlink hnamed hmethM hstatic hkP hinitP hy (g := g) hg (argsL := argsL) (rest := rest) (hlen _ hsigM) hstack hdg
  rcases hK m meth c ⟨T.setVm vm₁, locs, cells, slots⟩ { g with stack := rest } (.invokestatic index) mk argsL.toArray X₁ hg hsize hdg hW (X₁.named hnamed) (hpre vm₁ X₁.warmed) with ⟨v, B, X', hpost, hsteps⟩ | ⟨q, B, X', hpost, hsteps⟩
  · exact Or.inl ⟨v, vm₁, B, X₁.warmed, X', hpost, fun target h => hstep₁ _ fun acts => by rw [doInvoke_state]; exact hsteps.trans h⟩
  · exact Or.inr ⟨q, vm₁, B, X₁.warmed, X', hpost, hstep₁ _ fun acts => by rw [doInvoke_state]; exact hsteps⟩
theorem vx_callVW (X : Stand p l e R s m args below meth c T locs cells slots) (hexec : p.tables.exec = Jvm.exec) {own C : String} {index : Nat} {y : MethodName} {bytes : ByteArray} {maxL : Nat} {ret : Option FieldType} {hh : List (Nat × Nat × Nat × Nat)}
    (hown : s.vm.findClass own = some m.cls) (hlink : (Cond.methodLink own index y).before args s = true) (hinst : (Cond.instanceMethod y).before args s = true) (hsel : (Cond.selects C y y).before args s = true)
    (hcode : (Cond.codeWith y bytes maxL ret hh).before args s = true) (hy : y.cls ≠ "java/lang/invoke/MethodHandle" ∧ y.cls ≠ "java/lang/invoke/VarHandle")
    {W9 : Nat} {Pre : Pt → Array Value → Prop} {Post : Pt → Array Value → Option Value → Pt → Prop} (hK : Back l R p e below s args y 3 W9 Pre Post)
    {b : Addr} {cellB : Cell} (hcell : T.heap[b]? = some cellB) (hobj : cellB.vm.isStatics = false) (hcls : s.vm.findClass C = some cellB.cls)
    {g : JFrame} (hg : g.method = m) (hsize : g.locals.size = c.maxLocals) {argsL rest : List Value} (hlen : ∀ sig, parseMethodDescriptor y.desc = some sig → argsL.length = sig.parameters.length)
    (hstack : g.stack = argsL.reverse ++ .ref b :: rest) (hW : 2 * g.monitorRoom + (rest.map fun v => v.category).sum ≤ W9) (hdg : decode c.code g.pc = .ok (.invokevirtual index, 3))
    (hpre : ∀ vm₁, s.WarmedH vm₁ → Pre ⟨T.setVm vm₁, locs, cells, slots⟩ (Value.ref b :: argsL).toArray) :
    ∃ (v : Option Value) (vm₁ : Vm) (B : Pt), s.WarmedH vm₁ ∧ Stand p l e R s m args below meth c B.U B.locs B.cells B.slots ∧ Post ⟨T.setVm vm₁, locs, cells, slots⟩ (Value.ref b :: argsL).toArray v B ∧
      ∀ target, Steps p.tables e below (B.U.setTop { g with pc := g.pc + 3, stack := v.toList ++ rest }) target → Steps p.tables e below (T.setTop g) target := by
  obtain ⟨mk, methM, hnamed, hmethM, hstM, habM⟩ := Cond.instanceMethod_spec hinst
  obtain ⟨m8, methM', cM, hn8, hmethM', -, -, -, -, -, -, hsigM⟩ := Cond.codeWith_spec hcode
  cases Option.some.inj (hn8.symm.trans hnamed)
  cases hmethM.symm.trans hmethM'
  obtain ⟨c2, r2, m2, q1, q2, q3, q4, kP, hkP, hkPi⟩ := Cond.selects_spec hsel
  cases hcls.symm.trans q1
  cases (State.methodFound?_of_named hnamed hy).symm.trans q2
  cases hnamed.symm.trans q3
  have hselP : selectMethod e.platform s.vm cellB.cls mk = .method mk := by rw [Launch.admits_selectMethod X.admits]; exact q4
  obtain ⟨vm₁, X₁, hstep₁⟩ := X.invokevirtual hexec hown hlink hnamed hmethM hstM hkP hkPi hy (a := b) (cell := cellB) hcell
    (fun z h => by rw [h] at hobj; cases hobj) hselP hmethM habM hkP hkPi (g := g) hg (argsL := argsL) (rest := rest) (hlen _ hsigM) hstack hdg
  obtain ⟨v, B, X', hpost, hsteps⟩ := hK m meth c ⟨T.setVm vm₁, locs, cells, slots⟩ { g with stack := rest } (.invokevirtual index) mk (Value.ref b :: argsL).toArray X₁ hg hsize hdg hW (X₁.named hnamed) (hpre vm₁ X₁.warmed)
  exact ⟨v, vm₁, B, X₁.warmed, X', hpost, fun target h => hstep₁ _ fun acts => by rw [doInvoke_state]; exact hsteps.trans h⟩
abbrev vx_CVW (R : Room) (s : State) (args : Array Value) (own C : String) (index : Nat) (y : MethodName) (bytes : ByteArray) (maxL : Nat) (ret : Option FieldType) (hh : List (Nat × Nat × Nat × Nat)) (ws : List Cond) (rm : Room) (mc ms n : Nat) : Prop :=
  (rm.cells = mc ∧ rm.slots = ms ∧ rm.frames + 1 ≤ R.frames ∧ 8 + (maxL + 11) + rm.locals ≤ R.locals ∧ (∀ w ∈ ws, ∀ (a' : Array Value) (U : State), s.WarmedH U.vm → w.before a' U = true) ∧ Cond.codeWith y bytes maxL ret hh ∈ ws) ∧
  (Cond.codeWith y bytes maxL ret hh).before args s = true ∧ (Cond.initialized y.cls).before args s = true ∧ (y.cls ≠ "java/lang/invoke/MethodHandle" ∧ y.cls ≠ "java/lang/invoke/VarHandle") ∧
  (∀ sig, parseMethodDescriptor y.desc = some sig → n = sig.parameters.length) ∧ (Cond.methodLink own index y).before args s = true ∧ (Cond.instanceMethod y).before args s = true ∧ (Cond.selects C y y).before args s = true
theorem vx_cwVW {own C : String} {index maxL mc ms : Nat} {y : MethodName} {bytes : ByteArray} {ret : Option FieldType} {hh : List (Nat × Nat × Nat × Nat)} {Ts ws ws' : List Cond} {rm : Room} (n : Nat) (ht : ∀ w ∈ Ts, w.before args s = true) (hT : GoodIn Ts (wsV own index C y ws)) (hw : ws = Cond.codeWith y bytes maxL ret hh :: ws') (hrc : rm.cells = mc) (hrs : rm.slots = ms)
    (hd : y.cls = C ∧ y.cls ≠ "java/lang/invoke/MethodHandle" ∧ y.cls ≠ "java/lang/invoke/VarHandle" ∧ (parseMethodDescriptor y.desc).map (fun d => d.parameters.length) = some n) (hR : rm.frames + 1 ≤ R.frames ∧ 8 + (maxL + 11) + rm.locals ≤ R.locals) :
    vx_CVW R s args own C index y bytes maxL ret hh ws rm mc ms n := by
  obtain ⟨hC, hd⟩ := hd
  subst hC
  have ok : ∀ w ∈ wsV own index y.cls y ws, w.before args s = true := fun w h => ht w (hT w h).1
  have hG : GoodIn Ts ws := fun w h => hT w (by unfold wsV; exact List.mem_append_right _ h)
  have hc : Cond.codeWith y bytes maxL ret hh ∈ ws := by rw [hw]; exact List.mem_cons_self
  refine ⟨⟨hrc, hrs, hR.1, hR.2, pay_in ht hG, hc⟩, ht _ (hG _ hc).1, ok _ (by simp [wsV]), ⟨hd.1, hd.2.1⟩, fun sig h => ?_, ok _ (by simp [wsV]), ok _ (by simp [wsV]), ok _ (by simp [wsV])⟩
  have h2 := hd.2.2
  rw [h] at h2
  exact (Option.some.inj h2).symm
theorem vx_runVW {y : MethodName} {bytes cc : ByteArray} {maxL nL mc ms n index : Nat} {ret : Option FieldType} {hh : List (Nat × Nat × Nat × Nat)} {ws : List Cond} {rm : Room} {Pc : Array Value → State → Prop} {Qc : Array Value → State → Outcome → State → Prop} {free : Addr → Prop} {Ts : List Cond} {own C : String} {b : Addr} {As rest : List Value} {g : JFrame}
    (S : CallFix p m c cc nL s args Ts own) (hM : Met l y ws rm Pc Qc mc ms free) (cw : vx_CVW R s args own C index y bytes maxL ret hh ws rm mc ms n) (hp : PreV s H C b Pc As)
    (hg : g.method = m) (hn : As.length = n) (hsize : g.locals.size = nL) (hstack : g.stack = As.reverse ++ .ref b :: rest) (hW : 2 * g.monitorRoom + (rest.map fun v => v.category).sum ≤ 8) (hdg : decode cc g.pc = .ok (.invokevirtual index, 3)) (hf : cells + mc ≤ R.cells ∧ slots + ms ≤ R.slots) :
    va_Run p l e R s m args below meth c H locs cells slots mc ms g rest (Qc (Value.ref b :: As).toArray) free := by
  obtain ⟨⟨hrc, hrs, hfr, hlo, hws, hcw⟩, hcode, hini, hy, hlen, hl, hin, hse⟩ := cw
  have hK : Back l R p e below s args y 3 8 (PreOf R mc ms Pc) (PostOf Qc mc ms free) := va_backW (hh := hh) (bytes := bytes) (maxL := maxL) (ret := ret) hM hp.1 hrc hrs hfr hlo hws hcw (fun a' U hW => word_at hW (Or.inl (by first | rfl | simp [Cond.onTables, Cond.keeps, Cond.steady])) hini)
  obtain ⟨hx, hb, hml, ho, -⟩ := S
  obtain ⟨-, ⟨cellB, hcB, hoB, hclB⟩, hPc⟩ := hp
  intro T hT X
  obtain ⟨v, vm₁, ⟨U', l2, c2, s2⟩, hW₁, X', ⟨g', mk, t, L, e1, e2, hq, h1, hL, h2, h3⟩, st⟩ := vx_callVW X hx (C := C) (hh := hh) (bytes := bytes) (maxL := maxL) (ret := ret) ho hl hin hse hcode hy hK (by rw [hT]; exact hcB) hoB hclB hg (hsize.trans hml.symm) (argsL := As) (rest := rest) (fun sig h => hn.trans (hlen sig h)) hstack hW (by rw [hb]; exact hdg)
    (fun vm₁ hW₁ => ⟨hf.1, hf.2, hPc (T.setVm vm₁) hT hW₁⟩)
  dsimp only [Pt.U, Pt.locs, Pt.cells, Pt.slots] at X' e1 e2 h1 h2 h3 st
  subst h1; subst h2; subst h3
  exact ⟨v, (T.setVm vm₁).calling g' mk (Value.ref b :: As).toArray, t, U', L, hT, X', hL, e1, e2, hq, st⟩
section
variable {y : MethodName} {bytes cc : ByteArray} {maxL nL mc ms n index : Nat} {ret : Option FieldType} {ws : List Cond} {rm : Room} {Pc : Array Value → State → Prop} {Qc : Array Value → State → Outcome → State → Prop} {XC : String → State → State → Prop} {free : Addr → Prop} {Ts : List Cond} {own C : String} {b : Addr} {As rest : List Value} {g : JFrame}
theorem vx_runVX {hh : List (Nat × Nat × Nat × Nat)} (S : CallFix p m c cc nL s args Ts own) (hM : vx_Met l y ws rm Pc Qc XC mc ms free) (cw : vx_CVW R s args own C index y bytes maxL ret hh ws rm mc ms n) (hp : PreV s H C b Pc As)
    (hg : g.method = m) (hn : As.length = n) (hsize : g.locals.size = nL) (hstack : g.stack = As.reverse ++ .ref b :: rest) (hW : 2 * g.monitorRoom + (rest.map fun v => v.category).sum ≤ 8) (hdg : decode cc g.pc = .ok (.invokevirtual index, 3)) (hf : cells + mc ≤ R.cells ∧ slots + ms ≤ R.slots) :
    vx_Run p l e R s m args below meth c H locs cells slots mc ms g rest (Qc (Value.ref b :: As).toArray) XC free := by
  obtain ⟨⟨hrc, hrs, hfr, hlo, hws, hcw⟩, hcode, hini, hy, hlen, hl, hin, hse⟩ := cw
  have hK : vx_Back l R p e below s args y 3 8 (PreOf R mc ms Pc) (PostOf Qc mc ms free) (vx_Post XC mc ms free) := vx_backW (hh := hh) (bytes := bytes) (maxL := maxL) (ret := ret) hM hp.1 hrc hrs hfr hlo hws hcw (fun a' U hW => word_at hW (Or.inl (by first | rfl | simp [Cond.onTables, Cond.keeps, Cond.steady])) hini)
  obtain ⟨hx, hb, hml, ho, -⟩ := S
  obtain ⟨-, ⟨cellB, hcB, hoB, hclB⟩, hPc⟩ := hp
  intro T hT X
  rcases vx_callVX X hx (C := C) (hh := hh) (bytes := bytes) (maxL := maxL) (ret := ret) ho hl hin hse hcode hy hK (by rw [hT]; exact hcB) hoB hclB hg (hsize.trans hml.symm) (argsL := As) (rest := rest) (fun sig h => hn.trans (hlen sig h)) hstack hW (by rw [hb]; exact hdg)
    (fun vm₁ hW₁ => ⟨hf.1, hf.2, hPc (T.setVm vm₁) hT hW₁⟩) with ⟨v, vm₁, ⟨U', l2, c2, s2⟩, hW₁, X', ⟨g', mk, t, L, e1, e2, hq, h1, hL, h2, h3⟩, st⟩ | ⟨q, vm₁, ⟨U', l2, c2, s2⟩, hW₁, X', ⟨g', mk, t, L, E, ce, e1, e2, hq, hce, hcv, hcl, h1, hL, h2, h3⟩, st⟩
  · dsimp only [Pt.U, Pt.locs, Pt.cells, Pt.slots] at X' e1 e2 h1 h2 h3 st
    subst h1; subst h2; subst h3
    exact Or.inl ⟨v, (T.setVm vm₁).calling g' mk (Value.ref b :: As).toArray, t, U', L, hT, X', hL, e1, e2, hq, st⟩
  · dsimp only [Pt.U, Pt.locs, Pt.cells, Pt.slots] at X' e1 e2 h1 h2 h3 st hcl
    subst h1; subst h2; subst h3
    exact Or.inr ⟨q, (T.setVm vm₁).calling g' mk (Value.ref b :: As).toArray, t, U', L, E, ce, hT, X', hL, e1, e2, hq, hce, hcv, vx_cls hW₁ hcl, st⟩
theorem vx_runSX {hh : List (Nat × Nat × Nat × Nat)} (S : CallFix p m c cc nL s args Ts own) (hM : vx_Met l y ws rm Pc Qc XC mc ms free) (cw : vx_CSW R s args own index y bytes maxL ret hh ws rm mc ms n) (hp : PreS s H Pc As)
    (hg : g.method = m) (hn : As.length = n) (hsize : g.locals.size = nL) (hstack : g.stack = As.reverse ++ rest) (hW : 2 * g.monitorRoom + (rest.map fun v => v.category).sum ≤ 8) (hdg : decode cc g.pc = .ok (.invokestatic index, 3)) (hf : cells + mc ≤ R.cells ∧ slots + ms ≤ R.slots) :
    vx_Run p l e R s m args below meth c H locs cells slots mc ms g rest (Qc As.toArray) XC free := by
  obtain ⟨⟨hrc, hrs, hfr, hlo, hws, hcw⟩, hcode, hini, hy, hlen, hl, hstt⟩ := cw
  have hK : vx_Back l R p e below s args y 3 8 (PreOf R mc ms Pc) (PostOf Qc mc ms free) (vx_Post XC mc ms free) := vx_backW (hh := hh) (bytes := bytes) (maxL := maxL) (ret := ret) hM hp.1 hrc hrs hfr hlo hws hcw (fun a' U hW => word_at hW (Or.inl (by first | rfl | simp [Cond.onTables, Cond.keeps, Cond.steady])) hini)
  obtain ⟨hx, hb, hml, ho, -⟩ := S
  intro T hT X
  rcases vx_callSX X hx (hh := hh) (bytes := bytes) (maxL := maxL) (ret := ret) ho hl hstt hini hcode hy hK hg (hsize.trans hml.symm) (argsL := As) (rest := rest) (fun sig h => hn.trans (hlen sig h)) hstack hW (by rw [hb]; exact hdg)
    (fun vm₁ hW₁ => ⟨hf.1, hf.2, hp.2 (T.setVm vm₁) hT hW₁⟩) with ⟨v, vm₁, ⟨U', l2, c2, s2⟩, hW₁, X', ⟨g', mk, t, L, e1, e2, hq, h1, hL, h2, h3⟩, st⟩ | ⟨q, vm₁, ⟨U', l2, c2, s2⟩, hW₁, X', ⟨g', mk, t, L, E, ce, e1, e2, hq, hce, hcv, hcl, h1, hL, h2, h3⟩, st⟩
  · dsimp only [Pt.U, Pt.locs, Pt.cells, Pt.slots] at X' e1 e2 h1 h2 h3 st
    subst h1; subst h2; subst h3
    exact Or.inl ⟨v, (T.setVm vm₁).calling g' mk As.toArray, t, U', L, hT, X', hL, e1, e2, hq, st⟩
  · dsimp only [Pt.U, Pt.locs, Pt.cells, Pt.slots] at X' e1 e2 h1 h2 h3 st hcl
    subst h1; subst h2; subst h3
    exact Or.inr ⟨q, (T.setVm vm₁).calling g' mk As.toArray, t, U', L, E, ce, hT, X', hL, e1, e2, hq, hce, hcv, vx_cls hW₁ hcl, st⟩
end
end VXH
theorem vx_ofWH {l : Launch} {y : MethodName} {ws ws' : List Cond} {rm : Room} {Pc : Array Value → State → Prop} {Qc : Array Value → State → Outcome → State → Prop} {XC : String → State → State → Prop} {mc ms : Nat} {free : Addr → Prop} {cc : ByteArray} {maxL : Nat} {ret : Option FieldType} {hh : List (Nat × Nat × Nat × Nat)}
    (hy : plainName y.cls = true) (hw : ws = Cond.codeWith y cc maxL ret hh :: ws')
    (body : ∀ p e s m args below meth c s₁, BodyLoose p l y (headSpec ws rm) cc maxL ret e s m args below meth c s₁ → c.maxLocals = maxL → Pc args s →
      W p l e (headSpec ws rm).room s m args below meth c s.heap [] 0 0 (vx_MQ below Qc XC args s mc ms free) (entryFrame m args maxL)) : vx_Met l y ws rm Pc Qc XC mc ms free := by
  refine MetFree.of_bodyS (code := cc) (maxLocals := maxL) (ret := ret) hy ?_ ?_
  · intro args s m h hn
    obtain ⟨m9, meth, c, hn9, h1, h2, h3, h4, -, h5, h6, -⟩ := Cond.codeWith_spec (atoms_spec (ws := ws) h _ (by rw [hw]; exact List.mem_cons_self))
    cases hn.symm.trans hn9
    exact ⟨meth, c, h1, h2, h3, h4, h5, h6⟩
  · intro p e s m args below meth c s₁ B hml hP _
    have hh0 : s₁.heap = s.heap := by rw [B.state]; rfl
    obtain ⟨t, a1, o, b1, b2, b3⟩ := body p e s m args below meth c s₁ B hml hP s₁ hh0 (Stand.of_body B)
    exact ⟨t, o, a1, b1, b2, b3⟩
/-! ===== END ===== -/
end
section
def RX0 : String := "ClauseShop$Contract"
def TX0 : u_T := fun k => match k with
  | 0 => ("ClauseShop$Contract", "items", "[LClauseShop$Version;", true)
  | 1 => ("ClauseShop$Contract", "marks", "[[I", true)
  | 2 => ("ClauseShop$Contract", "signed", "[Z", true)
  | 3 => ("ClauseShop$Contract", "breaches", "[I", true)
  | _ => ("ClauseShop$Contract", "penalties", "[I", true)
def tyX0 : Nat → FieldType := fun k => match k with
  | 0 => .array (.object "ClauseShop$Version")
  | 1 => .array (.array .int)
  | 2 => .array .boolean
  | 3 => .array .int
  | _ => .array .int
abbrev wsX00 : List Cond := u_ws RX0 TX0 5
theorem nmX0 : ∀ a, a < 5 → ∀ b, b < 5 → a ≠ b → (TX0 a).2.1 ≠ (TX0 b).2.1 := by decide +kernel
theorem tyX0_ok : ∀ k, k < 5 → parseFieldDescriptor (TX0 k).2.2.1 = some (tyX0 k) := by decide +kernel
abbrev cX0_init : ByteArray := prog_2_method_1_code
def yX0_init : MethodName := ⟨RX0, "<init>", "()V"⟩
abbrev cX0_isDraft : ByteArray := prog_2_method_2_code
def yX0_isDraft : MethodName := ⟨RX0, "isDraft", "()Z"⟩
abbrev cX0_loseSignatures : ByteArray := prog_2_method_3_code
def yX0_loseSignatures : MethodName := ⟨RX0, "loseSignatures", "()V"⟩
abbrev cX0_bringIn : ByteArray := prog_2_method_4_code
def yX0_bringIn : MethodName := ⟨RX0, "bringIn", "(LClauseShop$Version;II)V"⟩
abbrev cX0_changeMark : ByteArray := prog_2_method_5_code
def yX0_changeMark : MethodName := ⟨RX0, "changeMark", "(III)V"⟩
abbrev cX0_clauseSet : ByteArray := prog_2_method_6_code
def yX0_clauseSet : MethodName := ⟨RX0, "clauseSet", "()I"⟩
abbrev cX0_isAgreed : ByteArray := prog_2_method_7_code
def yX0_isAgreed : MethodName := ⟨RX0, "isAgreed", "()Z"⟩
def RX1 : String := "ClauseShop$Duty"
def TX1 : u_T := fun k => match k with
  | 0 => ("ClauseShop$Duty", "contract", "LClauseShop$Contract;", true)
  | 1 => ("ClauseShop$Duty", "version", "LClauseShop$Version;", true)
  | 2 => ("ClauseShop$Duty", "state", "I", false)
  | _ => ("ClauseShop$Duty", "day", "I", false)
def tyX1 : Nat → FieldType := fun k => match k with
  | 0 => .object "ClauseShop$Contract"
  | 1 => .object "ClauseShop$Version"
  | 2 => .int
  | _ => .int
abbrev wsX10 : List Cond := u_ws RX1 TX1 4
theorem nmX1 : ∀ a, a < 4 → ∀ b, b < 4 → a ≠ b → (TX1 a).2.1 ≠ (TX1 b).2.1 := by decide +kernel
theorem tyX1_ok : ∀ k, k < 4 → parseFieldDescriptor (TX1 k).2.2.1 = some (tyX1 k) := by decide +kernel
abbrev cX1_init : ByteArray := prog_3_method_1_code
def yX1_init : MethodName := ⟨RX1, "<init>", "(LClauseShop$Contract;LClauseShop$Version;I)V"⟩
abbrev cX1_canBeDone : ByteArray := prog_3_method_2_code
def yX1_canBeDone : MethodName := ⟨RX1, "canBeDone", "()Z"⟩
abbrev cX1_isHeldUp : ByteArray := prog_3_method_3_code
def yX1_isHeldUp : MethodName := ⟨RX1, "isHeldUp", "()Z"⟩
abbrev cX1_move : ByteArray := prog_3_method_4_code
def yX1_move : MethodName := ⟨RX1, "move", "(II)V"⟩
abbrev cX1_countBreach : ByteArray := prog_3_method_5_code
def yX1_countBreach : MethodName := ⟨RX1, "countBreach", "(I)V"⟩
def RX2 : String := "ClauseShop$Version"
def TX2 : u_T := fun k => match k with
  | 0 => ("ClauseShop$Version", "number", "I", true)
  | 1 => ("ClauseShop$Version", "obligor", "I", true)
  | 2 => ("ClauseShop$Version", "days", "I", true)
  | 3 => ("ClauseShop$Version", "cure", "I", true)
  | _ => ("ClauseShop$Version", "penalty", "I", true)
def tyX2 : Nat → FieldType := fun k => match k with
  | 0 => .int
  | 1 => .int
  | 2 => .int
  | 3 => .int
  | _ => .int
abbrev wsX20 : List Cond := u_ws RX2 TX2 5
theorem nmX2 : ∀ a, a < 5 → ∀ b, b < 5 → a ≠ b → (TX2 a).2.1 ≠ (TX2 b).2.1 := by decide +kernel
theorem tyX2_ok : ∀ k, k < 5 → parseFieldDescriptor (TX2 k).2.2.1 = some (tyX2 k) := by decide +kernel
abbrev cX2_init : ByteArray := prog_4_method_1_code
def yX2_init : MethodName := ⟨RX2, "<init>", "(IIIII)V"⟩
def RX3 : String := "ClauseShop"
def TX3 : u_T := fun k => match k with
  | 0 => ("ClauseShop", "newest", "[LClauseShop$Version;", true)
  | 1 => ("ClauseShop", "needs", "[I", true)
  | 2 => ("ClauseShop", "forbids", "[I", true)
  | 3 => ("ClauseShop", "contracts", "Ljava/util/ArrayList;", true)
  | 4 => ("ClauseShop", "dutyList", "Ljava/util/ArrayList;", true)
  | _ => ("ClauseShop", "today", "I", false)
def tyX3 : Nat → FieldType := fun k => match k with
  | 0 => .array (.object "ClauseShop$Version")
  | 1 => .array .int
  | 2 => .array .int
  | 3 => .object "java/util/ArrayList"
  | 4 => .object "java/util/ArrayList"
  | _ => .int
abbrev wsX30 : List Cond := u_ws RX3 TX3 6
theorem nmX3 : ∀ a, a < 6 → ∀ b, b < 6 → a ≠ b → (TX3 a).2.1 ≠ (TX3 b).2.1 := by decide +kernel
theorem tyX3_ok : ∀ k, k < 6 → parseFieldDescriptor (TX3 k).2.2.1 = some (tyX3 k) := by decide +kernel
abbrev cX3_init : ByteArray := prog_1_method_1_code
def yX3_init : MethodName := ⟨RX3, "<init>", "()V"⟩
abbrev cX3_issue : ByteArray := prog_1_method_2_code
def yX3_issue : MethodName := ⟨RX3, "issue", "(IIIII)I"⟩
abbrev cX3_relate : ByteArray := prog_1_method_3_code
def yX3_relate : MethodName := ⟨RX3, "relate", "(III)V"⟩
abbrev cX3_latest : ByteArray := prog_1_method_4_code
def yX3_latest : MethodName := ⟨RX3, "latest", "(I)I"⟩
abbrev cX3_begin : ByteArray := prog_1_method_5_code
def yX3_begin : MethodName := ⟨RX3, "begin", "()I"⟩
abbrev cX3_mark : ByteArray := prog_1_method_6_code
def yX3_mark : MethodName := ⟨RX3, "mark", "(IIII)I"⟩
abbrev cX3_renew : ByteArray := prog_1_method_7_code
def yX3_renew : MethodName := ⟨RX3, "renew", "(III)I"⟩
abbrev cX3_version : ByteArray := prog_1_method_8_code
def yX3_version : MethodName := ⟨RX3, "version", "(II)I"⟩
abbrev cX3_offered : ByteArray := prog_1_method_9_code
def yX3_offered : MethodName := ⟨RX3, "offered", "(I)I"⟩
abbrev cX3_whyNot : ByteArray := prog_1_method_10_code
def yX3_whyNot : MethodName := ⟨RX3, "whyNot", "(I)I"⟩
abbrev cX3_sign : ByteArray := prog_1_method_11_code
def yX3_sign : MethodName := ⟨RX3, "sign", "(II)I"⟩
abbrev cX3_pass : ByteArray := prog_1_method_12_code
def yX3_pass : MethodName := ⟨RX3, "pass", "(I)I"⟩
abbrev cX3_duties : ByteArray := prog_1_method_13_code
def yX3_duties : MethodName := ⟨RX3, "duties", "()I"⟩
abbrev cX3_state : ByteArray := prog_1_method_14_code
def yX3_state : MethodName := ⟨RX3, "state", "(I)I"⟩
abbrev cX3_day : ByteArray := prog_1_method_15_code
def yX3_day : MethodName := ⟨RX3, "day", "(I)I"⟩
abbrev cX3_isSuspended : ByteArray := prog_1_method_16_code
def yX3_isSuspended : MethodName := ⟨RX3, "isSuspended", "(I)Z"⟩
abbrev cX3_perform : ByteArray := prog_1_method_17_code
def yX3_perform : MethodName := ⟨RX3, "perform", "(I)Z"⟩
abbrev cX3_notice : ByteArray := prog_1_method_18_code
def yX3_notice : MethodName := ⟨RX3, "notice", "(I)I"⟩
abbrev cX3_settle : ByteArray := prog_1_method_19_code
def yX3_settle : MethodName := ⟨RX3, "settle", "(I)I"⟩
abbrev cX3_owes : ByteArray := prog_1_method_20_code
def yX3_owes : MethodName := ⟨RX3, "owes", "(II)I"⟩
abbrev cX3_isWithin : ByteArray := prog_1_method_21_code
def yX3_isWithin : MethodName := ⟨RX3, "isWithin", "(III)Z"⟩
abbrev cX3_checkClause : ByteArray := prog_1_method_22_code
def yX3_checkClause : MethodName := ⟨RX3, "checkClause", "(I)V"⟩
abbrev cX3_checkSide : ByteArray := prog_1_method_23_code
def yX3_checkSide : MethodName := ⟨RX3, "checkSide", "(I)V"⟩
abbrev cX3_checkOtherClauses : ByteArray := prog_1_method_24_code
def yX3_checkOtherClauses : MethodName := ⟨RX3, "checkOtherClauses", "(II)V"⟩
abbrev cX3_checkDraft : ByteArray := prog_1_method_25_code
def yX3_checkDraft : MethodName := ⟨RX3, "checkDraft", "(LClauseShop$Contract;)V"⟩
abbrev cX3_contractAt : ByteArray := prog_1_method_26_code
def yX3_contractAt : MethodName := ⟨RX3, "contractAt", "(I)LClauseShop$Contract;"⟩
abbrev cX3_dutyAt : ByteArray := prog_1_method_27_code
def yX3_dutyAt : MethodName := ⟨RX3, "dutyAt", "(I)LClauseShop$Duty;"⟩
abbrev cX3_numberOf : ByteArray := prog_1_method_28_code
def yX3_numberOf : MethodName := ⟨RX3, "numberOf", "(LClauseShop$Version;)I"⟩
abbrev cX3_newestNumber : ByteArray := prog_1_method_29_code
def yX3_newestNumber : MethodName := ⟨RX3, "newestNumber", "(I)I"⟩
abbrev cX3_itemNumber : ByteArray := prog_1_method_30_code
def yX3_itemNumber : MethodName := ⟨RX3, "itemNumber", "(LClauseShop$Contract;I)I"⟩
abbrev cX3_hasLaterVersion : ByteArray := prog_1_method_31_code
def yX3_hasLaterVersion : MethodName := ⟨RX3, "hasLaterVersion", "(LClauseShop$Contract;I)Z"⟩
abbrev cX3_obstacle : ByteArray := prog_1_method_32_code
def yX3_obstacle : MethodName := ⟨RX3, "obstacle", "(LClauseShop$Contract;)I"⟩
abbrev cX3_unionOver : ByteArray := prog_1_method_33_code
def yX3_unionOver : MethodName := ⟨RX3, "unionOver", "(I[I)I"⟩
abbrev cX3_makeDuties : ByteArray := prog_1_method_34_code
def yX3_makeDuties : MethodName := ⟨RX3, "makeDuties", "(LClauseShop$Contract;)I"⟩
abbrev cX3_putOffHeldUpDuties : ByteArray := prog_1_method_35_code
def yX3_putOffHeldUpDuties : MethodName := ⟨RX3, "putOffHeldUpDuties", "()V"⟩
abbrev cX3_breachUncuredDuties : ByteArray := prog_1_method_36_code
def yX3_breachUncuredDuties : MethodName := ⟨RX3, "breachUncuredDuties", "()I"⟩
def RX4 : String := "ClauseShopModel"
def TX4 : u_T := fun k => match k with
  | 0 => ("ClauseShopModel", "thrown", "I", false)
  | 1 => ("ClauseShopModel", "day", "I", false)
  | 2 => ("ClauseShopModel", "latest", "[I", true)
  | 3 => ("ClauseShopModel", "obligor", "[I", true)
  | 4 => ("ClauseShopModel", "days", "[I", true)
  | 5 => ("ClauseShopModel", "cure", "[I", true)
  | 6 => ("ClauseShopModel", "penalty", "[I", true)
  | 7 => ("ClauseShopModel", "needs", "[I", true)
  | 8 => ("ClauseShopModel", "forbids", "[I", true)
  | 9 => ("ClauseShopModel", "contracts", "I", false)
  | 10 => ("ClauseShopModel", "isSigned", "[Z", true)
  | 11 => ("ClauseShopModel", "signed", "[I", true)
  | 12 => ("ClauseShopModel", "version", "[I", true)
  | 13 => ("ClauseShopModel", "mark", "[I", true)
  | 14 => ("ClauseShopModel", "duties", "I", false)
  | 15 => ("ClauseShopModel", "contract", "[I", true)
  | 16 => ("ClauseShopModel", "side", "[I", true)
  | 17 => ("ClauseShopModel", "itsCure", "[I", true)
  | 18 => ("ClauseShopModel", "itsPenalty", "[I", true)
  | 19 => ("ClauseShopModel", "state", "[I", true)
  | 20 => ("ClauseShopModel", "counts", "[I", true)
  | _ => ("ClauseShopModel", "isLater", "[Z", true)
def tyX4 : Nat → FieldType := fun k => match k with
  | 0 => .int
  | 1 => .int
  | 2 => .array .int
  | 3 => .array .int
  | 4 => .array .int
  | 5 => .array .int
  | 6 => .array .int
  | 7 => .array .int
  | 8 => .array .int
  | 9 => .int
  | 10 => .array .boolean
  | 11 => .array .int
  | 12 => .array .int
  | 13 => .array .int
  | 14 => .int
  | 15 => .array .int
  | 16 => .array .int
  | 17 => .array .int
  | 18 => .array .int
  | 19 => .array .int
  | 20 => .array .int
  | _ => .array .boolean
abbrev wsX40 : List Cond := u_ws RX4 TX4 22
theorem nmX4 : ∀ a, a < 22 → ∀ b, b < 22 → a ≠ b → (TX4 a).2.1 ≠ (TX4 b).2.1 := by decide +kernel
theorem tyX4_ok : ∀ k, k < 22 → parseFieldDescriptor (TX4 k).2.2.1 = some (tyX4 k) := by decide +kernel
abbrev cX4_init : ByteArray := prog_6_method_1_code
def yX4_init : MethodName := ⟨RX4, "<init>", "()V"⟩
abbrev cX4_thrown : ByteArray := prog_6_method_2_code
def yX4_thrown : MethodName := ⟨RX4, "thrown", "()I"⟩
abbrev cX4_in : ByteArray := prog_6_method_3_code
def yX4_in : MethodName := ⟨RX4, "in", "(III)Z"⟩
abbrev cX4_isClause : ByteArray := prog_6_method_4_code
def yX4_isClause : MethodName := ⟨RX4, "isClause", "(I)Z"⟩
abbrev cX4_isSide : ByteArray := prog_6_method_5_code
def yX4_isSide : MethodName := ⟨RX4, "isSide", "(I)Z"⟩
abbrev cX4_isContract : ByteArray := prog_6_method_6_code
def yX4_isContract : MethodName := ⟨RX4, "isContract", "(I)Z"⟩
abbrev cX4_isDuty : ByteArray := prog_6_method_7_code
def yX4_isDuty : MethodName := ⟨RX4, "isDuty", "(I)Z"⟩
abbrev cX4_issue : ByteArray := prog_6_method_8_code
def yX4_issue : MethodName := ⟨RX4, "issue", "(IIIII)I"⟩
abbrev cX4_relate : ByteArray := prog_6_method_9_code
def yX4_relate : MethodName := ⟨RX4, "relate", "(III)V"⟩
abbrev cX4_latest : ByteArray := prog_6_method_10_code
def yX4_latest : MethodName := ⟨RX4, "latest", "(I)I"⟩
abbrev cX4_begin : ByteArray := prog_6_method_11_code
def yX4_begin : MethodName := ⟨RX4, "begin", "()I"⟩
abbrev cX4_marks : ByteArray := prog_6_method_12_code
def yX4_marks : MethodName := ⟨RX4, "marks", "(IIII)V"⟩
abbrev cX4_mark : ByteArray := prog_6_method_13_code
def yX4_mark : MethodName := ⟨RX4, "mark", "(IIII)I"⟩
abbrev cX4_renew : ByteArray := prog_6_method_14_code
def yX4_renew : MethodName := ⟨RX4, "renew", "(III)I"⟩
abbrev cX4_version : ByteArray := prog_6_method_15_code
def yX4_version : MethodName := ⟨RX4, "version", "(II)I"⟩
abbrev cX4_offered : ByteArray := prog_6_method_16_code
def yX4_offered : MethodName := ⟨RX4, "offered", "(I)I"⟩
abbrev cX4_reason : ByteArray := prog_6_method_17_code
def yX4_reason : MethodName := ⟨RX4, "reason", "(I)I"⟩
abbrev cX4_whyNot : ByteArray := prog_6_method_18_code
def yX4_whyNot : MethodName := ⟨RX4, "whyNot", "(I)I"⟩
abbrev cX4_makesDuties : ByteArray := prog_6_method_19_code
def yX4_makesDuties : MethodName := ⟨RX4, "makesDuties", "(I)I"⟩
abbrev cX4_sign : ByteArray := prog_6_method_20_code
def yX4_sign : MethodName := ⟨RX4, "sign", "(II)I"⟩
abbrev cX4_isSuspendedNow : ByteArray := prog_6_method_21_code
def yX4_isSuspendedNow : MethodName := ⟨RX4, "isSuspendedNow", "(I)Z"⟩
abbrev cX4_passes : ByteArray := prog_6_method_22_code
def yX4_passes : MethodName := ⟨RX4, "passes", "()I"⟩
abbrev cX4_pass : ByteArray := prog_6_method_23_code
def yX4_pass : MethodName := ⟨RX4, "pass", "(I)I"⟩
abbrev cX4_duties : ByteArray := prog_6_method_24_code
def yX4_duties : MethodName := ⟨RX4, "duties", "()I"⟩
abbrev cX4_state : ByteArray := prog_6_method_25_code
def yX4_state : MethodName := ⟨RX4, "state", "(I)I"⟩
abbrev cX4_day : ByteArray := prog_6_method_26_code
def yX4_day : MethodName := ⟨RX4, "day", "(I)I"⟩
abbrev cX4_isSuspended : ByteArray := prog_6_method_27_code
def yX4_isSuspended : MethodName := ⟨RX4, "isSuspended", "(I)Z"⟩
abbrev cX4_perform : ByteArray := prog_6_method_28_code
def yX4_perform : MethodName := ⟨RX4, "perform", "(I)Z"⟩
abbrev cX4_notice : ByteArray := prog_6_method_29_code
def yX4_notice : MethodName := ⟨RX4, "notice", "(I)I"⟩
abbrev cX4_settle : ByteArray := prog_6_method_30_code
def yX4_settle : MethodName := ⟨RX4, "settle", "(I)I"⟩
abbrev cX4_owes : ByteArray := prog_6_method_31_code
def yX4_owes : MethodName := ⟨RX4, "owes", "(II)I"⟩
def RJx145de : String := "java/io/Serializable"
def TJx145de : u_T := fun k => match k with
  | _ => ("", "", "", false)
def tyJx145de : Nat → FieldType := fun k => match k with
  | _ => .int
abbrev wsJx145de0 : List Cond := u_ws RJx145de TJx145de 0
theorem nmJx145de : ∀ a, a < 0 → ∀ b, b < 0 → a ≠ b → (TJx145de a).2.1 ≠ (TJx145de b).2.1 := by decide +kernel
theorem tyJx145de_ok : ∀ k, k < 0 → parseFieldDescriptor (TJx145de k).2.2.1 = some (tyJx145de k) := by decide +kernel
def RJx8e188 : String := "java/lang/Cloneable"
def TJx8e188 : u_T := fun k => match k with
  | _ => ("", "", "", false)
def tyJx8e188 : Nat → FieldType := fun k => match k with
  | _ => .int
abbrev wsJx8e1880 : List Cond := u_ws RJx8e188 TJx8e188 0
theorem nmJx8e188 : ∀ a, a < 0 → ∀ b, b < 0 → a ≠ b → (TJx8e188 a).2.1 ≠ (TJx8e188 b).2.1 := by decide +kernel
theorem tyJx8e188_ok : ∀ k, k < 0 → parseFieldDescriptor (TJx8e188 k).2.2.1 = some (tyJx8e188 k) := by decide +kernel
def RJxab1ab : String := "java/lang/Iterable"
def TJxab1ab : u_T := fun k => match k with
  | _ => ("", "", "", false)
def tyJxab1ab : Nat → FieldType := fun k => match k with
  | _ => .int
abbrev wsJxab1ab0 : List Cond := u_ws RJxab1ab TJxab1ab 0
theorem nmJxab1ab : ∀ a, a < 0 → ∀ b, b < 0 → a ≠ b → (TJxab1ab a).2.1 ≠ (TJxab1ab b).2.1 := by decide +kernel
theorem tyJxab1ab_ok : ∀ k, k < 0 → parseFieldDescriptor (TJxab1ab k).2.2.1 = some (tyJxab1ab k) := by decide +kernel
def RJ9 : String := "java/lang/Math"
def TJ9 : u_T := fun k => match k with
  | _ => ("", "", "", false)
def tyJ9 : Nat → FieldType := fun k => match k with
  | _ => .int
abbrev wsJ90 : List Cond := u_ws RJ9 TJ9 0
theorem nmJ9 : ∀ a, a < 0 → ∀ b, b < 0 → a ≠ b → (TJ9 a).2.1 ≠ (TJ9 b).2.1 := by decide +kernel
theorem tyJ9_ok : ∀ k, k < 0 → parseFieldDescriptor (TJ9 k).2.2.1 = some (tyJ9 k) := by decide +kernel
abbrev cJ9_max_7cf53 : ByteArray := prog_14_method_65_code
def yJ9_max_7cf53 : MethodName := ⟨RJ9, "max", "(II)I"⟩
abbrev cJ9_min_7cf53 : ByteArray := prog_14_method_69_code
def yJ9_min_7cf53 : MethodName := ⟨RJ9, "min", "(II)I"⟩
def RJ0 : String := "java/lang/String"
def TJ0 : u_T := fun k => match k with
  | _ => ("", "", "", false)
def tyJ0 : Nat → FieldType := fun k => match k with
  | _ => .int
abbrev wsJ00 : List Cond := u_ws RJ0 TJ0 0
theorem nmJ0 : ∀ a, a < 0 → ∀ b, b < 0 → a ≠ b → (TJ0 a).2.1 ≠ (TJ0 b).2.1 := by decide +kernel
theorem tyJ0_ok : ∀ k, k < 0 → parseFieldDescriptor (TJ0 k).2.2.1 = some (tyJ0 k) := by decide +kernel
def RJ10 : String := "java/lang/System"
def TJ10 : u_T := fun k => match k with
  | _ => ("", "", "", false)
def tyJ10 : Nat → FieldType := fun k => match k with
  | _ => .int
abbrev wsJ100 : List Cond := u_ws RJ10 TJ10 0
theorem nmJ10 : ∀ a, a < 0 → ∀ b, b < 0 → a ≠ b → (TJ10 a).2.1 ≠ (TJ10 b).2.1 := by decide +kernel
theorem tyJ10_ok : ∀ k, k < 0 → parseFieldDescriptor (TJ10 k).2.2.1 = some (tyJ10 k) := by decide +kernel
def RJxa1e45 : String := "java/util/AbstractCollection"
def TJxa1e45 : u_T := fun k => match k with
  | _ => ("", "", "", false)
def tyJxa1e45 : Nat → FieldType := fun k => match k with
  | _ => .int
abbrev wsJxa1e450 : List Cond := u_ws RJxa1e45 TJxa1e45 0
theorem nmJxa1e45 : ∀ a, a < 0 → ∀ b, b < 0 → a ≠ b → (TJxa1e45 a).2.1 ≠ (TJxa1e45 b).2.1 := by decide +kernel
theorem tyJxa1e45_ok : ∀ k, k < 0 → parseFieldDescriptor (TJxa1e45 k).2.2.1 = some (tyJxa1e45 k) := by decide +kernel
abbrev cJxa1e45_init_da8c8 : ByteArray := prog_19_method_1_code
def yJxa1e45_init_da8c8 : MethodName := ⟨RJxa1e45, "<init>", "()V"⟩
def RJxc12de : String := "java/util/AbstractList"
def TJxc12de : u_T := fun k => match k with
  | _ => ("", "", "", false)
def tyJxc12de : Nat → FieldType := fun k => match k with
  | _ => .int
abbrev wsJxc12de0 : List Cond := u_ws RJxc12de TJxc12de 0
theorem nmJxc12de : ∀ a, a < 0 → ∀ b, b < 0 → a ≠ b → (TJxc12de a).2.1 ≠ (TJxc12de b).2.1 := by decide +kernel
theorem tyJxc12de_ok : ∀ k, k < 0 → parseFieldDescriptor (TJxc12de k).2.2.1 = some (tyJxc12de k) := by decide +kernel
abbrev cJxc12de_init_da8c8 : ByteArray := prog_20_method_1_code
def yJxc12de_init_da8c8 : MethodName := ⟨RJxc12de, "<init>", "()V"⟩
def RJx4a65c : String := "java/util/ArrayList"
def TJx4a65c : u_T := fun k => match k with
  | 0 => ("java/util/AbstractList", "modCount", "I", false)
  | 1 => ("java/util/ArrayList", "elementData", "[Ljava/lang/Object;", false)
  | _ => ("java/util/ArrayList", "size", "I", false)
def tyJx4a65c : Nat → FieldType := fun k => match k with
  | 0 => .int
  | 1 => .array (.object "java/lang/Object")
  | _ => .int
abbrev wsJx4a65c0 : List Cond := u_ws RJx4a65c TJx4a65c 3
theorem nmJx4a65c : ∀ a, a < 3 → ∀ b, b < 3 → a ≠ b → (TJx4a65c a).2.1 ≠ (TJx4a65c b).2.1 := by decide +kernel
theorem tyJx4a65c_ok : ∀ k, k < 3 → parseFieldDescriptor (TJx4a65c k).2.2.1 = some (tyJx4a65c k) := by decide +kernel
abbrev cJx4a65c_init_da8c8 : ByteArray := prog_21_method_2_code
def yJx4a65c_init_da8c8 : MethodName := ⟨RJx4a65c, "<init>", "()V"⟩
abbrev cJx4a65c_grow_92f84 : ByteArray := prog_21_method_6_code
def yJx4a65c_grow_92f84 : MethodName := ⟨RJx4a65c, "grow", "(I)[Ljava/lang/Object;"⟩
abbrev cJx4a65c_grow_d5877 : ByteArray := prog_21_method_7_code
def yJx4a65c_grow_d5877 : MethodName := ⟨RJx4a65c, "grow", "()[Ljava/lang/Object;"⟩
abbrev cJx4a65c_size_8abf5 : ByteArray := prog_21_method_8_code
def yJx4a65c_size_8abf5 : MethodName := ⟨RJx4a65c, "size", "()I"⟩
abbrev cJx4a65c_elementData_915e3 : ByteArray := prog_21_method_18_code
def yJx4a65c_elementData_915e3 : MethodName := ⟨RJx4a65c, "elementData", "(I)Ljava/lang/Object;"⟩
abbrev cJx4a65c_get_915e3 : ByteArray := prog_21_method_20_code
def yJx4a65c_get_915e3 : MethodName := ⟨RJx4a65c, "get", "(I)Ljava/lang/Object;"⟩
abbrev cJx4a65c_add_72be8 : ByteArray := prog_21_method_24_code
def yJx4a65c_add_72be8 : MethodName := ⟨RJx4a65c, "add", "(Ljava/lang/Object;[Ljava/lang/Object;I)V"⟩
abbrev cJx4a65c_add_9ea2d : ByteArray := prog_21_method_25_code
def yJx4a65c_add_9ea2d : MethodName := ⟨RJx4a65c, "add", "(Ljava/lang/Object;)Z"⟩
def RJ7 : String := "java/util/Arrays"
def TJ7 : u_T := fun k => match k with
  | _ => ("", "", "", false)
def tyJ7 : Nat → FieldType := fun k => match k with
  | _ => .int
abbrev wsJ70 : List Cond := u_ws RJ7 TJ7 0
theorem nmJ7 : ∀ a, a < 0 → ∀ b, b < 0 → a ≠ b → (TJ7 a).2.1 ≠ (TJ7 b).2.1 := by decide +kernel
theorem tyJ7_ok : ∀ k, k < 0 → parseFieldDescriptor (TJ7 k).2.2.1 = some (tyJ7 k) := by decide +kernel
abbrev cJ7_copyOf_1904c : ByteArray := prog_22_method_119_code
def yJ7_copyOf_1904c : MethodName := ⟨RJ7, "copyOf", "([Ljava/lang/Object;I)[Ljava/lang/Object;"⟩
abbrev cJ7_copyOf_6403c : ByteArray := prog_22_method_120_code
def yJ7_copyOf_6403c : MethodName := ⟨RJ7, "copyOf", "([Ljava/lang/Object;ILjava/lang/Class;)[Ljava/lang/Object;"⟩
def RJx5ef63 : String := "java/util/Collection"
def TJx5ef63 : u_T := fun k => match k with
  | _ => ("", "", "", false)
def tyJx5ef63 : Nat → FieldType := fun k => match k with
  | _ => .int
abbrev wsJx5ef630 : List Cond := u_ws RJx5ef63 TJx5ef63 0
theorem nmJx5ef63 : ∀ a, a < 0 → ∀ b, b < 0 → a ≠ b → (TJx5ef63 a).2.1 ≠ (TJx5ef63 b).2.1 := by decide +kernel
theorem tyJx5ef63_ok : ∀ k, k < 0 → parseFieldDescriptor (TJx5ef63 k).2.2.1 = some (tyJx5ef63 k) := by decide +kernel
def RJxbd725 : String := "java/util/List"
def TJxbd725 : u_T := fun k => match k with
  | _ => ("", "", "", false)
def tyJxbd725 : Nat → FieldType := fun k => match k with
  | _ => .int
abbrev wsJxbd7250 : List Cond := u_ws RJxbd725 TJxbd725 0
theorem nmJxbd725 : ∀ a, a < 0 → ∀ b, b < 0 → a ≠ b → (TJxbd725 a).2.1 ≠ (TJxbd725 b).2.1 := by decide +kernel
theorem tyJxbd725_ok : ∀ k, k < 0 → parseFieldDescriptor (TJxbd725 k).2.2.1 = some (tyJxbd725 k) := by decide +kernel
def RJ15 : String := "java/util/Objects"
def TJ15 : u_T := fun k => match k with
  | _ => ("", "", "", false)
def tyJ15 : Nat → FieldType := fun k => match k with
  | _ => .int
abbrev wsJ150 : List Cond := u_ws RJ15 TJ15 0
theorem nmJ15 : ∀ a, a < 0 → ∀ b, b < 0 → a ≠ b → (TJ15 a).2.1 ≠ (TJ15 b).2.1 := by decide +kernel
theorem tyJ15_ok : ∀ k, k < 0 → parseFieldDescriptor (TJ15 k).2.2.1 = some (tyJ15 k) := by decide +kernel
abbrev cJ15_checkIndex_7cf53 : ByteArray := prog_25_method_17_code
def yJ15_checkIndex_7cf53 : MethodName := ⟨RJ15, "checkIndex", "(II)I"⟩
def RJxf0a74 : String := "java/util/RandomAccess"
def TJxf0a74 : u_T := fun k => match k with
  | _ => ("", "", "", false)
def tyJxf0a74 : Nat → FieldType := fun k => match k with
  | _ => .int
abbrev wsJxf0a740 : List Cond := u_ws RJxf0a74 TJxf0a74 0
theorem nmJxf0a74 : ∀ a, a < 0 → ∀ b, b < 0 → a ≠ b → (TJxf0a74 a).2.1 ≠ (TJxf0a74 b).2.1 := by decide +kernel
theorem tyJxf0a74_ok : ∀ k, k < 0 → parseFieldDescriptor (TJxf0a74 k).2.2.1 = some (tyJxf0a74 k) := by decide +kernel
def RJxa66e6 : String := "java/util/SequencedCollection"
def TJxa66e6 : u_T := fun k => match k with
  | _ => ("", "", "", false)
def tyJxa66e6 : Nat → FieldType := fun k => match k with
  | _ => .int
abbrev wsJxa66e60 : List Cond := u_ws RJxa66e6 TJxa66e6 0
theorem nmJxa66e6 : ∀ a, a < 0 → ∀ b, b < 0 → a ≠ b → (TJxa66e6 a).2.1 ≠ (TJxa66e6 b).2.1 := by decide +kernel
theorem tyJxa66e6_ok : ∀ k, k < 0 → parseFieldDescriptor (TJxa66e6 k).2.2.1 = some (tyJxa66e6 k) := by decide +kernel
def RJ8 : String := "jdk/internal/util/ArraysSupport"
def TJ8 : u_T := fun k => match k with
  | _ => ("", "", "", false)
def tyJ8 : Nat → FieldType := fun k => match k with
  | _ => .int
abbrev wsJ80 : List Cond := u_ws RJ8 TJ8 0
theorem nmJ8 : ∀ a, a < 0 → ∀ b, b < 0 → a ≠ b → (TJ8 a).2.1 ≠ (TJ8 b).2.1 := by decide +kernel
theorem tyJ8_ok : ∀ k, k < 0 → parseFieldDescriptor (TJ8 k).2.2.1 = some (tyJ8 k) := by decide +kernel
abbrev cJ8_newLength_cabcc : ByteArray := prog_28_method_27_code
def yJ8_newLength_cabcc : MethodName := ⟨RJ8, "newLength", "(III)I"⟩
abbrev cJ8_hugeLength_7cf53 : ByteArray := prog_28_method_28_code
def yJ8_hugeLength_7cf53 : MethodName := ⟨RJ8, "hugeLength", "(II)I"⟩
def RJ3 : String := "jdk/internal/util/Preconditions"
def TJ3 : u_T := fun k => match k with
  | _ => ("", "", "", false)
def tyJ3 : Nat → FieldType := fun k => match k with
  | _ => .int
abbrev wsJ30 : List Cond := u_ws RJ3 TJ3 0
theorem nmJ3 : ∀ a, a < 0 → ∀ b, b < 0 → a ≠ b → (TJ3 a).2.1 ≠ (TJ3 b).2.1 := by decide +kernel
theorem tyJ3_ok : ∀ k, k < 0 → parseFieldDescriptor (TJ3 k).2.2.1 = some (tyJ3 k) := by decide +kernel
abbrev cJ3_checkIndex_8e157 : ByteArray := prog_29_method_11_code
def yJ3_checkIndex_8e157 : MethodName := ⟨RJ3, "checkIndex", "(IILjava/util/function/BiFunction;)I"⟩
def RL : String := "ClauseShopLaw"
abbrev cL_issue : ByteArray := method_3_code
def yL_issue : MethodName := ⟨RL, "issue", "(LClauseShop;IIIII[J)I"⟩
abbrev cL_relate : ByteArray := method_4_code
def yL_relate : MethodName := ⟨RL, "relate", "(LClauseShop;III)I"⟩
abbrev cL_latest : ByteArray := method_5_code
def yL_latest : MethodName := ⟨RL, "latest", "(LClauseShop;I[J)I"⟩
abbrev cL_begin : ByteArray := method_6_code
def yL_begin : MethodName := ⟨RL, "begin", "(LClauseShop;[J)I"⟩
abbrev cL_mark : ByteArray := method_7_code
def yL_mark : MethodName := ⟨RL, "mark", "(LClauseShop;IIII[J)I"⟩
abbrev cL_renew : ByteArray := method_8_code
def yL_renew : MethodName := ⟨RL, "renew", "(LClauseShop;III[J)I"⟩
abbrev cL_version : ByteArray := method_9_code
def yL_version : MethodName := ⟨RL, "version", "(LClauseShop;II[J)I"⟩
abbrev cL_offered : ByteArray := method_10_code
def yL_offered : MethodName := ⟨RL, "offered", "(LClauseShop;I[J)I"⟩
abbrev cL_whyNot : ByteArray := method_11_code
def yL_whyNot : MethodName := ⟨RL, "whyNot", "(LClauseShop;I[J)I"⟩
abbrev cL_sign : ByteArray := method_12_code
def yL_sign : MethodName := ⟨RL, "sign", "(LClauseShop;II[J)I"⟩
abbrev cL_pass : ByteArray := method_13_code
def yL_pass : MethodName := ⟨RL, "pass", "(LClauseShop;I[J)I"⟩
abbrev cL_state : ByteArray := method_14_code
def yL_state : MethodName := ⟨RL, "state", "(LClauseShop;I[J)I"⟩
abbrev cL_day : ByteArray := method_15_code
def yL_day : MethodName := ⟨RL, "day", "(LClauseShop;I[J)I"⟩
abbrev cL_isSuspended : ByteArray := method_16_code
def yL_isSuspended : MethodName := ⟨RL, "isSuspended", "(LClauseShop;I[J)I"⟩
abbrev cL_perform : ByteArray := method_17_code
def yL_perform : MethodName := ⟨RL, "perform", "(LClauseShop;I[J)I"⟩
abbrev cL_notice : ByteArray := method_18_code
def yL_notice : MethodName := ⟨RL, "notice", "(LClauseShop;I[J)I"⟩
abbrev cL_settle : ByteArray := method_19_code
def yL_settle : MethodName := ⟨RL, "settle", "(LClauseShop;I[J)I"⟩
abbrev cL_owes : ByteArray := method_20_code
def yL_owes : MethodName := ⟨RL, "owes", "(LClauseShop;II[J)I"⟩
abbrev cL_law : ByteArray := code
def yL_law : MethodName := ⟨RL, "law", "([I)Z"⟩
def wsX0_init : List Cond := .code yX0_init cX0_init 1 none :: ([.methodLink RX0 3 objectInit, .instanceMethod objectInit, .code objectInit ⟨#[0xb1]⟩ 1 none, .classLink RX0 9 RX2, .fieldLink RX0 11 "ClauseShop$Contract" "items" "[LClauseShop$Version;", .classLink RX0 17 "[[I", .arrayClass .int, .fieldLink RX0 19 "ClauseShop$Contract" "marks" "[[I", .arrayClass .boolean, .fieldLink RX0 22 "ClauseShop$Contract" "signed" "[Z", .fieldLink RX0 26 "ClauseShop$Contract" "breaches" "[I", .fieldLink RX0 30 "ClauseShop$Contract" "penalties" "[I"] ++ wsX00)
def wsX0_isDraft : List Cond := .code yX0_isDraft cX0_isDraft 1 (some .boolean) :: ([.fieldLink RX0 22 "ClauseShop$Contract" "signed" "[Z"] ++ wsX00)
def wsX0_loseSignatures : List Cond := .code yX0_loseSignatures cX0_loseSignatures 1 none :: ([.fieldLink RX0 22 "ClauseShop$Contract" "signed" "[Z"] ++ wsX00)
def wsX0_bringIn : List Cond := .code yX0_bringIn cX0_bringIn 4 none :: ([.fieldLink RX0 11 "ClauseShop$Contract" "items" "[LClauseShop$Version;", .fieldLink RX0 19 "ClauseShop$Contract" "marks" "[[I", .methodLink RX0 33 yX0_loseSignatures, .instanceMethod yX0_loseSignatures, .selects RX0 yX0_loseSignatures yX0_loseSignatures, .initialized RX0, .code yX0_loseSignatures cX0_loseSignatures 1 none, .fieldLink RX0 22 "ClauseShop$Contract" "signed" "[Z"] ++ wsX00)
def wsX0_changeMark : List Cond := .code yX0_changeMark cX0_changeMark 4 none :: ([.fieldLink RX0 19 "ClauseShop$Contract" "marks" "[[I", .fieldLink RX0 11 "ClauseShop$Contract" "items" "[LClauseShop$Version;", .methodLink RX0 33 yX0_loseSignatures, .instanceMethod yX0_loseSignatures, .selects RX0 yX0_loseSignatures yX0_loseSignatures, .initialized RX0, .code yX0_loseSignatures cX0_loseSignatures 1 none, .fieldLink RX0 22 "ClauseShop$Contract" "signed" "[Z"] ++ wsX00)
def wsX0_clauseSet : List Cond := .code yX0_clauseSet cX0_clauseSet 3 (some .int) :: ([.fieldLink RX0 11 "ClauseShop$Contract" "items" "[LClauseShop$Version;"] ++ wsX00)
def wsX0_isAgreed : List Cond := .code yX0_isAgreed cX0_isAgreed 2 (some .boolean) :: ([.fieldLink RX0 11 "ClauseShop$Contract" "items" "[LClauseShop$Version;", .fieldLink RX0 19 "ClauseShop$Contract" "marks" "[[I"] ++ wsX00)
def wsX1_init : List Cond := .code yX1_init cX1_init 4 none :: ([.methodLink RX1 3 objectInit, .instanceMethod objectInit, .code objectInit ⟨#[0xb1]⟩ 1 none, .fieldLink RX1 9 "ClauseShop$Duty" "state" "I", .fieldLink RX1 15 "ClauseShop$Duty" "contract" "LClauseShop$Contract;", .fieldLink RX1 19 "ClauseShop$Duty" "version" "LClauseShop$Version;", .fieldLink RX1 23 "ClauseShop$Duty" "day" "I"] ++ wsX10)
def wsX1_canBeDone : List Cond := .code yX1_canBeDone cX1_canBeDone 1 (some .boolean) :: ([.fieldLink RX1 9 "ClauseShop$Duty" "state" "I"] ++ wsX10)
def wsX1_isHeldUp : List Cond := .code yX1_isHeldUp cX1_isHeldUp 1 (some .boolean) :: ([.fieldLink RX1 15 "ClauseShop$Duty" "contract" "LClauseShop$Contract;", .fieldLink RX1 30 "ClauseShop$Contract" "breaches" "[I", .fieldLink RX1 19 "ClauseShop$Duty" "version" "LClauseShop$Version;", .fieldLink RX1 36 "ClauseShop$Version" "obligor" "I", .methodLink RX1 26 yX1_canBeDone, .instanceMethod yX1_canBeDone, .selects RX1 yX1_canBeDone yX1_canBeDone, .initialized RX1, .code yX1_canBeDone cX1_canBeDone 1 (some .boolean), .fieldLink RX1 9 "ClauseShop$Duty" "state" "I"] ++ wsX10 ++ wsX00 ++ wsX20)
def wsX1_move : List Cond := .code yX1_move cX1_move 3 none :: ([.fieldLink RX1 9 "ClauseShop$Duty" "state" "I", .fieldLink RX1 23 "ClauseShop$Duty" "day" "I"] ++ wsX10)
def wsX1_countBreach : List Cond := .code yX1_countBreach cX1_countBreach 2 none :: ([.fieldLink RX1 15 "ClauseShop$Duty" "contract" "LClauseShop$Contract;", .fieldLink RX1 30 "ClauseShop$Contract" "breaches" "[I", .fieldLink RX1 19 "ClauseShop$Duty" "version" "LClauseShop$Version;", .fieldLink RX1 36 "ClauseShop$Version" "obligor" "I", .fieldLink RX1 41 "ClauseShop$Contract" "penalties" "[I", .fieldLink RX1 44 "ClauseShop$Version" "penalty" "I"] ++ wsX10 ++ wsX00 ++ wsX20)
def wsX2_init : List Cond := .code yX2_init cX2_init 6 none :: ([.methodLink RX2 1 objectInit, .instanceMethod objectInit, .code objectInit ⟨#[0xb1]⟩ 1 none, .fieldLink RX2 7 "ClauseShop$Version" "number" "I", .fieldLink RX2 13 "ClauseShop$Version" "obligor" "I", .fieldLink RX2 16 "ClauseShop$Version" "days" "I", .fieldLink RX2 19 "ClauseShop$Version" "cure" "I", .fieldLink RX2 22 "ClauseShop$Version" "penalty" "I"] ++ wsX20)
def wsJxa1e45_init_da8c8 : List Cond := .code yJxa1e45_init_da8c8 cJxa1e45_init_da8c8 1 none :: ([.methodLink RJxa1e45 1 objectInit, .instanceMethod objectInit, .code objectInit ⟨#[0xb1]⟩ 1 none])
def wsJxc12de_init_da8c8 : List Cond := .code yJxc12de_init_da8c8 cJxc12de_init_da8c8 1 none :: ([.fieldLink RJxc12de 7 "java/util/AbstractList" "modCount" "I", .methodLink RJxc12de 1 yJxa1e45_init_da8c8, .instanceMethod yJxa1e45_init_da8c8, .initialized RJxa1e45, .code yJxa1e45_init_da8c8 cJxa1e45_init_da8c8 1 none, .methodLink RJxa1e45 1 objectInit, .instanceMethod objectInit, .code objectInit ⟨#[0xb1]⟩ 1 none] ++ wsJx4a65c0)
def wsJx4a65c_init_da8c8 : List Cond := .code yJx4a65c_init_da8c8 cJx4a65c_init_da8c8 1 none :: ([.fieldLink RJx4a65c 39 "java/util/ArrayList" "DEFAULTCAPACITY_EMPTY_ELEMENTDATA" "[Ljava/lang/Object;", .fieldLink RJx4a65c 9 "java/util/ArrayList" "elementData" "[Ljava/lang/Object;", .methodLink RJx4a65c 1 yJxc12de_init_da8c8, .instanceMethod yJxc12de_init_da8c8, .initialized RJxc12de, .code yJxc12de_init_da8c8 cJxc12de_init_da8c8 1 none, .fieldLink RJxc12de 7 "java/util/AbstractList" "modCount" "I", .methodLink RJxc12de 1 yJxa1e45_init_da8c8, .instanceMethod yJxa1e45_init_da8c8, .initialized RJxa1e45, .code yJxa1e45_init_da8c8 cJxa1e45_init_da8c8 1 none, .methodLink RJxa1e45 1 objectInit, .instanceMethod objectInit, .code objectInit ⟨#[0xb1]⟩ 1 none] ++ wsJx4a65c0)
def wsX3_init_r1 : List Cond := [Cond.methodLink RX3 3 objectInit, Cond.instanceMethod objectInit, Cond.code objectInit ⟨#[0xb1]⟩ 1 none, Cond.classLink RX3 9 RX2, Cond.fieldLink RX3 11 "ClauseShop" "newest" "[LClauseShop$Version;", Cond.arrayClass .int, Cond.fieldLink RX3 15 "ClauseShop" "needs" "[I", Cond.fieldLink RX3 19 "ClauseShop" "forbids" "[I", Cond.classLink RX3 22 RJx4a65c, Cond.instantiable RJx4a65c 3, Cond.initialized RJx4a65c, Cond.fieldLink RX3 25 "ClauseShop" "contracts" "Ljava/util/ArrayList;", Cond.fieldLink RX3 29 "ClauseShop" "dutyList" "Ljava/util/ArrayList;", Cond.fieldLink RX3 32 "ClauseShop" "today" "I", Cond.methodLink RX3 24 yJx4a65c_init_da8c8, Cond.instanceMethod yJx4a65c_init_da8c8, Cond.code yJx4a65c_init_da8c8 cJx4a65c_init_da8c8 1 none, Cond.fieldLink RJx4a65c 39 "java/util/ArrayList" "DEFAULTCAPACITY_EMPTY_ELEMENTDATA" "[Ljava/lang/Object;", Cond.fieldLink RJx4a65c 9 "java/util/ArrayList" "elementData" "[Ljava/lang/Object;", Cond.methodLink RJx4a65c 1 yJxc12de_init_da8c8, Cond.instanceMethod yJxc12de_init_da8c8, Cond.initialized RJxc12de, Cond.code yJxc12de_init_da8c8 cJxc12de_init_da8c8 1 none, Cond.fieldLink RJxc12de 7 "java/util/AbstractList" "modCount" "I"]
def wsX3_init_r2 : List Cond := [Cond.methodLink RJxc12de 1 yJxa1e45_init_da8c8, Cond.instanceMethod yJxa1e45_init_da8c8, Cond.initialized RJxa1e45, Cond.code yJxa1e45_init_da8c8 cJxa1e45_init_da8c8 1 none, Cond.methodLink RJxa1e45 1 objectInit]
def wsX3_init : List Cond := .code yX3_init cX3_init 1 none :: ((wsX3_init_r1 ++ wsX3_init_r2) ++ wsX30 ++ wsJx4a65c0)
def wsX3_isWithin : List Cond := .code yX3_isWithin cX3_isWithin 3 (some .boolean) :: ([])
def wsX3_checkClause : List Cond := .code yX3_checkClause cX3_checkClause 1 none :: ([.classLink RX3 47 "java/lang/IllegalArgumentException", .initialized "java/lang/IllegalArgumentException", .methodLink RX3 43 yX3_isWithin, .static yX3_isWithin, .initialized RX3, .code yX3_isWithin cX3_isWithin 3 (some .boolean)] ++ (vx_atS RX3 51 "java/lang/IllegalArgumentException" ["java/lang/RuntimeException", "java/lang/Exception"]).filter goodWord)
def wsX3_checkSide : List Cond := .code yX3_checkSide cX3_checkSide 1 none :: ([.classLink RX3 47 "java/lang/IllegalArgumentException", .initialized "java/lang/IllegalArgumentException", .methodLink RX3 43 yX3_isWithin, .static yX3_isWithin, .initialized RX3, .code yX3_isWithin cX3_isWithin 3 (some .boolean)] ++ (vx_atS RX3 51 "java/lang/IllegalArgumentException" ["java/lang/RuntimeException", "java/lang/Exception"]).filter goodWord)
def wsX3_numberOf : List Cond := .code yX3_numberOf cX3_numberOf 1 (some .int) :: ([.fieldLink RX3 215 "ClauseShop$Version" "number" "I"] ++ wsX20)
def wsX3_newestNumber : List Cond := .code yX3_newestNumber cX3_newestNumber 2 (some .int) :: ([.fieldLink RX3 11 "ClauseShop" "newest" "[LClauseShop$Version;", .methodLink RX3 218 yX3_numberOf, .static yX3_numberOf, .initialized RX3, .code yX3_numberOf cX3_numberOf 1 (some .int), .fieldLink RX3 215 "ClauseShop$Version" "number" "I"] ++ wsX30 ++ wsX20)
def wsX3_issue_r1 : List Cond := [Cond.classLink RX3 47 "java/lang/IllegalArgumentException", Cond.initialized "java/lang/IllegalArgumentException", Cond.classLink RX3 58 "java/lang/IllegalStateException", Cond.initialized "java/lang/IllegalStateException", Cond.fieldLink RX3 11 "ClauseShop" "newest" "[LClauseShop$Version;", Cond.classLink RX3 9 RX2, Cond.instantiable RX2 5, Cond.initialized RX2, Cond.methodLink RX3 36 yX3_checkClause, Cond.static yX3_checkClause, Cond.initialized RX3, Cond.code yX3_checkClause cX3_checkClause 1 none, Cond.methodLink RX3 43 yX3_isWithin, Cond.static yX3_isWithin, Cond.code yX3_isWithin cX3_isWithin 3 (some .boolean), Cond.methodLink RX3 40 yX3_checkSide, Cond.static yX3_checkSide, Cond.code yX3_checkSide cX3_checkSide 1 none, Cond.methodLink RX3 54 yX3_newestNumber, Cond.instanceMethod yX3_newestNumber, Cond.selects RX3 yX3_newestNumber yX3_newestNumber, Cond.code yX3_newestNumber cX3_newestNumber 2 (some .int), Cond.methodLink RX3 218 yX3_numberOf, Cond.static yX3_numberOf]
def wsX3_issue_r2 : List Cond := [Cond.code yX3_numberOf cX3_numberOf 1 (some .int), Cond.fieldLink RX3 215 "ClauseShop$Version" "number" "I", Cond.methodLink RX3 63 yX2_init, Cond.instanceMethod yX2_init, Cond.code yX2_init cX2_init 6 none, Cond.methodLink RX2 1 objectInit, Cond.instanceMethod objectInit, Cond.code objectInit ⟨#[0xb1]⟩ 1 none, Cond.fieldLink RX2 7 "ClauseShop$Version" "number" "I", Cond.fieldLink RX2 13 "ClauseShop$Version" "obligor" "I", Cond.fieldLink RX2 16 "ClauseShop$Version" "days" "I", Cond.fieldLink RX2 19 "ClauseShop$Version" "cure" "I", Cond.fieldLink RX2 22 "ClauseShop$Version" "penalty" "I"]
def wsX3_issue : List Cond := .code yX3_issue cX3_issue 7 (some .int) :: ((wsX3_issue_r1 ++ wsX3_issue_r2) ++ wsX30 ++ wsX20 ++ (vx_atS RX3 51 "java/lang/IllegalArgumentException" ["java/lang/RuntimeException", "java/lang/Exception"]).filter goodWord ++ (vx_atS RX3 62 "java/lang/IllegalStateException" ["java/lang/RuntimeException", "java/lang/Exception"]).filter goodWord)
def wsX3_checkOtherClauses : List Cond := .code yX3_checkOtherClauses cX3_checkOtherClauses 2 none :: ([.classLink RX3 47 "java/lang/IllegalArgumentException", .initialized "java/lang/IllegalArgumentException", .methodLink RX3 43 yX3_isWithin, .static yX3_isWithin, .initialized RX3, .code yX3_isWithin cX3_isWithin 3 (some .boolean)] ++ (vx_atS RX3 51 "java/lang/IllegalArgumentException" ["java/lang/RuntimeException", "java/lang/Exception"]).filter goodWord)
def wsX3_relate : List Cond := .code yX3_relate cX3_relate 4 none :: ([.fieldLink RX3 15 "ClauseShop" "needs" "[I", .fieldLink RX3 19 "ClauseShop" "forbids" "[I", .methodLink RX3 36 yX3_checkClause, .static yX3_checkClause, .initialized RX3, .code yX3_checkClause cX3_checkClause 1 none, .classLink RX3 47 "java/lang/IllegalArgumentException", .initialized "java/lang/IllegalArgumentException", .methodLink RX3 43 yX3_isWithin, .static yX3_isWithin, .code yX3_isWithin cX3_isWithin 3 (some .boolean), .methodLink RX3 66 yX3_checkOtherClauses, .static yX3_checkOtherClauses, .code yX3_checkOtherClauses cX3_checkOtherClauses 2 none] ++ wsX30 ++ (vx_atS RX3 51 "java/lang/IllegalArgumentException" ["java/lang/RuntimeException", "java/lang/Exception"]).filter goodWord)
def wsX3_latest : List Cond := .code yX3_latest cX3_latest 2 (some .int) :: ([.methodLink RX3 36 yX3_checkClause, .static yX3_checkClause, .initialized RX3, .code yX3_checkClause cX3_checkClause 1 none, .classLink RX3 47 "java/lang/IllegalArgumentException", .initialized "java/lang/IllegalArgumentException", .methodLink RX3 43 yX3_isWithin, .static yX3_isWithin, .code yX3_isWithin cX3_isWithin 3 (some .boolean), .methodLink RX3 54 yX3_newestNumber, .instanceMethod yX3_newestNumber, .selects RX3 yX3_newestNumber yX3_newestNumber, .code yX3_newestNumber cX3_newestNumber 2 (some .int), .fieldLink RX3 11 "ClauseShop" "newest" "[LClauseShop$Version;", .methodLink RX3 218 yX3_numberOf, .static yX3_numberOf, .code yX3_numberOf cX3_numberOf 1 (some .int), .fieldLink RX3 215 "ClauseShop$Version" "number" "I"] ++ wsX30 ++ wsX20 ++ (vx_atS RX3 51 "java/lang/IllegalArgumentException" ["java/lang/RuntimeException", "java/lang/Exception"]).filter goodWord)
def wsJx4a65c_size_8abf5 : List Cond := .code yJx4a65c_size_8abf5 cJx4a65c_size_8abf5 1 (some .int) :: ([.fieldLink RJx4a65c 48 "java/util/ArrayList" "size" "I"] ++ wsJx4a65c0)
def wsJ8_hugeLength_7cf53 : List Cond := .code yJ8_hugeLength_7cf53 cJ8_hugeLength_7cf53 3 (some .int) :: ([.constant RJ8 200 (2147483639)])
def wsJ8_newLength_cabcc : List Cond := .code yJ8_newLength_cabcc cJ8_newLength_cabcc 4 (some .int) :: ([.methodLink RJ8 194 Lib.Math.max.name, .static Lib.Math.max.name, .initialized "java/lang/Math", .code Lib.Math.max.name Lib.Math.max.code 2 (some .int), .constant RJ8 200 (2147483639), .methodLink RJ8 201 yJ8_hugeLength_7cf53, .static yJ8_hugeLength_7cf53, .initialized RJ8, .code yJ8_hugeLength_7cf53 cJ8_hugeLength_7cf53 3 (some .int)])
def wsJ7_copyOf_6403c : List Cond := .code yJ7_copyOf_6403c cJ7_copyOf_6403c 4 (some (.array (.object "java/lang/Object"))) :: ([.classLink RJ7 110 "[Ljava/lang/Object;", .classLink RJ7 2 "java/lang/Object", .methodLink RJ7 304 Lib.Math.min.name, .static Lib.Math.min.name, .initialized "java/lang/Math", .code Lib.Math.min.name Lib.Math.min.code 2 (some .int), .methodLink RJ7 150 arraycopyName, .native arraycopyName, .static arraycopyName, .initialized "java/lang/System"])
def wsJ7_copyOf_1904c : List Cond := .code yJ7_copyOf_1904c cJ7_copyOf_1904c 2 (some (.array (.object "java/lang/Object"))) :: ([.methodLink RJ7 86 ⟨"java/lang/Object", "getClass", "()Ljava/lang/Class;"⟩, .selects "[Ljava/lang/Object;" ⟨"java/lang/Object", "getClass", "()Ljava/lang/Class;"⟩ ⟨"java/lang/Object", "getClass", "()Ljava/lang/Class;"⟩, .instanceMethod ⟨"java/lang/Object", "getClass", "()Ljava/lang/Class;"⟩, .native ⟨"java/lang/Object", "getClass", "()Ljava/lang/Class;"⟩, .methodLink RJ7 300 yJ7_copyOf_6403c, .static yJ7_copyOf_6403c, .initialized RJ7, .code yJ7_copyOf_6403c cJ7_copyOf_6403c 4 (some (.array (.object "java/lang/Object"))), .classLink RJ7 110 "[Ljava/lang/Object;", .classLink RJ7 2 "java/lang/Object", .methodLink RJ7 304 Lib.Math.min.name, .static Lib.Math.min.name, .initialized "java/lang/Math", .code Lib.Math.min.name Lib.Math.min.code 2 (some .int), .methodLink RJ7 150 arraycopyName, .native arraycopyName, .static arraycopyName, .initialized "java/lang/System"])
def wsJx4a65c_grow_92f84_r1 : List Cond := [Cond.fieldLink RJx4a65c 9 "java/util/ArrayList" "elementData" "[Ljava/lang/Object;", Cond.fieldLink RJx4a65c 39 "java/util/ArrayList" "DEFAULTCAPACITY_EMPTY_ELEMENTDATA" "[Ljava/lang/Object;", Cond.methodLink RJx4a65c 79 Lib.Math.max.name, Cond.static Lib.Math.max.name, Cond.initialized "java/lang/Math", Cond.code Lib.Math.max.name Lib.Math.max.code 2 (some .int), Cond.classLink RJx4a65c 7 "java/lang/Object", Cond.methodLink RJx4a65c 73 yJ8_newLength_cabcc, Cond.static yJ8_newLength_cabcc, Cond.initialized RJ8, Cond.code yJ8_newLength_cabcc cJ8_newLength_cabcc 4 (some .int), Cond.methodLink RJ8 194 Lib.Math.max.name, Cond.constant RJ8 200 (2147483639), Cond.methodLink RJ8 201 yJ8_hugeLength_7cf53, Cond.static yJ8_hugeLength_7cf53, Cond.code yJ8_hugeLength_7cf53 cJ8_hugeLength_7cf53 3 (some .int), Cond.methodLink RJx4a65c 66 yJ7_copyOf_1904c, Cond.static yJ7_copyOf_1904c, Cond.initialized RJ7, Cond.code yJ7_copyOf_1904c cJ7_copyOf_1904c 2 (some (.array (.object "java/lang/Object"))), Cond.methodLink RJ7 86 ⟨"java/lang/Object", "getClass", "()Ljava/lang/Class;"⟩, Cond.selects "[Ljava/lang/Object;" ⟨"java/lang/Object", "getClass", "()Ljava/lang/Class;"⟩ ⟨"java/lang/Object", "getClass", "()Ljava/lang/Class;"⟩, Cond.instanceMethod ⟨"java/lang/Object", "getClass", "()Ljava/lang/Class;"⟩, Cond.native ⟨"java/lang/Object", "getClass", "()Ljava/lang/Class;"⟩]
def wsJx4a65c_grow_92f84_r2 : List Cond := [Cond.methodLink RJ7 300 yJ7_copyOf_6403c, Cond.static yJ7_copyOf_6403c, Cond.code yJ7_copyOf_6403c cJ7_copyOf_6403c 4 (some (.array (.object "java/lang/Object"))), Cond.classLink RJ7 110 "[Ljava/lang/Object;", Cond.classLink RJ7 2 "java/lang/Object", Cond.methodLink RJ7 304 Lib.Math.min.name, Cond.static Lib.Math.min.name, Cond.code Lib.Math.min.name Lib.Math.min.code 2 (some .int), Cond.methodLink RJ7 150 arraycopyName, Cond.native arraycopyName, Cond.static arraycopyName, Cond.initialized "java/lang/System"]
def wsJx4a65c_grow_92f84 : List Cond := .code yJx4a65c_grow_92f84 cJx4a65c_grow_92f84 4 (some (.array (.object "java/lang/Object"))) :: ((wsJx4a65c_grow_92f84_r1 ++ wsJx4a65c_grow_92f84_r2) ++ wsJx4a65c0)
def wsJx4a65c_grow_d5877_r1 : List Cond := [Cond.fieldLink RJx4a65c 48 "java/util/ArrayList" "size" "I", Cond.methodLink RJx4a65c 69 yJx4a65c_grow_92f84, Cond.instanceMethod yJx4a65c_grow_92f84, Cond.selects RJx4a65c yJx4a65c_grow_92f84 yJx4a65c_grow_92f84, Cond.initialized RJx4a65c, Cond.code yJx4a65c_grow_92f84 cJx4a65c_grow_92f84 4 (some (.array (.object "java/lang/Object"))), Cond.fieldLink RJx4a65c 9 "java/util/ArrayList" "elementData" "[Ljava/lang/Object;", Cond.fieldLink RJx4a65c 39 "java/util/ArrayList" "DEFAULTCAPACITY_EMPTY_ELEMENTDATA" "[Ljava/lang/Object;", Cond.methodLink RJx4a65c 79 Lib.Math.max.name, Cond.static Lib.Math.max.name, Cond.initialized "java/lang/Math", Cond.code Lib.Math.max.name Lib.Math.max.code 2 (some .int), Cond.classLink RJx4a65c 7 "java/lang/Object", Cond.methodLink RJx4a65c 73 yJ8_newLength_cabcc, Cond.static yJ8_newLength_cabcc, Cond.initialized RJ8, Cond.code yJ8_newLength_cabcc cJ8_newLength_cabcc 4 (some .int), Cond.methodLink RJ8 194 Lib.Math.max.name, Cond.constant RJ8 200 (2147483639), Cond.methodLink RJ8 201 yJ8_hugeLength_7cf53, Cond.static yJ8_hugeLength_7cf53, Cond.code yJ8_hugeLength_7cf53 cJ8_hugeLength_7cf53 3 (some .int), Cond.methodLink RJx4a65c 66 yJ7_copyOf_1904c, Cond.static yJ7_copyOf_1904c]
def wsJx4a65c_grow_d5877_r2 : List Cond := [Cond.initialized RJ7, Cond.code yJ7_copyOf_1904c cJ7_copyOf_1904c 2 (some (.array (.object "java/lang/Object"))), Cond.methodLink RJ7 86 ⟨"java/lang/Object", "getClass", "()Ljava/lang/Class;"⟩, Cond.selects "[Ljava/lang/Object;" ⟨"java/lang/Object", "getClass", "()Ljava/lang/Class;"⟩ ⟨"java/lang/Object", "getClass", "()Ljava/lang/Class;"⟩, Cond.instanceMethod ⟨"java/lang/Object", "getClass", "()Ljava/lang/Class;"⟩, Cond.native ⟨"java/lang/Object", "getClass", "()Ljava/lang/Class;"⟩, Cond.methodLink RJ7 300 yJ7_copyOf_6403c, Cond.static yJ7_copyOf_6403c, Cond.code yJ7_copyOf_6403c cJ7_copyOf_6403c 4 (some (.array (.object "java/lang/Object"))), Cond.classLink RJ7 110 "[Ljava/lang/Object;", Cond.classLink RJ7 2 "java/lang/Object", Cond.methodLink RJ7 304 Lib.Math.min.name, Cond.static Lib.Math.min.name, Cond.code Lib.Math.min.name Lib.Math.min.code 2 (some .int), Cond.methodLink RJ7 150 arraycopyName, Cond.native arraycopyName, Cond.static arraycopyName, Cond.initialized "java/lang/System"]
def wsJx4a65c_grow_d5877 : List Cond := .code yJx4a65c_grow_d5877 cJx4a65c_grow_d5877 1 (some (.array (.object "java/lang/Object"))) :: ((wsJx4a65c_grow_d5877_r1 ++ wsJx4a65c_grow_d5877_r2) ++ wsJx4a65c0)
def wsJx4a65c_add_72be8_r1 : List Cond := [Cond.fieldLink RJx4a65c 48 "java/util/ArrayList" "size" "I", Cond.methodLink RJx4a65c 129 yJx4a65c_grow_d5877, Cond.instanceMethod yJx4a65c_grow_d5877, Cond.selects RJx4a65c yJx4a65c_grow_d5877 yJx4a65c_grow_d5877, Cond.initialized RJx4a65c, Cond.code yJx4a65c_grow_d5877 cJx4a65c_grow_d5877 1 (some (.array (.object "java/lang/Object"))), Cond.methodLink RJx4a65c 69 yJx4a65c_grow_92f84, Cond.instanceMethod yJx4a65c_grow_92f84, Cond.selects RJx4a65c yJx4a65c_grow_92f84 yJx4a65c_grow_92f84, Cond.code yJx4a65c_grow_92f84 cJx4a65c_grow_92f84 4 (some (.array (.object "java/lang/Object"))), Cond.fieldLink RJx4a65c 9 "java/util/ArrayList" "elementData" "[Ljava/lang/Object;", Cond.fieldLink RJx4a65c 39 "java/util/ArrayList" "DEFAULTCAPACITY_EMPTY_ELEMENTDATA" "[Ljava/lang/Object;", Cond.methodLink RJx4a65c 79 Lib.Math.max.name, Cond.static Lib.Math.max.name, Cond.initialized "java/lang/Math", Cond.code Lib.Math.max.name Lib.Math.max.code 2 (some .int), Cond.classLink RJx4a65c 7 "java/lang/Object", Cond.methodLink RJx4a65c 73 yJ8_newLength_cabcc, Cond.static yJ8_newLength_cabcc, Cond.initialized RJ8, Cond.code yJ8_newLength_cabcc cJ8_newLength_cabcc 4 (some .int), Cond.methodLink RJ8 194 Lib.Math.max.name, Cond.constant RJ8 200 (2147483639), Cond.methodLink RJ8 201 yJ8_hugeLength_7cf53]
def wsJx4a65c_add_72be8_r2 : List Cond := [Cond.static yJ8_hugeLength_7cf53, Cond.code yJ8_hugeLength_7cf53 cJ8_hugeLength_7cf53 3 (some .int), Cond.methodLink RJx4a65c 66 yJ7_copyOf_1904c, Cond.static yJ7_copyOf_1904c, Cond.initialized RJ7, Cond.code yJ7_copyOf_1904c cJ7_copyOf_1904c 2 (some (.array (.object "java/lang/Object"))), Cond.methodLink RJ7 86 ⟨"java/lang/Object", "getClass", "()Ljava/lang/Class;"⟩, Cond.selects "[Ljava/lang/Object;" ⟨"java/lang/Object", "getClass", "()Ljava/lang/Class;"⟩ ⟨"java/lang/Object", "getClass", "()Ljava/lang/Class;"⟩, Cond.instanceMethod ⟨"java/lang/Object", "getClass", "()Ljava/lang/Class;"⟩, Cond.native ⟨"java/lang/Object", "getClass", "()Ljava/lang/Class;"⟩, Cond.methodLink RJ7 300 yJ7_copyOf_6403c, Cond.static yJ7_copyOf_6403c, Cond.code yJ7_copyOf_6403c cJ7_copyOf_6403c 4 (some (.array (.object "java/lang/Object"))), Cond.classLink RJ7 110 "[Ljava/lang/Object;", Cond.classLink RJ7 2 "java/lang/Object", Cond.methodLink RJ7 304 Lib.Math.min.name, Cond.static Lib.Math.min.name, Cond.code Lib.Math.min.name Lib.Math.min.code 2 (some .int), Cond.methodLink RJ7 150 arraycopyName, Cond.native arraycopyName, Cond.static arraycopyName, Cond.initialized "java/lang/System"]
def wsJx4a65c_add_72be8 : List Cond := .code yJx4a65c_add_72be8 cJx4a65c_add_72be8 4 none :: ((wsJx4a65c_add_72be8_r1 ++ wsJx4a65c_add_72be8_r2) ++ wsJx4a65c0)
def wsJx4a65c_add_9ea2d_r1 : List Cond := [Cond.fieldLink RJx4a65c 63 "java/util/ArrayList" "modCount" "I", Cond.sameField "java/util/ArrayList" "java/util/AbstractList" "modCount" "I", Cond.fieldLink RJx4a65c 9 "java/util/ArrayList" "elementData" "[Ljava/lang/Object;", Cond.fieldLink RJx4a65c 48 "java/util/ArrayList" "size" "I", Cond.methodLink RJx4a65c 131 yJx4a65c_add_72be8, Cond.instanceMethod yJx4a65c_add_72be8, Cond.selects RJx4a65c yJx4a65c_add_72be8 yJx4a65c_add_72be8, Cond.initialized RJx4a65c, Cond.code yJx4a65c_add_72be8 cJx4a65c_add_72be8 4 none, Cond.methodLink RJx4a65c 129 yJx4a65c_grow_d5877, Cond.instanceMethod yJx4a65c_grow_d5877, Cond.selects RJx4a65c yJx4a65c_grow_d5877 yJx4a65c_grow_d5877, Cond.code yJx4a65c_grow_d5877 cJx4a65c_grow_d5877 1 (some (.array (.object "java/lang/Object"))), Cond.methodLink RJx4a65c 69 yJx4a65c_grow_92f84, Cond.instanceMethod yJx4a65c_grow_92f84, Cond.selects RJx4a65c yJx4a65c_grow_92f84 yJx4a65c_grow_92f84, Cond.code yJx4a65c_grow_92f84 cJx4a65c_grow_92f84 4 (some (.array (.object "java/lang/Object"))), Cond.fieldLink RJx4a65c 39 "java/util/ArrayList" "DEFAULTCAPACITY_EMPTY_ELEMENTDATA" "[Ljava/lang/Object;", Cond.methodLink RJx4a65c 79 Lib.Math.max.name, Cond.static Lib.Math.max.name, Cond.initialized "java/lang/Math", Cond.code Lib.Math.max.name Lib.Math.max.code 2 (some .int), Cond.classLink RJx4a65c 7 "java/lang/Object", Cond.methodLink RJx4a65c 73 yJ8_newLength_cabcc]
def wsJx4a65c_add_9ea2d_r2 : List Cond := [Cond.static yJ8_newLength_cabcc, Cond.initialized RJ8, Cond.code yJ8_newLength_cabcc cJ8_newLength_cabcc 4 (some .int), Cond.methodLink RJ8 194 Lib.Math.max.name, Cond.constant RJ8 200 (2147483639), Cond.methodLink RJ8 201 yJ8_hugeLength_7cf53, Cond.static yJ8_hugeLength_7cf53, Cond.code yJ8_hugeLength_7cf53 cJ8_hugeLength_7cf53 3 (some .int), Cond.methodLink RJx4a65c 66 yJ7_copyOf_1904c, Cond.static yJ7_copyOf_1904c, Cond.initialized RJ7, Cond.code yJ7_copyOf_1904c cJ7_copyOf_1904c 2 (some (.array (.object "java/lang/Object"))), Cond.methodLink RJ7 86 ⟨"java/lang/Object", "getClass", "()Ljava/lang/Class;"⟩, Cond.selects "[Ljava/lang/Object;" ⟨"java/lang/Object", "getClass", "()Ljava/lang/Class;"⟩ ⟨"java/lang/Object", "getClass", "()Ljava/lang/Class;"⟩, Cond.instanceMethod ⟨"java/lang/Object", "getClass", "()Ljava/lang/Class;"⟩, Cond.native ⟨"java/lang/Object", "getClass", "()Ljava/lang/Class;"⟩, Cond.methodLink RJ7 300 yJ7_copyOf_6403c, Cond.static yJ7_copyOf_6403c, Cond.code yJ7_copyOf_6403c cJ7_copyOf_6403c 4 (some (.array (.object "java/lang/Object"))), Cond.classLink RJ7 110 "[Ljava/lang/Object;", Cond.classLink RJ7 2 "java/lang/Object", Cond.methodLink RJ7 304 Lib.Math.min.name, Cond.static Lib.Math.min.name, Cond.code Lib.Math.min.name Lib.Math.min.code 2 (some .int)]
def wsJx4a65c_add_9ea2d_r3 : List Cond := [Cond.methodLink RJ7 150 arraycopyName, Cond.native arraycopyName, Cond.static arraycopyName, Cond.initialized "java/lang/System"]
def wsJx4a65c_add_9ea2d : List Cond := .code yJx4a65c_add_9ea2d cJx4a65c_add_9ea2d 2 (some .boolean) :: ((wsJx4a65c_add_9ea2d_r1 ++ (wsJx4a65c_add_9ea2d_r2 ++ wsJx4a65c_add_9ea2d_r3)) ++ wsJx4a65c0)
def wsX3_begin_r1 : List Cond := [Cond.classLink RX3 58 "java/lang/IllegalStateException", Cond.initialized "java/lang/IllegalStateException", Cond.fieldLink RX3 25 "ClauseShop" "contracts" "Ljava/util/ArrayList;", Cond.classLink RX3 76 RX0, Cond.instantiable RX0 5, Cond.initialized RX0, Cond.methodLink RX3 70 yJx4a65c_size_8abf5, Cond.instanceMethod yJx4a65c_size_8abf5, Cond.selects RJx4a65c yJx4a65c_size_8abf5 yJx4a65c_size_8abf5, Cond.initialized RJx4a65c, Cond.code yJx4a65c_size_8abf5 cJx4a65c_size_8abf5 1 (some .int), Cond.fieldLink RJx4a65c 48 "java/util/ArrayList" "size" "I", Cond.instanceMethod yX0_init, Cond.code yX0_init cX0_init 1 none, Cond.methodLink RX0 3 objectInit, Cond.instanceMethod objectInit, Cond.code objectInit ⟨#[0xb1]⟩ 1 none, Cond.classLink RX0 9 RX2, Cond.fieldLink RX0 11 "ClauseShop$Contract" "items" "[LClauseShop$Version;", Cond.classLink RX0 17 "[[I", Cond.arrayClass .int, Cond.fieldLink RX0 19 "ClauseShop$Contract" "marks" "[[I", Cond.arrayClass .boolean, Cond.fieldLink RX0 22 "ClauseShop$Contract" "signed" "[Z"]
def wsX3_begin_r2 : List Cond := [Cond.fieldLink RX0 26 "ClauseShop$Contract" "breaches" "[I", Cond.fieldLink RX0 30 "ClauseShop$Contract" "penalties" "[I", Cond.methodLink RX3 79 yJx4a65c_add_9ea2d, Cond.instanceMethod yJx4a65c_add_9ea2d, Cond.selects RJx4a65c yJx4a65c_add_9ea2d yJx4a65c_add_9ea2d, Cond.code yJx4a65c_add_9ea2d cJx4a65c_add_9ea2d 2 (some .boolean), Cond.fieldLink RJx4a65c 63 "java/util/ArrayList" "modCount" "I", Cond.sameField "java/util/ArrayList" "java/util/AbstractList" "modCount" "I", Cond.fieldLink RJx4a65c 9 "java/util/ArrayList" "elementData" "[Ljava/lang/Object;", Cond.methodLink RJx4a65c 131 yJx4a65c_add_72be8, Cond.instanceMethod yJx4a65c_add_72be8, Cond.selects RJx4a65c yJx4a65c_add_72be8 yJx4a65c_add_72be8, Cond.code yJx4a65c_add_72be8 cJx4a65c_add_72be8 4 none, Cond.methodLink RJx4a65c 129 yJx4a65c_grow_d5877, Cond.instanceMethod yJx4a65c_grow_d5877, Cond.selects RJx4a65c yJx4a65c_grow_d5877 yJx4a65c_grow_d5877, Cond.code yJx4a65c_grow_d5877 cJx4a65c_grow_d5877 1 (some (.array (.object "java/lang/Object"))), Cond.methodLink RJx4a65c 69 yJx4a65c_grow_92f84, Cond.instanceMethod yJx4a65c_grow_92f84, Cond.selects RJx4a65c yJx4a65c_grow_92f84 yJx4a65c_grow_92f84, Cond.code yJx4a65c_grow_92f84 cJx4a65c_grow_92f84 4 (some (.array (.object "java/lang/Object"))), Cond.fieldLink RJx4a65c 39 "java/util/ArrayList" "DEFAULTCAPACITY_EMPTY_ELEMENTDATA" "[Ljava/lang/Object;", Cond.methodLink RJx4a65c 79 Lib.Math.max.name, Cond.static Lib.Math.max.name]
def wsX3_begin_r3 : List Cond := [Cond.initialized "java/lang/Math", Cond.code Lib.Math.max.name Lib.Math.max.code 2 (some .int), Cond.classLink RJx4a65c 7 "java/lang/Object", Cond.methodLink RJx4a65c 73 yJ8_newLength_cabcc, Cond.static yJ8_newLength_cabcc, Cond.initialized RJ8, Cond.code yJ8_newLength_cabcc cJ8_newLength_cabcc 4 (some .int), Cond.methodLink RJ8 194 Lib.Math.max.name, Cond.constant RJ8 200 (2147483639), Cond.methodLink RJ8 201 yJ8_hugeLength_7cf53, Cond.static yJ8_hugeLength_7cf53, Cond.code yJ8_hugeLength_7cf53 cJ8_hugeLength_7cf53 3 (some .int), Cond.methodLink RJx4a65c 66 yJ7_copyOf_1904c, Cond.static yJ7_copyOf_1904c, Cond.initialized RJ7, Cond.code yJ7_copyOf_1904c cJ7_copyOf_1904c 2 (some (.array (.object "java/lang/Object"))), Cond.methodLink RJ7 86 ⟨"java/lang/Object", "getClass", "()Ljava/lang/Class;"⟩, Cond.selects "[Ljava/lang/Object;" ⟨"java/lang/Object", "getClass", "()Ljava/lang/Class;"⟩ ⟨"java/lang/Object", "getClass", "()Ljava/lang/Class;"⟩, Cond.instanceMethod ⟨"java/lang/Object", "getClass", "()Ljava/lang/Class;"⟩, Cond.native ⟨"java/lang/Object", "getClass", "()Ljava/lang/Class;"⟩, Cond.methodLink RJ7 300 yJ7_copyOf_6403c, Cond.static yJ7_copyOf_6403c, Cond.code yJ7_copyOf_6403c cJ7_copyOf_6403c 4 (some (.array (.object "java/lang/Object"))), Cond.classLink RJ7 110 "[Ljava/lang/Object;"]
def wsX3_begin_r4 : List Cond := [Cond.classLink RJ7 2 "java/lang/Object", Cond.methodLink RJ7 304 Lib.Math.min.name, Cond.static Lib.Math.min.name, Cond.code Lib.Math.min.name Lib.Math.min.code 2 (some .int), Cond.methodLink RJ7 150 arraycopyName, Cond.native arraycopyName, Cond.static arraycopyName, Cond.initialized "java/lang/System"]
def wsX3_begin : List Cond := .code yX3_begin cX3_begin 2 (some .int) :: ((wsX3_begin_r1 ++ (wsX3_begin_r2 ++ (wsX3_begin_r3 ++ wsX3_begin_r4))) ++ wsX30 ++ wsX00 ++ wsJx4a65c0 ++ (vx_atS RX3 62 "java/lang/IllegalStateException" ["java/lang/RuntimeException", "java/lang/Exception"]).filter goodWord)
def wsJ3_checkIndex_8e157 : List Cond := .code yJ3_checkIndex_8e157 cJ3_checkIndex_8e157 3 (some .int) :: ([])
def wsJ15_checkIndex_7cf53 : List Cond := .code yJ15_checkIndex_7cf53 cJ15_checkIndex_7cf53 2 (some .int) :: ([.methodLink RJ15 105 yJ3_checkIndex_8e157, .static yJ3_checkIndex_8e157, .initialized RJ3, .code yJ3_checkIndex_8e157 cJ3_checkIndex_8e157 3 (some .int)])
def wsJx4a65c_elementData_915e3 : List Cond := .code yJx4a65c_elementData_915e3 cJx4a65c_elementData_915e3 2 (some (.object "java/lang/Object")) :: ([.fieldLink RJx4a65c 9 "java/util/ArrayList" "elementData" "[Ljava/lang/Object;"] ++ wsJx4a65c0)
def wsJx4a65c_get_915e3 : List Cond := .code yJx4a65c_get_915e3 cJx4a65c_get_915e3 2 (some (.object "java/lang/Object")) :: ([.fieldLink RJx4a65c 48 "java/util/ArrayList" "size" "I", .methodLink RJx4a65c 118 yJ15_checkIndex_7cf53, .static yJ15_checkIndex_7cf53, .initialized RJ15, .code yJ15_checkIndex_7cf53 cJ15_checkIndex_7cf53 2 (some .int), .methodLink RJ15 105 yJ3_checkIndex_8e157, .static yJ3_checkIndex_8e157, .initialized RJ3, .code yJ3_checkIndex_8e157 cJ3_checkIndex_8e157 3 (some .int), .methodLink RJx4a65c 123 yJx4a65c_elementData_915e3, .instanceMethod yJx4a65c_elementData_915e3, .selects RJx4a65c yJx4a65c_elementData_915e3 yJx4a65c_elementData_915e3, .initialized RJx4a65c, .code yJx4a65c_elementData_915e3 cJx4a65c_elementData_915e3 2 (some (.object "java/lang/Object")), .fieldLink RJx4a65c 9 "java/util/ArrayList" "elementData" "[Ljava/lang/Object;"] ++ wsJx4a65c0)
def wsX3_contractAt_r1 : List Cond := [Cond.classLink RX3 204 "java/lang/IndexOutOfBoundsException", Cond.initialized "java/lang/IndexOutOfBoundsException", Cond.fieldLink RX3 25 "ClauseShop" "contracts" "Ljava/util/ArrayList;", Cond.classLink RX3 76 "ClauseShop$Contract", Cond.methodLink RX3 70 yJx4a65c_size_8abf5, Cond.instanceMethod yJx4a65c_size_8abf5, Cond.selects RJx4a65c yJx4a65c_size_8abf5 yJx4a65c_size_8abf5, Cond.initialized RJx4a65c, Cond.code yJx4a65c_size_8abf5 cJx4a65c_size_8abf5 1 (some .int), Cond.fieldLink RJx4a65c 48 "java/util/ArrayList" "size" "I", Cond.methodLink RX3 43 yX3_isWithin, Cond.static yX3_isWithin, Cond.initialized RX3, Cond.code yX3_isWithin cX3_isWithin 3 (some .boolean), Cond.methodLink RX3 209 yJx4a65c_get_915e3, Cond.instanceMethod yJx4a65c_get_915e3, Cond.selects RJx4a65c yJx4a65c_get_915e3 yJx4a65c_get_915e3, Cond.code yJx4a65c_get_915e3 cJx4a65c_get_915e3 2 (some (.object "java/lang/Object")), Cond.methodLink RJx4a65c 118 yJ15_checkIndex_7cf53, Cond.static yJ15_checkIndex_7cf53, Cond.initialized RJ15, Cond.code yJ15_checkIndex_7cf53 cJ15_checkIndex_7cf53 2 (some .int), Cond.methodLink RJ15 105 yJ3_checkIndex_8e157, Cond.static yJ3_checkIndex_8e157]
def wsX3_contractAt_r2 : List Cond := [Cond.initialized RJ3, Cond.code yJ3_checkIndex_8e157 cJ3_checkIndex_8e157 3 (some .int), Cond.methodLink RJx4a65c 123 yJx4a65c_elementData_915e3, Cond.instanceMethod yJx4a65c_elementData_915e3, Cond.selects RJx4a65c yJx4a65c_elementData_915e3 yJx4a65c_elementData_915e3, Cond.code yJx4a65c_elementData_915e3 cJx4a65c_elementData_915e3 2 (some (.object "java/lang/Object")), Cond.fieldLink RJx4a65c 9 "java/util/ArrayList" "elementData" "[Ljava/lang/Object;"]
def wsX3_contractAt : List Cond := .code yX3_contractAt cX3_contractAt 2 (some (.object "ClauseShop$Contract")) :: ((wsX3_contractAt_r1 ++ wsX3_contractAt_r2) ++ wsX30 ++ wsJx4a65c0 ++ (vx_atS RX3 208 "java/lang/IndexOutOfBoundsException" ["java/lang/RuntimeException", "java/lang/Exception"]).filter goodWord)
def wsX3_checkDraft : List Cond := .code yX3_checkDraft cX3_checkDraft 1 none :: ([.classLink RX3 58 "java/lang/IllegalStateException", .initialized "java/lang/IllegalStateException", .methodLink RX3 120 yX0_isDraft, .instanceMethod yX0_isDraft, .selects RX0 yX0_isDraft yX0_isDraft, .initialized RX0, .code yX0_isDraft cX0_isDraft 1 (some .boolean), .fieldLink RX0 22 "ClauseShop$Contract" "signed" "[Z"] ++ wsX00 ++ (vx_atS RX3 62 "java/lang/IllegalStateException" ["java/lang/RuntimeException", "java/lang/Exception"]).filter goodWord)
def wsX3_mark_r1 : List Cond := [Cond.classLink RX3 47 "java/lang/IllegalArgumentException", Cond.initialized "java/lang/IllegalArgumentException", Cond.classLink RX3 58 "java/lang/IllegalStateException", Cond.initialized "java/lang/IllegalStateException", Cond.fieldLink RX3 93 "ClauseShop$Contract" "items" "[LClauseShop$Version;", Cond.fieldLink RX3 11 "ClauseShop" "newest" "[LClauseShop$Version;", Cond.fieldLink RX3 102 "ClauseShop$Contract" "marks" "[[I", Cond.methodLink RX3 83 yX3_contractAt, Cond.instanceMethod yX3_contractAt, Cond.selects RX3 yX3_contractAt yX3_contractAt, Cond.initialized RX3, Cond.code yX3_contractAt cX3_contractAt 2 (some (.object "ClauseShop$Contract")), Cond.classLink RX3 204 "java/lang/IndexOutOfBoundsException", Cond.initialized "java/lang/IndexOutOfBoundsException", Cond.fieldLink RX3 25 "ClauseShop" "contracts" "Ljava/util/ArrayList;", Cond.classLink RX3 76 "ClauseShop$Contract", Cond.methodLink RX3 70 yJx4a65c_size_8abf5, Cond.instanceMethod yJx4a65c_size_8abf5, Cond.selects RJx4a65c yJx4a65c_size_8abf5 yJx4a65c_size_8abf5, Cond.initialized RJx4a65c, Cond.code yJx4a65c_size_8abf5 cJx4a65c_size_8abf5 1 (some .int), Cond.fieldLink RJx4a65c 48 "java/util/ArrayList" "size" "I", Cond.methodLink RX3 43 yX3_isWithin, Cond.static yX3_isWithin]
def wsX3_mark_r2 : List Cond := [Cond.code yX3_isWithin cX3_isWithin 3 (some .boolean), Cond.methodLink RX3 209 yJx4a65c_get_915e3, Cond.instanceMethod yJx4a65c_get_915e3, Cond.selects RJx4a65c yJx4a65c_get_915e3 yJx4a65c_get_915e3, Cond.code yJx4a65c_get_915e3 cJx4a65c_get_915e3 2 (some (.object "java/lang/Object")), Cond.methodLink RJx4a65c 118 yJ15_checkIndex_7cf53, Cond.static yJ15_checkIndex_7cf53, Cond.initialized RJ15, Cond.code yJ15_checkIndex_7cf53 cJ15_checkIndex_7cf53 2 (some .int), Cond.methodLink RJ15 105 yJ3_checkIndex_8e157, Cond.static yJ3_checkIndex_8e157, Cond.initialized RJ3, Cond.code yJ3_checkIndex_8e157 cJ3_checkIndex_8e157 3 (some .int), Cond.methodLink RJx4a65c 123 yJx4a65c_elementData_915e3, Cond.instanceMethod yJx4a65c_elementData_915e3, Cond.selects RJx4a65c yJx4a65c_elementData_915e3 yJx4a65c_elementData_915e3, Cond.code yJx4a65c_elementData_915e3 cJx4a65c_elementData_915e3 2 (some (.object "java/lang/Object")), Cond.fieldLink RJx4a65c 9 "java/util/ArrayList" "elementData" "[Ljava/lang/Object;", Cond.methodLink RX3 40 yX3_checkSide, Cond.static yX3_checkSide, Cond.code yX3_checkSide cX3_checkSide 1 none, Cond.methodLink RX3 36 yX3_checkClause, Cond.static yX3_checkClause, Cond.code yX3_checkClause cX3_checkClause 1 none]
def wsX3_mark_r3 : List Cond := [Cond.methodLink RX3 89 yX3_checkDraft, Cond.static yX3_checkDraft, Cond.code yX3_checkDraft cX3_checkDraft 1 none, Cond.methodLink RX3 120 yX0_isDraft, Cond.instanceMethod yX0_isDraft, Cond.selects RX0 yX0_isDraft yX0_isDraft, Cond.initialized RX0, Cond.code yX0_isDraft cX0_isDraft 1 (some .boolean), Cond.fieldLink RX0 22 "ClauseShop$Contract" "signed" "[Z", Cond.methodLink RX3 98 yX0_bringIn, Cond.instanceMethod yX0_bringIn, Cond.selects RX0 yX0_bringIn yX0_bringIn, Cond.code yX0_bringIn cX0_bringIn 4 none, Cond.fieldLink RX0 11 "ClauseShop$Contract" "items" "[LClauseShop$Version;", Cond.fieldLink RX0 19 "ClauseShop$Contract" "marks" "[[I", Cond.methodLink RX0 33 yX0_loseSignatures, Cond.instanceMethod yX0_loseSignatures, Cond.selects RX0 yX0_loseSignatures yX0_loseSignatures, Cond.code yX0_loseSignatures cX0_loseSignatures 1 none, Cond.methodLink RX3 106 yX0_changeMark, Cond.instanceMethod yX0_changeMark, Cond.selects RX0 yX0_changeMark yX0_changeMark, Cond.code yX0_changeMark cX0_changeMark 4 none]
def wsX3_mark : List Cond := .code yX3_mark cX3_mark 7 (some .int) :: ((wsX3_mark_r1 ++ (wsX3_mark_r2 ++ wsX3_mark_r3)) ++ wsX00 ++ wsX30 ++ wsJx4a65c0 ++ (vx_atS RX3 51 "java/lang/IllegalArgumentException" ["java/lang/RuntimeException", "java/lang/Exception"]).filter goodWord ++ (vx_atS RX3 62 "java/lang/IllegalStateException" ["java/lang/RuntimeException", "java/lang/Exception"]).filter goodWord ++ (vx_atS RX3 208 "java/lang/IndexOutOfBoundsException" ["java/lang/RuntimeException", "java/lang/Exception"]).filter goodWord)
def wsX3_itemNumber : List Cond := .code yX3_itemNumber cX3_itemNumber 2 (some .int) :: ([.fieldLink RX3 93 "ClauseShop$Contract" "items" "[LClauseShop$Version;", .methodLink RX3 218 yX3_numberOf, .static yX3_numberOf, .initialized RX3, .code yX3_numberOf cX3_numberOf 1 (some .int), .fieldLink RX3 215 "ClauseShop$Version" "number" "I"] ++ wsX00 ++ wsX20)
def wsX3_hasLaterVersion : List Cond := .code yX3_hasLaterVersion cX3_hasLaterVersion 3 (some .boolean) :: ([.fieldLink RX3 93 "ClauseShop$Contract" "items" "[LClauseShop$Version;", .methodLink RX3 116 yX3_itemNumber, .static yX3_itemNumber, .initialized RX3, .code yX3_itemNumber cX3_itemNumber 2 (some .int), .methodLink RX3 218 yX3_numberOf, .static yX3_numberOf, .code yX3_numberOf cX3_numberOf 1 (some .int), .fieldLink RX3 215 "ClauseShop$Version" "number" "I", .methodLink RX3 54 yX3_newestNumber, .instanceMethod yX3_newestNumber, .selects RX3 yX3_newestNumber yX3_newestNumber, .code yX3_newestNumber cX3_newestNumber 2 (some .int), .fieldLink RX3 11 "ClauseShop" "newest" "[LClauseShop$Version;"] ++ wsX00 ++ wsX20 ++ wsX30)
def wsX3_renew_r1 : List Cond := [Cond.classLink RX3 58 "java/lang/IllegalStateException", Cond.initialized "java/lang/IllegalStateException", Cond.fieldLink RX3 11 "ClauseShop" "newest" "[LClauseShop$Version;", Cond.methodLink RX3 83 yX3_contractAt, Cond.instanceMethod yX3_contractAt, Cond.selects RX3 yX3_contractAt yX3_contractAt, Cond.initialized RX3, Cond.code yX3_contractAt cX3_contractAt 2 (some (.object "ClauseShop$Contract")), Cond.classLink RX3 204 "java/lang/IndexOutOfBoundsException", Cond.initialized "java/lang/IndexOutOfBoundsException", Cond.fieldLink RX3 25 "ClauseShop" "contracts" "Ljava/util/ArrayList;", Cond.classLink RX3 76 "ClauseShop$Contract", Cond.methodLink RX3 70 yJx4a65c_size_8abf5, Cond.instanceMethod yJx4a65c_size_8abf5, Cond.selects RJx4a65c yJx4a65c_size_8abf5 yJx4a65c_size_8abf5, Cond.initialized RJx4a65c, Cond.code yJx4a65c_size_8abf5 cJx4a65c_size_8abf5 1 (some .int), Cond.fieldLink RJx4a65c 48 "java/util/ArrayList" "size" "I", Cond.methodLink RX3 43 yX3_isWithin, Cond.static yX3_isWithin, Cond.code yX3_isWithin cX3_isWithin 3 (some .boolean), Cond.methodLink RX3 209 yJx4a65c_get_915e3, Cond.instanceMethod yJx4a65c_get_915e3, Cond.selects RJx4a65c yJx4a65c_get_915e3 yJx4a65c_get_915e3]
def wsX3_renew_r2 : List Cond := [Cond.code yJx4a65c_get_915e3 cJx4a65c_get_915e3 2 (some (.object "java/lang/Object")), Cond.methodLink RJx4a65c 118 yJ15_checkIndex_7cf53, Cond.static yJ15_checkIndex_7cf53, Cond.initialized RJ15, Cond.code yJ15_checkIndex_7cf53 cJ15_checkIndex_7cf53 2 (some .int), Cond.methodLink RJ15 105 yJ3_checkIndex_8e157, Cond.static yJ3_checkIndex_8e157, Cond.initialized RJ3, Cond.code yJ3_checkIndex_8e157 cJ3_checkIndex_8e157 3 (some .int), Cond.methodLink RJx4a65c 123 yJx4a65c_elementData_915e3, Cond.instanceMethod yJx4a65c_elementData_915e3, Cond.selects RJx4a65c yJx4a65c_elementData_915e3 yJx4a65c_elementData_915e3, Cond.code yJx4a65c_elementData_915e3 cJx4a65c_elementData_915e3 2 (some (.object "java/lang/Object")), Cond.fieldLink RJx4a65c 9 "java/util/ArrayList" "elementData" "[Ljava/lang/Object;", Cond.methodLink RX3 40 yX3_checkSide, Cond.static yX3_checkSide, Cond.code yX3_checkSide cX3_checkSide 1 none, Cond.classLink RX3 47 "java/lang/IllegalArgumentException", Cond.initialized "java/lang/IllegalArgumentException", Cond.methodLink RX3 36 yX3_checkClause, Cond.static yX3_checkClause, Cond.code yX3_checkClause cX3_checkClause 1 none, Cond.methodLink RX3 89 yX3_checkDraft, Cond.static yX3_checkDraft]
def wsX3_renew_r3 : List Cond := [Cond.code yX3_checkDraft cX3_checkDraft 1 none, Cond.methodLink RX3 120 yX0_isDraft, Cond.instanceMethod yX0_isDraft, Cond.selects RX0 yX0_isDraft yX0_isDraft, Cond.initialized RX0, Cond.code yX0_isDraft cX0_isDraft 1 (some .boolean), Cond.fieldLink RX0 22 "ClauseShop$Contract" "signed" "[Z", Cond.methodLink RX3 110 yX3_hasLaterVersion, Cond.instanceMethod yX3_hasLaterVersion, Cond.selects RX3 yX3_hasLaterVersion yX3_hasLaterVersion, Cond.code yX3_hasLaterVersion cX3_hasLaterVersion 3 (some .boolean), Cond.fieldLink RX3 93 "ClauseShop$Contract" "items" "[LClauseShop$Version;", Cond.methodLink RX3 116 yX3_itemNumber, Cond.static yX3_itemNumber, Cond.code yX3_itemNumber cX3_itemNumber 2 (some .int), Cond.methodLink RX3 218 yX3_numberOf, Cond.static yX3_numberOf, Cond.code yX3_numberOf cX3_numberOf 1 (some .int), Cond.fieldLink RX3 215 "ClauseShop$Version" "number" "I", Cond.methodLink RX3 54 yX3_newestNumber, Cond.instanceMethod yX3_newestNumber, Cond.selects RX3 yX3_newestNumber yX3_newestNumber, Cond.code yX3_newestNumber cX3_newestNumber 2 (some .int), Cond.methodLink RX3 98 yX0_bringIn]
def wsX3_renew_r4 : List Cond := [Cond.instanceMethod yX0_bringIn, Cond.selects RX0 yX0_bringIn yX0_bringIn, Cond.code yX0_bringIn cX0_bringIn 4 none, Cond.fieldLink RX0 11 "ClauseShop$Contract" "items" "[LClauseShop$Version;", Cond.fieldLink RX0 19 "ClauseShop$Contract" "marks" "[[I", Cond.methodLink RX0 33 yX0_loseSignatures, Cond.instanceMethod yX0_loseSignatures, Cond.selects RX0 yX0_loseSignatures yX0_loseSignatures, Cond.code yX0_loseSignatures cX0_loseSignatures 1 none]
def wsX3_renew : List Cond := .code yX3_renew cX3_renew 6 (some .int) :: ((wsX3_renew_r1 ++ (wsX3_renew_r2 ++ (wsX3_renew_r3 ++ wsX3_renew_r4))) ++ wsX30 ++ wsJx4a65c0 ++ wsX00 ++ wsX20 ++ (vx_atS RX3 62 "java/lang/IllegalStateException" ["java/lang/RuntimeException", "java/lang/Exception"]).filter goodWord ++ (vx_atS RX3 208 "java/lang/IndexOutOfBoundsException" ["java/lang/RuntimeException", "java/lang/Exception"]).filter goodWord ++ (vx_atS RX3 51 "java/lang/IllegalArgumentException" ["java/lang/RuntimeException", "java/lang/Exception"]).filter goodWord)
def wsX3_version_r1 : List Cond := [Cond.methodLink RX3 83 yX3_contractAt, Cond.instanceMethod yX3_contractAt, Cond.selects RX3 yX3_contractAt yX3_contractAt, Cond.initialized RX3, Cond.code yX3_contractAt cX3_contractAt 2 (some (.object "ClauseShop$Contract")), Cond.classLink RX3 204 "java/lang/IndexOutOfBoundsException", Cond.initialized "java/lang/IndexOutOfBoundsException", Cond.fieldLink RX3 25 "ClauseShop" "contracts" "Ljava/util/ArrayList;", Cond.classLink RX3 76 "ClauseShop$Contract", Cond.methodLink RX3 70 yJx4a65c_size_8abf5, Cond.instanceMethod yJx4a65c_size_8abf5, Cond.selects RJx4a65c yJx4a65c_size_8abf5 yJx4a65c_size_8abf5, Cond.initialized RJx4a65c, Cond.code yJx4a65c_size_8abf5 cJx4a65c_size_8abf5 1 (some .int), Cond.fieldLink RJx4a65c 48 "java/util/ArrayList" "size" "I", Cond.methodLink RX3 43 yX3_isWithin, Cond.static yX3_isWithin, Cond.code yX3_isWithin cX3_isWithin 3 (some .boolean), Cond.methodLink RX3 209 yJx4a65c_get_915e3, Cond.instanceMethod yJx4a65c_get_915e3, Cond.selects RJx4a65c yJx4a65c_get_915e3 yJx4a65c_get_915e3, Cond.code yJx4a65c_get_915e3 cJx4a65c_get_915e3 2 (some (.object "java/lang/Object")), Cond.methodLink RJx4a65c 118 yJ15_checkIndex_7cf53, Cond.static yJ15_checkIndex_7cf53]
def wsX3_version_r2 : List Cond := [Cond.initialized RJ15, Cond.code yJ15_checkIndex_7cf53 cJ15_checkIndex_7cf53 2 (some .int), Cond.methodLink RJ15 105 yJ3_checkIndex_8e157, Cond.static yJ3_checkIndex_8e157, Cond.initialized RJ3, Cond.code yJ3_checkIndex_8e157 cJ3_checkIndex_8e157 3 (some .int), Cond.methodLink RJx4a65c 123 yJx4a65c_elementData_915e3, Cond.instanceMethod yJx4a65c_elementData_915e3, Cond.selects RJx4a65c yJx4a65c_elementData_915e3 yJx4a65c_elementData_915e3, Cond.code yJx4a65c_elementData_915e3 cJx4a65c_elementData_915e3 2 (some (.object "java/lang/Object")), Cond.fieldLink RJx4a65c 9 "java/util/ArrayList" "elementData" "[Ljava/lang/Object;", Cond.methodLink RX3 36 yX3_checkClause, Cond.static yX3_checkClause, Cond.code yX3_checkClause cX3_checkClause 1 none, Cond.classLink RX3 47 "java/lang/IllegalArgumentException", Cond.initialized "java/lang/IllegalArgumentException", Cond.methodLink RX3 116 yX3_itemNumber, Cond.static yX3_itemNumber, Cond.code yX3_itemNumber cX3_itemNumber 2 (some .int), Cond.fieldLink RX3 93 "ClauseShop$Contract" "items" "[LClauseShop$Version;", Cond.methodLink RX3 218 yX3_numberOf, Cond.static yX3_numberOf, Cond.code yX3_numberOf cX3_numberOf 1 (some .int), Cond.fieldLink RX3 215 "ClauseShop$Version" "number" "I"]
def wsX3_version : List Cond := .code yX3_version cX3_version 4 (some .int) :: ((wsX3_version_r1 ++ wsX3_version_r2) ++ wsX30 ++ wsJx4a65c0 ++ wsX00 ++ wsX20 ++ (vx_atS RX3 208 "java/lang/IndexOutOfBoundsException" ["java/lang/RuntimeException", "java/lang/Exception"]).filter goodWord ++ (vx_atS RX3 51 "java/lang/IllegalArgumentException" ["java/lang/RuntimeException", "java/lang/Exception"]).filter goodWord)
def wsX3_offered_r1 : List Cond := [Cond.methodLink RX3 83 yX3_contractAt, Cond.instanceMethod yX3_contractAt, Cond.selects RX3 yX3_contractAt yX3_contractAt, Cond.initialized RX3, Cond.code yX3_contractAt cX3_contractAt 2 (some (.object "ClauseShop$Contract")), Cond.classLink RX3 204 "java/lang/IndexOutOfBoundsException", Cond.initialized "java/lang/IndexOutOfBoundsException", Cond.fieldLink RX3 25 "ClauseShop" "contracts" "Ljava/util/ArrayList;", Cond.classLink RX3 76 "ClauseShop$Contract", Cond.methodLink RX3 70 yJx4a65c_size_8abf5, Cond.instanceMethod yJx4a65c_size_8abf5, Cond.selects RJx4a65c yJx4a65c_size_8abf5 yJx4a65c_size_8abf5, Cond.initialized RJx4a65c, Cond.code yJx4a65c_size_8abf5 cJx4a65c_size_8abf5 1 (some .int), Cond.fieldLink RJx4a65c 48 "java/util/ArrayList" "size" "I", Cond.methodLink RX3 43 yX3_isWithin, Cond.static yX3_isWithin, Cond.code yX3_isWithin cX3_isWithin 3 (some .boolean), Cond.methodLink RX3 209 yJx4a65c_get_915e3, Cond.instanceMethod yJx4a65c_get_915e3, Cond.selects RJx4a65c yJx4a65c_get_915e3 yJx4a65c_get_915e3, Cond.code yJx4a65c_get_915e3 cJx4a65c_get_915e3 2 (some (.object "java/lang/Object")), Cond.methodLink RJx4a65c 118 yJ15_checkIndex_7cf53, Cond.static yJ15_checkIndex_7cf53]
def wsX3_offered_r2 : List Cond := [Cond.initialized RJ15, Cond.code yJ15_checkIndex_7cf53 cJ15_checkIndex_7cf53 2 (some .int), Cond.methodLink RJ15 105 yJ3_checkIndex_8e157, Cond.static yJ3_checkIndex_8e157, Cond.initialized RJ3, Cond.code yJ3_checkIndex_8e157 cJ3_checkIndex_8e157 3 (some .int), Cond.methodLink RJx4a65c 123 yJx4a65c_elementData_915e3, Cond.instanceMethod yJx4a65c_elementData_915e3, Cond.selects RJx4a65c yJx4a65c_elementData_915e3 yJx4a65c_elementData_915e3, Cond.code yJx4a65c_elementData_915e3 cJx4a65c_elementData_915e3 2 (some (.object "java/lang/Object")), Cond.fieldLink RJx4a65c 9 "java/util/ArrayList" "elementData" "[Ljava/lang/Object;", Cond.methodLink RX3 120 yX0_isDraft, Cond.instanceMethod yX0_isDraft, Cond.selects RX0 yX0_isDraft yX0_isDraft, Cond.initialized RX0, Cond.code yX0_isDraft cX0_isDraft 1 (some .boolean), Cond.fieldLink RX0 22 "ClauseShop$Contract" "signed" "[Z", Cond.methodLink RX3 110 yX3_hasLaterVersion, Cond.instanceMethod yX3_hasLaterVersion, Cond.selects RX3 yX3_hasLaterVersion yX3_hasLaterVersion, Cond.code yX3_hasLaterVersion cX3_hasLaterVersion 3 (some .boolean), Cond.fieldLink RX3 93 "ClauseShop$Contract" "items" "[LClauseShop$Version;", Cond.methodLink RX3 116 yX3_itemNumber, Cond.static yX3_itemNumber]
def wsX3_offered_r3 : List Cond := [Cond.code yX3_itemNumber cX3_itemNumber 2 (some .int), Cond.methodLink RX3 218 yX3_numberOf, Cond.static yX3_numberOf, Cond.code yX3_numberOf cX3_numberOf 1 (some .int), Cond.fieldLink RX3 215 "ClauseShop$Version" "number" "I", Cond.methodLink RX3 54 yX3_newestNumber, Cond.instanceMethod yX3_newestNumber, Cond.selects RX3 yX3_newestNumber yX3_newestNumber, Cond.code yX3_newestNumber cX3_newestNumber 2 (some .int), Cond.fieldLink RX3 11 "ClauseShop" "newest" "[LClauseShop$Version;"]
def wsX3_offered : List Cond := .code yX3_offered cX3_offered 5 (some .int) :: ((wsX3_offered_r1 ++ (wsX3_offered_r2 ++ wsX3_offered_r3)) ++ wsX30 ++ wsJx4a65c0 ++ wsX00 ++ wsX20 ++ (vx_atS RX3 208 "java/lang/IndexOutOfBoundsException" ["java/lang/RuntimeException", "java/lang/Exception"]).filter goodWord)
def wsX3_unionOver : List Cond := .code yX3_unionOver cX3_unionOver 4 (some .int) :: ([])
def wsX3_obstacle : List Cond := .code yX3_obstacle cX3_obstacle 3 (some .int) :: ([.fieldLink RX3 15 "ClauseShop" "needs" "[I", .fieldLink RX3 19 "ClauseShop" "forbids" "[I", .methodLink RX3 222 yX0_clauseSet, .instanceMethod yX0_clauseSet, .selects RX0 yX0_clauseSet yX0_clauseSet, .initialized RX0, .code yX0_clauseSet cX0_clauseSet 3 (some .int), .fieldLink RX0 11 "ClauseShop$Contract" "items" "[LClauseShop$Version;", .methodLink RX3 120 yX0_isDraft, .instanceMethod yX0_isDraft, .selects RX0 yX0_isDraft yX0_isDraft, .code yX0_isDraft cX0_isDraft 1 (some .boolean), .fieldLink RX0 22 "ClauseShop$Contract" "signed" "[Z", .methodLink RX3 225 yX0_isAgreed, .instanceMethod yX0_isAgreed, .selects RX0 yX0_isAgreed yX0_isAgreed, .code yX0_isAgreed cX0_isAgreed 2 (some .boolean), .fieldLink RX0 19 "ClauseShop$Contract" "marks" "[[I", .methodLink RX3 228 yX3_unionOver, .static yX3_unionOver, .initialized RX3, .code yX3_unionOver cX3_unionOver 4 (some .int)] ++ wsX30 ++ wsX00)
def wsX3_whyNot_r1 : List Cond := [Cond.methodLink RX3 83 yX3_contractAt, Cond.instanceMethod yX3_contractAt, Cond.selects RX3 yX3_contractAt yX3_contractAt, Cond.initialized RX3, Cond.code yX3_contractAt cX3_contractAt 2 (some (.object "ClauseShop$Contract")), Cond.classLink RX3 204 "java/lang/IndexOutOfBoundsException", Cond.initialized "java/lang/IndexOutOfBoundsException", Cond.fieldLink RX3 25 "ClauseShop" "contracts" "Ljava/util/ArrayList;", Cond.classLink RX3 76 "ClauseShop$Contract", Cond.methodLink RX3 70 yJx4a65c_size_8abf5, Cond.instanceMethod yJx4a65c_size_8abf5, Cond.selects RJx4a65c yJx4a65c_size_8abf5 yJx4a65c_size_8abf5, Cond.initialized RJx4a65c, Cond.code yJx4a65c_size_8abf5 cJx4a65c_size_8abf5 1 (some .int), Cond.fieldLink RJx4a65c 48 "java/util/ArrayList" "size" "I", Cond.methodLink RX3 43 yX3_isWithin, Cond.static yX3_isWithin, Cond.code yX3_isWithin cX3_isWithin 3 (some .boolean), Cond.methodLink RX3 209 yJx4a65c_get_915e3, Cond.instanceMethod yJx4a65c_get_915e3, Cond.selects RJx4a65c yJx4a65c_get_915e3 yJx4a65c_get_915e3, Cond.code yJx4a65c_get_915e3 cJx4a65c_get_915e3 2 (some (.object "java/lang/Object")), Cond.methodLink RJx4a65c 118 yJ15_checkIndex_7cf53, Cond.static yJ15_checkIndex_7cf53]
def wsX3_whyNot_r2 : List Cond := [Cond.initialized RJ15, Cond.code yJ15_checkIndex_7cf53 cJ15_checkIndex_7cf53 2 (some .int), Cond.methodLink RJ15 105 yJ3_checkIndex_8e157, Cond.static yJ3_checkIndex_8e157, Cond.initialized RJ3, Cond.code yJ3_checkIndex_8e157 cJ3_checkIndex_8e157 3 (some .int), Cond.methodLink RJx4a65c 123 yJx4a65c_elementData_915e3, Cond.instanceMethod yJx4a65c_elementData_915e3, Cond.selects RJx4a65c yJx4a65c_elementData_915e3 yJx4a65c_elementData_915e3, Cond.code yJx4a65c_elementData_915e3 cJx4a65c_elementData_915e3 2 (some (.object "java/lang/Object")), Cond.fieldLink RJx4a65c 9 "java/util/ArrayList" "elementData" "[Ljava/lang/Object;", Cond.methodLink RX3 124 yX3_obstacle, Cond.instanceMethod yX3_obstacle, Cond.selects RX3 yX3_obstacle yX3_obstacle, Cond.code yX3_obstacle cX3_obstacle 3 (some .int), Cond.fieldLink RX3 15 "ClauseShop" "needs" "[I", Cond.fieldLink RX3 19 "ClauseShop" "forbids" "[I", Cond.methodLink RX3 222 yX0_clauseSet, Cond.instanceMethod yX0_clauseSet, Cond.selects RX0 yX0_clauseSet yX0_clauseSet, Cond.initialized RX0, Cond.code yX0_clauseSet cX0_clauseSet 3 (some .int), Cond.fieldLink RX0 11 "ClauseShop$Contract" "items" "[LClauseShop$Version;", Cond.methodLink RX3 120 yX0_isDraft]
def wsX3_whyNot_r3 : List Cond := [Cond.instanceMethod yX0_isDraft, Cond.selects RX0 yX0_isDraft yX0_isDraft, Cond.code yX0_isDraft cX0_isDraft 1 (some .boolean), Cond.fieldLink RX0 22 "ClauseShop$Contract" "signed" "[Z", Cond.methodLink RX3 225 yX0_isAgreed, Cond.instanceMethod yX0_isAgreed, Cond.selects RX0 yX0_isAgreed yX0_isAgreed, Cond.code yX0_isAgreed cX0_isAgreed 2 (some .boolean), Cond.fieldLink RX0 19 "ClauseShop$Contract" "marks" "[[I", Cond.methodLink RX3 228 yX3_unionOver, Cond.static yX3_unionOver, Cond.code yX3_unionOver cX3_unionOver 4 (some .int)]
def wsX3_whyNot : List Cond := .code yX3_whyNot cX3_whyNot 2 (some .int) :: ((wsX3_whyNot_r1 ++ (wsX3_whyNot_r2 ++ wsX3_whyNot_r3)) ++ wsX30 ++ wsJx4a65c0 ++ wsX00 ++ (vx_atS RX3 208 "java/lang/IndexOutOfBoundsException" ["java/lang/RuntimeException", "java/lang/Exception"]).filter goodWord)
def wsX3_makeDuties_r1 : List Cond := [Cond.fieldLink RX3 93 "ClauseShop$Contract" "items" "[LClauseShop$Version;", Cond.fieldLink RX3 29 "ClauseShop" "dutyList" "Ljava/util/ArrayList;", Cond.classLink RX3 152 RX1, Cond.instantiable RX1 4, Cond.initialized RX1, Cond.fieldLink RX3 32 "ClauseShop" "today" "I", Cond.fieldLink RX3 232 "ClauseShop$Version" "days" "I", Cond.methodLink RX3 235 yX1_init, Cond.instanceMethod yX1_init, Cond.code yX1_init cX1_init 4 none, Cond.methodLink RX1 3 objectInit, Cond.instanceMethod objectInit, Cond.code objectInit ⟨#[0xb1]⟩ 1 none, Cond.fieldLink RX1 9 "ClauseShop$Duty" "state" "I", Cond.fieldLink RX1 15 "ClauseShop$Duty" "contract" "LClauseShop$Contract;", Cond.fieldLink RX1 19 "ClauseShop$Duty" "version" "LClauseShop$Version;", Cond.fieldLink RX1 23 "ClauseShop$Duty" "day" "I", Cond.methodLink RX3 79 yJx4a65c_add_9ea2d, Cond.instanceMethod yJx4a65c_add_9ea2d, Cond.selects RJx4a65c yJx4a65c_add_9ea2d yJx4a65c_add_9ea2d, Cond.initialized RJx4a65c, Cond.code yJx4a65c_add_9ea2d cJx4a65c_add_9ea2d 2 (some .boolean), Cond.fieldLink RJx4a65c 63 "java/util/ArrayList" "modCount" "I", Cond.sameField "java/util/ArrayList" "java/util/AbstractList" "modCount" "I"]
def wsX3_makeDuties_r2 : List Cond := [Cond.fieldLink RJx4a65c 9 "java/util/ArrayList" "elementData" "[Ljava/lang/Object;", Cond.fieldLink RJx4a65c 48 "java/util/ArrayList" "size" "I", Cond.methodLink RJx4a65c 131 yJx4a65c_add_72be8, Cond.instanceMethod yJx4a65c_add_72be8, Cond.selects RJx4a65c yJx4a65c_add_72be8 yJx4a65c_add_72be8, Cond.code yJx4a65c_add_72be8 cJx4a65c_add_72be8 4 none, Cond.methodLink RJx4a65c 129 yJx4a65c_grow_d5877, Cond.instanceMethod yJx4a65c_grow_d5877, Cond.selects RJx4a65c yJx4a65c_grow_d5877 yJx4a65c_grow_d5877, Cond.code yJx4a65c_grow_d5877 cJx4a65c_grow_d5877 1 (some (.array (.object "java/lang/Object"))), Cond.methodLink RJx4a65c 69 yJx4a65c_grow_92f84, Cond.instanceMethod yJx4a65c_grow_92f84, Cond.selects RJx4a65c yJx4a65c_grow_92f84 yJx4a65c_grow_92f84, Cond.code yJx4a65c_grow_92f84 cJx4a65c_grow_92f84 4 (some (.array (.object "java/lang/Object"))), Cond.fieldLink RJx4a65c 39 "java/util/ArrayList" "DEFAULTCAPACITY_EMPTY_ELEMENTDATA" "[Ljava/lang/Object;", Cond.methodLink RJx4a65c 79 Lib.Math.max.name, Cond.static Lib.Math.max.name, Cond.initialized "java/lang/Math", Cond.code Lib.Math.max.name Lib.Math.max.code 2 (some .int), Cond.classLink RJx4a65c 7 "java/lang/Object", Cond.methodLink RJx4a65c 73 yJ8_newLength_cabcc, Cond.static yJ8_newLength_cabcc, Cond.initialized RJ8, Cond.code yJ8_newLength_cabcc cJ8_newLength_cabcc 4 (some .int)]
def wsX3_makeDuties_r3 : List Cond := [Cond.methodLink RJ8 194 Lib.Math.max.name, Cond.constant RJ8 200 (2147483639), Cond.methodLink RJ8 201 yJ8_hugeLength_7cf53, Cond.static yJ8_hugeLength_7cf53, Cond.code yJ8_hugeLength_7cf53 cJ8_hugeLength_7cf53 3 (some .int), Cond.methodLink RJx4a65c 66 yJ7_copyOf_1904c, Cond.static yJ7_copyOf_1904c, Cond.initialized RJ7, Cond.code yJ7_copyOf_1904c cJ7_copyOf_1904c 2 (some (.array (.object "java/lang/Object"))), Cond.methodLink RJ7 86 ⟨"java/lang/Object", "getClass", "()Ljava/lang/Class;"⟩, Cond.selects "[Ljava/lang/Object;" ⟨"java/lang/Object", "getClass", "()Ljava/lang/Class;"⟩ ⟨"java/lang/Object", "getClass", "()Ljava/lang/Class;"⟩, Cond.instanceMethod ⟨"java/lang/Object", "getClass", "()Ljava/lang/Class;"⟩, Cond.native ⟨"java/lang/Object", "getClass", "()Ljava/lang/Class;"⟩, Cond.methodLink RJ7 300 yJ7_copyOf_6403c, Cond.static yJ7_copyOf_6403c, Cond.code yJ7_copyOf_6403c cJ7_copyOf_6403c 4 (some (.array (.object "java/lang/Object"))), Cond.classLink RJ7 110 "[Ljava/lang/Object;", Cond.classLink RJ7 2 "java/lang/Object", Cond.methodLink RJ7 304 Lib.Math.min.name, Cond.static Lib.Math.min.name, Cond.code Lib.Math.min.name Lib.Math.min.code 2 (some .int), Cond.methodLink RJ7 150 arraycopyName, Cond.native arraycopyName, Cond.static arraycopyName]
def wsX3_makeDuties_r4 : List Cond := [Cond.initialized "java/lang/System"]
def wsX3_makeDuties : List Cond := .code yX3_makeDuties cX3_makeDuties 5 (some .int) :: ((wsX3_makeDuties_r1 ++ (wsX3_makeDuties_r2 ++ (wsX3_makeDuties_r3 ++ wsX3_makeDuties_r4))) ++ wsX00 ++ wsX30 ++ wsX10 ++ wsX20 ++ wsJx4a65c0)
def wsX3_sign_r1 : List Cond := [Cond.classLink RX3 58 "java/lang/IllegalStateException", Cond.initialized "java/lang/IllegalStateException", Cond.fieldLink RX3 128 "ClauseShop$Contract" "signed" "[Z", Cond.methodLink RX3 83 yX3_contractAt, Cond.instanceMethod yX3_contractAt, Cond.selects RX3 yX3_contractAt yX3_contractAt, Cond.initialized RX3, Cond.code yX3_contractAt cX3_contractAt 2 (some (.object "ClauseShop$Contract")), Cond.classLink RX3 204 "java/lang/IndexOutOfBoundsException", Cond.initialized "java/lang/IndexOutOfBoundsException", Cond.fieldLink RX3 25 "ClauseShop" "contracts" "Ljava/util/ArrayList;", Cond.classLink RX3 76 "ClauseShop$Contract", Cond.methodLink RX3 70 yJx4a65c_size_8abf5, Cond.instanceMethod yJx4a65c_size_8abf5, Cond.selects RJx4a65c yJx4a65c_size_8abf5 yJx4a65c_size_8abf5, Cond.initialized RJx4a65c, Cond.code yJx4a65c_size_8abf5 cJx4a65c_size_8abf5 1 (some .int), Cond.fieldLink RJx4a65c 48 "java/util/ArrayList" "size" "I", Cond.methodLink RX3 43 yX3_isWithin, Cond.static yX3_isWithin, Cond.code yX3_isWithin cX3_isWithin 3 (some .boolean), Cond.methodLink RX3 209 yJx4a65c_get_915e3, Cond.instanceMethod yJx4a65c_get_915e3, Cond.selects RJx4a65c yJx4a65c_get_915e3 yJx4a65c_get_915e3]
def wsX3_sign_r2 : List Cond := [Cond.code yJx4a65c_get_915e3 cJx4a65c_get_915e3 2 (some (.object "java/lang/Object")), Cond.methodLink RJx4a65c 118 yJ15_checkIndex_7cf53, Cond.static yJ15_checkIndex_7cf53, Cond.initialized RJ15, Cond.code yJ15_checkIndex_7cf53 cJ15_checkIndex_7cf53 2 (some .int), Cond.methodLink RJ15 105 yJ3_checkIndex_8e157, Cond.static yJ3_checkIndex_8e157, Cond.initialized RJ3, Cond.code yJ3_checkIndex_8e157 cJ3_checkIndex_8e157 3 (some .int), Cond.methodLink RJx4a65c 123 yJx4a65c_elementData_915e3, Cond.instanceMethod yJx4a65c_elementData_915e3, Cond.selects RJx4a65c yJx4a65c_elementData_915e3 yJx4a65c_elementData_915e3, Cond.code yJx4a65c_elementData_915e3 cJx4a65c_elementData_915e3 2 (some (.object "java/lang/Object")), Cond.fieldLink RJx4a65c 9 "java/util/ArrayList" "elementData" "[Ljava/lang/Object;", Cond.methodLink RX3 40 yX3_checkSide, Cond.static yX3_checkSide, Cond.code yX3_checkSide cX3_checkSide 1 none, Cond.classLink RX3 47 "java/lang/IllegalArgumentException", Cond.initialized "java/lang/IllegalArgumentException", Cond.methodLink RX3 124 yX3_obstacle, Cond.instanceMethod yX3_obstacle, Cond.selects RX3 yX3_obstacle yX3_obstacle, Cond.code yX3_obstacle cX3_obstacle 3 (some .int), Cond.fieldLink RX3 15 "ClauseShop" "needs" "[I"]
def wsX3_sign_r3 : List Cond := [Cond.fieldLink RX3 19 "ClauseShop" "forbids" "[I", Cond.methodLink RX3 222 yX0_clauseSet, Cond.instanceMethod yX0_clauseSet, Cond.selects RX0 yX0_clauseSet yX0_clauseSet, Cond.initialized RX0, Cond.code yX0_clauseSet cX0_clauseSet 3 (some .int), Cond.fieldLink RX0 11 "ClauseShop$Contract" "items" "[LClauseShop$Version;", Cond.methodLink RX3 120 yX0_isDraft, Cond.instanceMethod yX0_isDraft, Cond.selects RX0 yX0_isDraft yX0_isDraft, Cond.code yX0_isDraft cX0_isDraft 1 (some .boolean), Cond.fieldLink RX0 22 "ClauseShop$Contract" "signed" "[Z", Cond.methodLink RX3 225 yX0_isAgreed, Cond.instanceMethod yX0_isAgreed, Cond.selects RX0 yX0_isAgreed yX0_isAgreed, Cond.code yX0_isAgreed cX0_isAgreed 2 (some .boolean), Cond.fieldLink RX0 19 "ClauseShop$Contract" "marks" "[[I", Cond.methodLink RX3 228 yX3_unionOver, Cond.static yX3_unionOver, Cond.code yX3_unionOver cX3_unionOver 4 (some .int), Cond.methodLink RX3 134 yX3_makeDuties, Cond.instanceMethod yX3_makeDuties, Cond.selects RX3 yX3_makeDuties yX3_makeDuties, Cond.code yX3_makeDuties cX3_makeDuties 5 (some .int)]
def wsX3_sign_r4 : List Cond := [Cond.fieldLink RX3 93 "ClauseShop$Contract" "items" "[LClauseShop$Version;", Cond.fieldLink RX3 29 "ClauseShop" "dutyList" "Ljava/util/ArrayList;", Cond.classLink RX3 152 RX1, Cond.instantiable RX1 4, Cond.initialized RX1, Cond.fieldLink RX3 32 "ClauseShop" "today" "I", Cond.fieldLink RX3 232 "ClauseShop$Version" "days" "I", Cond.methodLink RX3 235 yX1_init, Cond.instanceMethod yX1_init, Cond.code yX1_init cX1_init 4 none, Cond.methodLink RX1 3 objectInit, Cond.instanceMethod objectInit, Cond.code objectInit ⟨#[0xb1]⟩ 1 none, Cond.fieldLink RX1 9 "ClauseShop$Duty" "state" "I", Cond.fieldLink RX1 15 "ClauseShop$Duty" "contract" "LClauseShop$Contract;", Cond.fieldLink RX1 19 "ClauseShop$Duty" "version" "LClauseShop$Version;", Cond.fieldLink RX1 23 "ClauseShop$Duty" "day" "I", Cond.methodLink RX3 79 yJx4a65c_add_9ea2d, Cond.instanceMethod yJx4a65c_add_9ea2d, Cond.selects RJx4a65c yJx4a65c_add_9ea2d yJx4a65c_add_9ea2d, Cond.code yJx4a65c_add_9ea2d cJx4a65c_add_9ea2d 2 (some .boolean), Cond.fieldLink RJx4a65c 63 "java/util/ArrayList" "modCount" "I", Cond.sameField "java/util/ArrayList" "java/util/AbstractList" "modCount" "I", Cond.methodLink RJx4a65c 131 yJx4a65c_add_72be8]
def wsX3_sign_r5 : List Cond := [Cond.instanceMethod yJx4a65c_add_72be8, Cond.selects RJx4a65c yJx4a65c_add_72be8 yJx4a65c_add_72be8, Cond.code yJx4a65c_add_72be8 cJx4a65c_add_72be8 4 none, Cond.methodLink RJx4a65c 129 yJx4a65c_grow_d5877, Cond.instanceMethod yJx4a65c_grow_d5877, Cond.selects RJx4a65c yJx4a65c_grow_d5877 yJx4a65c_grow_d5877, Cond.code yJx4a65c_grow_d5877 cJx4a65c_grow_d5877 1 (some (.array (.object "java/lang/Object"))), Cond.methodLink RJx4a65c 69 yJx4a65c_grow_92f84, Cond.instanceMethod yJx4a65c_grow_92f84, Cond.selects RJx4a65c yJx4a65c_grow_92f84 yJx4a65c_grow_92f84, Cond.code yJx4a65c_grow_92f84 cJx4a65c_grow_92f84 4 (some (.array (.object "java/lang/Object"))), Cond.fieldLink RJx4a65c 39 "java/util/ArrayList" "DEFAULTCAPACITY_EMPTY_ELEMENTDATA" "[Ljava/lang/Object;", Cond.methodLink RJx4a65c 79 Lib.Math.max.name, Cond.static Lib.Math.max.name, Cond.initialized "java/lang/Math", Cond.code Lib.Math.max.name Lib.Math.max.code 2 (some .int), Cond.classLink RJx4a65c 7 "java/lang/Object", Cond.methodLink RJx4a65c 73 yJ8_newLength_cabcc, Cond.static yJ8_newLength_cabcc, Cond.initialized RJ8, Cond.code yJ8_newLength_cabcc cJ8_newLength_cabcc 4 (some .int), Cond.methodLink RJ8 194 Lib.Math.max.name, Cond.constant RJ8 200 (2147483639), Cond.methodLink RJ8 201 yJ8_hugeLength_7cf53]
def wsX3_sign_r6 : List Cond := [Cond.static yJ8_hugeLength_7cf53, Cond.code yJ8_hugeLength_7cf53 cJ8_hugeLength_7cf53 3 (some .int), Cond.methodLink RJx4a65c 66 yJ7_copyOf_1904c, Cond.static yJ7_copyOf_1904c, Cond.initialized RJ7, Cond.code yJ7_copyOf_1904c cJ7_copyOf_1904c 2 (some (.array (.object "java/lang/Object"))), Cond.methodLink RJ7 86 ⟨"java/lang/Object", "getClass", "()Ljava/lang/Class;"⟩, Cond.selects "[Ljava/lang/Object;" ⟨"java/lang/Object", "getClass", "()Ljava/lang/Class;"⟩ ⟨"java/lang/Object", "getClass", "()Ljava/lang/Class;"⟩, Cond.instanceMethod ⟨"java/lang/Object", "getClass", "()Ljava/lang/Class;"⟩, Cond.native ⟨"java/lang/Object", "getClass", "()Ljava/lang/Class;"⟩, Cond.methodLink RJ7 300 yJ7_copyOf_6403c, Cond.static yJ7_copyOf_6403c, Cond.code yJ7_copyOf_6403c cJ7_copyOf_6403c 4 (some (.array (.object "java/lang/Object"))), Cond.classLink RJ7 110 "[Ljava/lang/Object;", Cond.classLink RJ7 2 "java/lang/Object", Cond.methodLink RJ7 304 Lib.Math.min.name, Cond.static Lib.Math.min.name, Cond.code Lib.Math.min.name Lib.Math.min.code 2 (some .int), Cond.methodLink RJ7 150 arraycopyName, Cond.native arraycopyName, Cond.static arraycopyName, Cond.initialized "java/lang/System"]
def wsX3_sign : List Cond := .code yX3_sign cX3_sign 4 (some .int) :: ((wsX3_sign_r1 ++ (wsX3_sign_r2 ++ (wsX3_sign_r3 ++ (wsX3_sign_r4 ++ (wsX3_sign_r5 ++ wsX3_sign_r6))))) ++ wsX00 ++ wsX30 ++ wsJx4a65c0 ++ wsX10 ++ wsX20 ++ (vx_atS RX3 62 "java/lang/IllegalStateException" ["java/lang/RuntimeException", "java/lang/Exception"]).filter goodWord ++ (vx_atS RX3 208 "java/lang/IndexOutOfBoundsException" ["java/lang/RuntimeException", "java/lang/Exception"]).filter goodWord ++ (vx_atS RX3 51 "java/lang/IllegalArgumentException" ["java/lang/RuntimeException", "java/lang/Exception"]).filter goodWord)
def wsX3_putOffHeldUpDuties_r1 : List Cond := [Cond.fieldLink RX3 29 "ClauseShop" "dutyList" "Ljava/util/ArrayList;", Cond.classLink RX3 152 "ClauseShop$Duty", Cond.fieldLink RX3 156 "ClauseShop$Duty" "day" "I", Cond.methodLink RX3 70 yJx4a65c_size_8abf5, Cond.instanceMethod yJx4a65c_size_8abf5, Cond.selects RJx4a65c yJx4a65c_size_8abf5 yJx4a65c_size_8abf5, Cond.initialized RJx4a65c, Cond.code yJx4a65c_size_8abf5 cJx4a65c_size_8abf5 1 (some .int), Cond.fieldLink RJx4a65c 48 "java/util/ArrayList" "size" "I", Cond.methodLink RX3 209 yJx4a65c_get_915e3, Cond.instanceMethod yJx4a65c_get_915e3, Cond.selects RJx4a65c yJx4a65c_get_915e3 yJx4a65c_get_915e3, Cond.code yJx4a65c_get_915e3 cJx4a65c_get_915e3 2 (some (.object "java/lang/Object")), Cond.methodLink RJx4a65c 118 yJ15_checkIndex_7cf53, Cond.static yJ15_checkIndex_7cf53, Cond.initialized RJ15, Cond.code yJ15_checkIndex_7cf53 cJ15_checkIndex_7cf53 2 (some .int), Cond.methodLink RJ15 105 yJ3_checkIndex_8e157, Cond.static yJ3_checkIndex_8e157, Cond.initialized RJ3, Cond.code yJ3_checkIndex_8e157 cJ3_checkIndex_8e157 3 (some .int), Cond.methodLink RJx4a65c 123 yJx4a65c_elementData_915e3, Cond.instanceMethod yJx4a65c_elementData_915e3, Cond.selects RJx4a65c yJx4a65c_elementData_915e3 yJx4a65c_elementData_915e3]
def wsX3_putOffHeldUpDuties_r2 : List Cond := [Cond.code yJx4a65c_elementData_915e3 cJx4a65c_elementData_915e3 2 (some (.object "java/lang/Object")), Cond.fieldLink RJx4a65c 9 "java/util/ArrayList" "elementData" "[Ljava/lang/Object;", Cond.methodLink RX3 159 yX1_isHeldUp, Cond.instanceMethod yX1_isHeldUp, Cond.selects RX1 yX1_isHeldUp yX1_isHeldUp, Cond.initialized RX1, Cond.code yX1_isHeldUp cX1_isHeldUp 1 (some .boolean), Cond.fieldLink RX1 15 "ClauseShop$Duty" "contract" "LClauseShop$Contract;", Cond.fieldLink RX1 30 "ClauseShop$Contract" "breaches" "[I", Cond.fieldLink RX1 19 "ClauseShop$Duty" "version" "LClauseShop$Version;", Cond.fieldLink RX1 36 "ClauseShop$Version" "obligor" "I", Cond.methodLink RX1 26 yX1_canBeDone, Cond.instanceMethod yX1_canBeDone, Cond.selects RX1 yX1_canBeDone yX1_canBeDone, Cond.code yX1_canBeDone cX1_canBeDone 1 (some .boolean), Cond.fieldLink RX1 9 "ClauseShop$Duty" "state" "I"]
def wsX3_putOffHeldUpDuties : List Cond := .code yX3_putOffHeldUpDuties cX3_putOffHeldUpDuties 3 none :: ((wsX3_putOffHeldUpDuties_r1 ++ wsX3_putOffHeldUpDuties_r2) ++ wsX30 ++ wsX10 ++ wsJx4a65c0 ++ wsX00 ++ wsX20)
def wsX3_breachUncuredDuties_r1 : List Cond := [Cond.fieldLink RX3 29 "ClauseShop" "dutyList" "Ljava/util/ArrayList;", Cond.classLink RX3 152 "ClauseShop$Duty", Cond.fieldLink RX3 151 "ClauseShop$Duty" "state" "I", Cond.fieldLink RX3 32 "ClauseShop" "today" "I", Cond.fieldLink RX3 156 "ClauseShop$Duty" "day" "I", Cond.methodLink RX3 70 yJx4a65c_size_8abf5, Cond.instanceMethod yJx4a65c_size_8abf5, Cond.selects RJx4a65c yJx4a65c_size_8abf5 yJx4a65c_size_8abf5, Cond.initialized RJx4a65c, Cond.code yJx4a65c_size_8abf5 cJx4a65c_size_8abf5 1 (some .int), Cond.fieldLink RJx4a65c 48 "java/util/ArrayList" "size" "I", Cond.methodLink RX3 209 yJx4a65c_get_915e3, Cond.instanceMethod yJx4a65c_get_915e3, Cond.selects RJx4a65c yJx4a65c_get_915e3 yJx4a65c_get_915e3, Cond.code yJx4a65c_get_915e3 cJx4a65c_get_915e3 2 (some (.object "java/lang/Object")), Cond.methodLink RJx4a65c 118 yJ15_checkIndex_7cf53, Cond.static yJ15_checkIndex_7cf53, Cond.initialized RJ15, Cond.code yJ15_checkIndex_7cf53 cJ15_checkIndex_7cf53 2 (some .int), Cond.methodLink RJ15 105 yJ3_checkIndex_8e157, Cond.static yJ3_checkIndex_8e157, Cond.initialized RJ3, Cond.code yJ3_checkIndex_8e157 cJ3_checkIndex_8e157 3 (some .int), Cond.methodLink RJx4a65c 123 yJx4a65c_elementData_915e3]
def wsX3_breachUncuredDuties_r2 : List Cond := [Cond.instanceMethod yJx4a65c_elementData_915e3, Cond.selects RJx4a65c yJx4a65c_elementData_915e3 yJx4a65c_elementData_915e3, Cond.code yJx4a65c_elementData_915e3 cJx4a65c_elementData_915e3 2 (some (.object "java/lang/Object")), Cond.fieldLink RJx4a65c 9 "java/util/ArrayList" "elementData" "[Ljava/lang/Object;", Cond.methodLink RX3 167 yX1_move, Cond.instanceMethod yX1_move, Cond.selects RX1 yX1_move yX1_move, Cond.initialized RX1, Cond.code yX1_move cX1_move 3 none, Cond.fieldLink RX1 9 "ClauseShop$Duty" "state" "I", Cond.fieldLink RX1 23 "ClauseShop$Duty" "day" "I", Cond.methodLink RX3 181 yX1_countBreach, Cond.instanceMethod yX1_countBreach, Cond.selects RX1 yX1_countBreach yX1_countBreach, Cond.code yX1_countBreach cX1_countBreach 2 none, Cond.fieldLink RX1 15 "ClauseShop$Duty" "contract" "LClauseShop$Contract;", Cond.fieldLink RX1 30 "ClauseShop$Contract" "breaches" "[I", Cond.fieldLink RX1 19 "ClauseShop$Duty" "version" "LClauseShop$Version;", Cond.fieldLink RX1 36 "ClauseShop$Version" "obligor" "I", Cond.fieldLink RX1 41 "ClauseShop$Contract" "penalties" "[I", Cond.fieldLink RX1 44 "ClauseShop$Version" "penalty" "I"]
def wsX3_breachUncuredDuties : List Cond := .code yX3_breachUncuredDuties cX3_breachUncuredDuties 4 (some .int) :: ((wsX3_breachUncuredDuties_r1 ++ wsX3_breachUncuredDuties_r2) ++ wsX30 ++ wsX10 ++ wsJx4a65c0 ++ wsX00 ++ wsX20)
def wsX3_pass_r1 : List Cond := [Cond.classLink RX3 47 "java/lang/IllegalArgumentException", Cond.initialized "java/lang/IllegalArgumentException", Cond.classLink RX3 58 "java/lang/IllegalStateException", Cond.initialized "java/lang/IllegalStateException", Cond.fieldLink RX3 32 "ClauseShop" "today" "I", Cond.methodLink RX3 43 yX3_isWithin, Cond.static yX3_isWithin, Cond.initialized RX3, Cond.code yX3_isWithin cX3_isWithin 3 (some .boolean), Cond.methodLink RX3 141 yX3_putOffHeldUpDuties, Cond.instanceMethod yX3_putOffHeldUpDuties, Cond.selects RX3 yX3_putOffHeldUpDuties yX3_putOffHeldUpDuties, Cond.code yX3_putOffHeldUpDuties cX3_putOffHeldUpDuties 3 none, Cond.fieldLink RX3 29 "ClauseShop" "dutyList" "Ljava/util/ArrayList;", Cond.classLink RX3 152 "ClauseShop$Duty", Cond.fieldLink RX3 156 "ClauseShop$Duty" "day" "I", Cond.methodLink RX3 70 yJx4a65c_size_8abf5, Cond.instanceMethod yJx4a65c_size_8abf5, Cond.selects RJx4a65c yJx4a65c_size_8abf5 yJx4a65c_size_8abf5, Cond.initialized RJx4a65c, Cond.code yJx4a65c_size_8abf5 cJx4a65c_size_8abf5 1 (some .int), Cond.fieldLink RJx4a65c 48 "java/util/ArrayList" "size" "I", Cond.methodLink RX3 209 yJx4a65c_get_915e3, Cond.instanceMethod yJx4a65c_get_915e3]
def wsX3_pass_r2 : List Cond := [Cond.selects RJx4a65c yJx4a65c_get_915e3 yJx4a65c_get_915e3, Cond.code yJx4a65c_get_915e3 cJx4a65c_get_915e3 2 (some (.object "java/lang/Object")), Cond.methodLink RJx4a65c 118 yJ15_checkIndex_7cf53, Cond.static yJ15_checkIndex_7cf53, Cond.initialized RJ15, Cond.code yJ15_checkIndex_7cf53 cJ15_checkIndex_7cf53 2 (some .int), Cond.methodLink RJ15 105 yJ3_checkIndex_8e157, Cond.static yJ3_checkIndex_8e157, Cond.initialized RJ3, Cond.code yJ3_checkIndex_8e157 cJ3_checkIndex_8e157 3 (some .int), Cond.methodLink RJx4a65c 123 yJx4a65c_elementData_915e3, Cond.instanceMethod yJx4a65c_elementData_915e3, Cond.selects RJx4a65c yJx4a65c_elementData_915e3 yJx4a65c_elementData_915e3, Cond.code yJx4a65c_elementData_915e3 cJx4a65c_elementData_915e3 2 (some (.object "java/lang/Object")), Cond.fieldLink RJx4a65c 9 "java/util/ArrayList" "elementData" "[Ljava/lang/Object;", Cond.methodLink RX3 159 yX1_isHeldUp, Cond.instanceMethod yX1_isHeldUp, Cond.selects RX1 yX1_isHeldUp yX1_isHeldUp, Cond.initialized RX1, Cond.code yX1_isHeldUp cX1_isHeldUp 1 (some .boolean), Cond.fieldLink RX1 15 "ClauseShop$Duty" "contract" "LClauseShop$Contract;", Cond.fieldLink RX1 30 "ClauseShop$Contract" "breaches" "[I", Cond.fieldLink RX1 19 "ClauseShop$Duty" "version" "LClauseShop$Version;", Cond.fieldLink RX1 36 "ClauseShop$Version" "obligor" "I"]
def wsX3_pass_r3 : List Cond := [Cond.methodLink RX1 26 yX1_canBeDone, Cond.instanceMethod yX1_canBeDone, Cond.selects RX1 yX1_canBeDone yX1_canBeDone, Cond.code yX1_canBeDone cX1_canBeDone 1 (some .boolean), Cond.fieldLink RX1 9 "ClauseShop$Duty" "state" "I", Cond.methodLink RX3 144 yX3_breachUncuredDuties, Cond.instanceMethod yX3_breachUncuredDuties, Cond.selects RX3 yX3_breachUncuredDuties yX3_breachUncuredDuties, Cond.code yX3_breachUncuredDuties cX3_breachUncuredDuties 4 (some .int), Cond.fieldLink RX3 151 "ClauseShop$Duty" "state" "I", Cond.methodLink RX3 167 yX1_move, Cond.instanceMethod yX1_move, Cond.selects RX1 yX1_move yX1_move, Cond.code yX1_move cX1_move 3 none, Cond.fieldLink RX1 23 "ClauseShop$Duty" "day" "I", Cond.methodLink RX3 181 yX1_countBreach, Cond.instanceMethod yX1_countBreach, Cond.selects RX1 yX1_countBreach yX1_countBreach, Cond.code yX1_countBreach cX1_countBreach 2 none, Cond.fieldLink RX1 41 "ClauseShop$Contract" "penalties" "[I", Cond.fieldLink RX1 44 "ClauseShop$Version" "penalty" "I"]
def wsX3_pass : List Cond := .code yX3_pass cX3_pass 4 (some .int) :: ((wsX3_pass_r1 ++ (wsX3_pass_r2 ++ wsX3_pass_r3)) ++ wsX30 ++ wsX10 ++ wsJx4a65c0 ++ wsX00 ++ wsX20 ++ (vx_atS RX3 51 "java/lang/IllegalArgumentException" ["java/lang/RuntimeException", "java/lang/Exception"]).filter goodWord ++ (vx_atS RX3 62 "java/lang/IllegalStateException" ["java/lang/RuntimeException", "java/lang/Exception"]).filter goodWord)
def wsX3_duties : List Cond := .code yX3_duties cX3_duties 1 (some .int) :: ([.fieldLink RX3 29 "ClauseShop" "dutyList" "Ljava/util/ArrayList;", .methodLink RX3 70 yJx4a65c_size_8abf5, .instanceMethod yJx4a65c_size_8abf5, .selects RJx4a65c yJx4a65c_size_8abf5 yJx4a65c_size_8abf5, .initialized RJx4a65c, .code yJx4a65c_size_8abf5 cJx4a65c_size_8abf5 1 (some .int), .fieldLink RJx4a65c 48 "java/util/ArrayList" "size" "I"] ++ wsX30 ++ wsJx4a65c0)
def wsX3_dutyAt_r1 : List Cond := [Cond.classLink RX3 204 "java/lang/IndexOutOfBoundsException", Cond.initialized "java/lang/IndexOutOfBoundsException", Cond.fieldLink RX3 29 "ClauseShop" "dutyList" "Ljava/util/ArrayList;", Cond.classLink RX3 152 "ClauseShop$Duty", Cond.methodLink RX3 70 yJx4a65c_size_8abf5, Cond.instanceMethod yJx4a65c_size_8abf5, Cond.selects RJx4a65c yJx4a65c_size_8abf5 yJx4a65c_size_8abf5, Cond.initialized RJx4a65c, Cond.code yJx4a65c_size_8abf5 cJx4a65c_size_8abf5 1 (some .int), Cond.fieldLink RJx4a65c 48 "java/util/ArrayList" "size" "I", Cond.methodLink RX3 43 yX3_isWithin, Cond.static yX3_isWithin, Cond.initialized RX3, Cond.code yX3_isWithin cX3_isWithin 3 (some .boolean), Cond.methodLink RX3 209 yJx4a65c_get_915e3, Cond.instanceMethod yJx4a65c_get_915e3, Cond.selects RJx4a65c yJx4a65c_get_915e3 yJx4a65c_get_915e3, Cond.code yJx4a65c_get_915e3 cJx4a65c_get_915e3 2 (some (.object "java/lang/Object")), Cond.methodLink RJx4a65c 118 yJ15_checkIndex_7cf53, Cond.static yJ15_checkIndex_7cf53, Cond.initialized RJ15, Cond.code yJ15_checkIndex_7cf53 cJ15_checkIndex_7cf53 2 (some .int), Cond.methodLink RJ15 105 yJ3_checkIndex_8e157, Cond.static yJ3_checkIndex_8e157]
def wsX3_dutyAt_r2 : List Cond := [Cond.initialized RJ3, Cond.code yJ3_checkIndex_8e157 cJ3_checkIndex_8e157 3 (some .int), Cond.methodLink RJx4a65c 123 yJx4a65c_elementData_915e3, Cond.instanceMethod yJx4a65c_elementData_915e3, Cond.selects RJx4a65c yJx4a65c_elementData_915e3 yJx4a65c_elementData_915e3, Cond.code yJx4a65c_elementData_915e3 cJx4a65c_elementData_915e3 2 (some (.object "java/lang/Object")), Cond.fieldLink RJx4a65c 9 "java/util/ArrayList" "elementData" "[Ljava/lang/Object;"]
def wsX3_dutyAt : List Cond := .code yX3_dutyAt cX3_dutyAt 2 (some (.object "ClauseShop$Duty")) :: ((wsX3_dutyAt_r1 ++ wsX3_dutyAt_r2) ++ wsX30 ++ wsJx4a65c0 ++ (vx_atS RX3 208 "java/lang/IndexOutOfBoundsException" ["java/lang/RuntimeException", "java/lang/Exception"]).filter goodWord)
def wsX3_state_r1 : List Cond := [Cond.fieldLink RX3 151 "ClauseShop$Duty" "state" "I", Cond.methodLink RX3 147 yX3_dutyAt, Cond.instanceMethod yX3_dutyAt, Cond.selects RX3 yX3_dutyAt yX3_dutyAt, Cond.initialized RX3, Cond.code yX3_dutyAt cX3_dutyAt 2 (some (.object "ClauseShop$Duty")), Cond.classLink RX3 204 "java/lang/IndexOutOfBoundsException", Cond.initialized "java/lang/IndexOutOfBoundsException", Cond.fieldLink RX3 29 "ClauseShop" "dutyList" "Ljava/util/ArrayList;", Cond.classLink RX3 152 "ClauseShop$Duty", Cond.methodLink RX3 70 yJx4a65c_size_8abf5, Cond.instanceMethod yJx4a65c_size_8abf5, Cond.selects RJx4a65c yJx4a65c_size_8abf5 yJx4a65c_size_8abf5, Cond.initialized RJx4a65c, Cond.code yJx4a65c_size_8abf5 cJx4a65c_size_8abf5 1 (some .int), Cond.fieldLink RJx4a65c 48 "java/util/ArrayList" "size" "I", Cond.methodLink RX3 43 yX3_isWithin, Cond.static yX3_isWithin, Cond.code yX3_isWithin cX3_isWithin 3 (some .boolean), Cond.methodLink RX3 209 yJx4a65c_get_915e3, Cond.instanceMethod yJx4a65c_get_915e3, Cond.selects RJx4a65c yJx4a65c_get_915e3 yJx4a65c_get_915e3, Cond.code yJx4a65c_get_915e3 cJx4a65c_get_915e3 2 (some (.object "java/lang/Object")), Cond.methodLink RJx4a65c 118 yJ15_checkIndex_7cf53]
def wsX3_state_r2 : List Cond := [Cond.static yJ15_checkIndex_7cf53, Cond.initialized RJ15, Cond.code yJ15_checkIndex_7cf53 cJ15_checkIndex_7cf53 2 (some .int), Cond.methodLink RJ15 105 yJ3_checkIndex_8e157, Cond.static yJ3_checkIndex_8e157, Cond.initialized RJ3, Cond.code yJ3_checkIndex_8e157 cJ3_checkIndex_8e157 3 (some .int), Cond.methodLink RJx4a65c 123 yJx4a65c_elementData_915e3, Cond.instanceMethod yJx4a65c_elementData_915e3, Cond.selects RJx4a65c yJx4a65c_elementData_915e3 yJx4a65c_elementData_915e3, Cond.code yJx4a65c_elementData_915e3 cJx4a65c_elementData_915e3 2 (some (.object "java/lang/Object")), Cond.fieldLink RJx4a65c 9 "java/util/ArrayList" "elementData" "[Ljava/lang/Object;"]
def wsX3_state : List Cond := .code yX3_state cX3_state 2 (some .int) :: ((wsX3_state_r1 ++ wsX3_state_r2) ++ wsX10 ++ wsX30 ++ wsJx4a65c0 ++ (vx_atS RX3 208 "java/lang/IndexOutOfBoundsException" ["java/lang/RuntimeException", "java/lang/Exception"]).filter goodWord)
def wsX3_day_r1 : List Cond := [Cond.fieldLink RX3 156 "ClauseShop$Duty" "day" "I", Cond.methodLink RX3 147 yX3_dutyAt, Cond.instanceMethod yX3_dutyAt, Cond.selects RX3 yX3_dutyAt yX3_dutyAt, Cond.initialized RX3, Cond.code yX3_dutyAt cX3_dutyAt 2 (some (.object "ClauseShop$Duty")), Cond.classLink RX3 204 "java/lang/IndexOutOfBoundsException", Cond.initialized "java/lang/IndexOutOfBoundsException", Cond.fieldLink RX3 29 "ClauseShop" "dutyList" "Ljava/util/ArrayList;", Cond.classLink RX3 152 "ClauseShop$Duty", Cond.methodLink RX3 70 yJx4a65c_size_8abf5, Cond.instanceMethod yJx4a65c_size_8abf5, Cond.selects RJx4a65c yJx4a65c_size_8abf5 yJx4a65c_size_8abf5, Cond.initialized RJx4a65c, Cond.code yJx4a65c_size_8abf5 cJx4a65c_size_8abf5 1 (some .int), Cond.fieldLink RJx4a65c 48 "java/util/ArrayList" "size" "I", Cond.methodLink RX3 43 yX3_isWithin, Cond.static yX3_isWithin, Cond.code yX3_isWithin cX3_isWithin 3 (some .boolean), Cond.methodLink RX3 209 yJx4a65c_get_915e3, Cond.instanceMethod yJx4a65c_get_915e3, Cond.selects RJx4a65c yJx4a65c_get_915e3 yJx4a65c_get_915e3, Cond.code yJx4a65c_get_915e3 cJx4a65c_get_915e3 2 (some (.object "java/lang/Object")), Cond.methodLink RJx4a65c 118 yJ15_checkIndex_7cf53]
def wsX3_day_r2 : List Cond := [Cond.static yJ15_checkIndex_7cf53, Cond.initialized RJ15, Cond.code yJ15_checkIndex_7cf53 cJ15_checkIndex_7cf53 2 (some .int), Cond.methodLink RJ15 105 yJ3_checkIndex_8e157, Cond.static yJ3_checkIndex_8e157, Cond.initialized RJ3, Cond.code yJ3_checkIndex_8e157 cJ3_checkIndex_8e157 3 (some .int), Cond.methodLink RJx4a65c 123 yJx4a65c_elementData_915e3, Cond.instanceMethod yJx4a65c_elementData_915e3, Cond.selects RJx4a65c yJx4a65c_elementData_915e3 yJx4a65c_elementData_915e3, Cond.code yJx4a65c_elementData_915e3 cJx4a65c_elementData_915e3 2 (some (.object "java/lang/Object")), Cond.fieldLink RJx4a65c 9 "java/util/ArrayList" "elementData" "[Ljava/lang/Object;"]
def wsX3_day : List Cond := .code yX3_day cX3_day 2 (some .int) :: ((wsX3_day_r1 ++ wsX3_day_r2) ++ wsX10 ++ wsX30 ++ wsJx4a65c0 ++ (vx_atS RX3 208 "java/lang/IndexOutOfBoundsException" ["java/lang/RuntimeException", "java/lang/Exception"]).filter goodWord)
def wsX3_isSuspended_r1 : List Cond := [Cond.methodLink RX3 147 yX3_dutyAt, Cond.instanceMethod yX3_dutyAt, Cond.selects RX3 yX3_dutyAt yX3_dutyAt, Cond.initialized RX3, Cond.code yX3_dutyAt cX3_dutyAt 2 (some (.object "ClauseShop$Duty")), Cond.classLink RX3 204 "java/lang/IndexOutOfBoundsException", Cond.initialized "java/lang/IndexOutOfBoundsException", Cond.fieldLink RX3 29 "ClauseShop" "dutyList" "Ljava/util/ArrayList;", Cond.classLink RX3 152 "ClauseShop$Duty", Cond.methodLink RX3 70 yJx4a65c_size_8abf5, Cond.instanceMethod yJx4a65c_size_8abf5, Cond.selects RJx4a65c yJx4a65c_size_8abf5 yJx4a65c_size_8abf5, Cond.initialized RJx4a65c, Cond.code yJx4a65c_size_8abf5 cJx4a65c_size_8abf5 1 (some .int), Cond.fieldLink RJx4a65c 48 "java/util/ArrayList" "size" "I", Cond.methodLink RX3 43 yX3_isWithin, Cond.static yX3_isWithin, Cond.code yX3_isWithin cX3_isWithin 3 (some .boolean), Cond.methodLink RX3 209 yJx4a65c_get_915e3, Cond.instanceMethod yJx4a65c_get_915e3, Cond.selects RJx4a65c yJx4a65c_get_915e3 yJx4a65c_get_915e3, Cond.code yJx4a65c_get_915e3 cJx4a65c_get_915e3 2 (some (.object "java/lang/Object")), Cond.methodLink RJx4a65c 118 yJ15_checkIndex_7cf53, Cond.static yJ15_checkIndex_7cf53]
def wsX3_isSuspended_r2 : List Cond := [Cond.initialized RJ15, Cond.code yJ15_checkIndex_7cf53 cJ15_checkIndex_7cf53 2 (some .int), Cond.methodLink RJ15 105 yJ3_checkIndex_8e157, Cond.static yJ3_checkIndex_8e157, Cond.initialized RJ3, Cond.code yJ3_checkIndex_8e157 cJ3_checkIndex_8e157 3 (some .int), Cond.methodLink RJx4a65c 123 yJx4a65c_elementData_915e3, Cond.instanceMethod yJx4a65c_elementData_915e3, Cond.selects RJx4a65c yJx4a65c_elementData_915e3 yJx4a65c_elementData_915e3, Cond.code yJx4a65c_elementData_915e3 cJx4a65c_elementData_915e3 2 (some (.object "java/lang/Object")), Cond.fieldLink RJx4a65c 9 "java/util/ArrayList" "elementData" "[Ljava/lang/Object;", Cond.methodLink RX3 159 yX1_isHeldUp, Cond.instanceMethod yX1_isHeldUp, Cond.selects RX1 yX1_isHeldUp yX1_isHeldUp, Cond.initialized RX1, Cond.code yX1_isHeldUp cX1_isHeldUp 1 (some .boolean), Cond.fieldLink RX1 15 "ClauseShop$Duty" "contract" "LClauseShop$Contract;", Cond.fieldLink RX1 30 "ClauseShop$Contract" "breaches" "[I", Cond.fieldLink RX1 19 "ClauseShop$Duty" "version" "LClauseShop$Version;", Cond.fieldLink RX1 36 "ClauseShop$Version" "obligor" "I", Cond.methodLink RX1 26 yX1_canBeDone, Cond.instanceMethod yX1_canBeDone, Cond.selects RX1 yX1_canBeDone yX1_canBeDone, Cond.code yX1_canBeDone cX1_canBeDone 1 (some .boolean)]
def wsX3_isSuspended_r3 : List Cond := [Cond.fieldLink RX1 9 "ClauseShop$Duty" "state" "I"]
def wsX3_isSuspended : List Cond := .code yX3_isSuspended cX3_isSuspended 2 (some .boolean) :: ((wsX3_isSuspended_r1 ++ (wsX3_isSuspended_r2 ++ wsX3_isSuspended_r3)) ++ wsX30 ++ wsJx4a65c0 ++ wsX10 ++ wsX00 ++ wsX20 ++ (vx_atS RX3 208 "java/lang/IndexOutOfBoundsException" ["java/lang/RuntimeException", "java/lang/Exception"]).filter goodWord)
def wsX3_perform_r1 : List Cond := [Cond.classLink RX3 58 "java/lang/IllegalStateException", Cond.initialized "java/lang/IllegalStateException", Cond.fieldLink RX3 151 "ClauseShop$Duty" "state" "I", Cond.fieldLink RX3 32 "ClauseShop" "today" "I", Cond.fieldLink RX3 156 "ClauseShop$Duty" "day" "I", Cond.methodLink RX3 147 yX3_dutyAt, Cond.instanceMethod yX3_dutyAt, Cond.selects RX3 yX3_dutyAt yX3_dutyAt, Cond.initialized RX3, Cond.code yX3_dutyAt cX3_dutyAt 2 (some (.object "ClauseShop$Duty")), Cond.classLink RX3 204 "java/lang/IndexOutOfBoundsException", Cond.initialized "java/lang/IndexOutOfBoundsException", Cond.fieldLink RX3 29 "ClauseShop" "dutyList" "Ljava/util/ArrayList;", Cond.classLink RX3 152 "ClauseShop$Duty", Cond.methodLink RX3 70 yJx4a65c_size_8abf5, Cond.instanceMethod yJx4a65c_size_8abf5, Cond.selects RJx4a65c yJx4a65c_size_8abf5 yJx4a65c_size_8abf5, Cond.initialized RJx4a65c, Cond.code yJx4a65c_size_8abf5 cJx4a65c_size_8abf5 1 (some .int), Cond.fieldLink RJx4a65c 48 "java/util/ArrayList" "size" "I", Cond.methodLink RX3 43 yX3_isWithin, Cond.static yX3_isWithin, Cond.code yX3_isWithin cX3_isWithin 3 (some .boolean), Cond.methodLink RX3 209 yJx4a65c_get_915e3]
def wsX3_perform_r2 : List Cond := [Cond.instanceMethod yJx4a65c_get_915e3, Cond.selects RJx4a65c yJx4a65c_get_915e3 yJx4a65c_get_915e3, Cond.code yJx4a65c_get_915e3 cJx4a65c_get_915e3 2 (some (.object "java/lang/Object")), Cond.methodLink RJx4a65c 118 yJ15_checkIndex_7cf53, Cond.static yJ15_checkIndex_7cf53, Cond.initialized RJ15, Cond.code yJ15_checkIndex_7cf53 cJ15_checkIndex_7cf53 2 (some .int), Cond.methodLink RJ15 105 yJ3_checkIndex_8e157, Cond.static yJ3_checkIndex_8e157, Cond.initialized RJ3, Cond.code yJ3_checkIndex_8e157 cJ3_checkIndex_8e157 3 (some .int), Cond.methodLink RJx4a65c 123 yJx4a65c_elementData_915e3, Cond.instanceMethod yJx4a65c_elementData_915e3, Cond.selects RJx4a65c yJx4a65c_elementData_915e3 yJx4a65c_elementData_915e3, Cond.code yJx4a65c_elementData_915e3 cJx4a65c_elementData_915e3 2 (some (.object "java/lang/Object")), Cond.fieldLink RJx4a65c 9 "java/util/ArrayList" "elementData" "[Ljava/lang/Object;", Cond.methodLink RX3 162 yX1_canBeDone, Cond.instanceMethod yX1_canBeDone, Cond.selects RX1 yX1_canBeDone yX1_canBeDone, Cond.initialized RX1, Cond.code yX1_canBeDone cX1_canBeDone 1 (some .boolean), Cond.fieldLink RX1 9 "ClauseShop$Duty" "state" "I", Cond.methodLink RX3 167 yX1_move, Cond.instanceMethod yX1_move]
def wsX3_perform_r3 : List Cond := [Cond.selects RX1 yX1_move yX1_move, Cond.code yX1_move cX1_move 3 none, Cond.fieldLink RX1 23 "ClauseShop$Duty" "day" "I"]
def wsX3_perform : List Cond := .code yX3_perform cX3_perform 4 (some .boolean) :: ((wsX3_perform_r1 ++ (wsX3_perform_r2 ++ wsX3_perform_r3)) ++ wsX10 ++ wsX30 ++ wsJx4a65c0 ++ (vx_atS RX3 62 "java/lang/IllegalStateException" ["java/lang/RuntimeException", "java/lang/Exception"]).filter goodWord ++ (vx_atS RX3 208 "java/lang/IndexOutOfBoundsException" ["java/lang/RuntimeException", "java/lang/Exception"]).filter goodWord)
def wsX3_notice_r1 : List Cond := [Cond.classLink RX3 58 "java/lang/IllegalStateException", Cond.initialized "java/lang/IllegalStateException", Cond.fieldLink RX3 151 "ClauseShop$Duty" "state" "I", Cond.fieldLink RX3 32 "ClauseShop" "today" "I", Cond.fieldLink RX3 156 "ClauseShop$Duty" "day" "I", Cond.fieldLink RX3 172 "ClauseShop$Duty" "version" "LClauseShop$Version;", Cond.fieldLink RX3 176 "ClauseShop$Version" "cure" "I", Cond.methodLink RX3 147 yX3_dutyAt, Cond.instanceMethod yX3_dutyAt, Cond.selects RX3 yX3_dutyAt yX3_dutyAt, Cond.initialized RX3, Cond.code yX3_dutyAt cX3_dutyAt 2 (some (.object "ClauseShop$Duty")), Cond.classLink RX3 204 "java/lang/IndexOutOfBoundsException", Cond.initialized "java/lang/IndexOutOfBoundsException", Cond.fieldLink RX3 29 "ClauseShop" "dutyList" "Ljava/util/ArrayList;", Cond.classLink RX3 152 "ClauseShop$Duty", Cond.methodLink RX3 70 yJx4a65c_size_8abf5, Cond.instanceMethod yJx4a65c_size_8abf5, Cond.selects RJx4a65c yJx4a65c_size_8abf5 yJx4a65c_size_8abf5, Cond.initialized RJx4a65c, Cond.code yJx4a65c_size_8abf5 cJx4a65c_size_8abf5 1 (some .int), Cond.fieldLink RJx4a65c 48 "java/util/ArrayList" "size" "I", Cond.methodLink RX3 43 yX3_isWithin, Cond.static yX3_isWithin]
def wsX3_notice_r2 : List Cond := [Cond.code yX3_isWithin cX3_isWithin 3 (some .boolean), Cond.methodLink RX3 209 yJx4a65c_get_915e3, Cond.instanceMethod yJx4a65c_get_915e3, Cond.selects RJx4a65c yJx4a65c_get_915e3 yJx4a65c_get_915e3, Cond.code yJx4a65c_get_915e3 cJx4a65c_get_915e3 2 (some (.object "java/lang/Object")), Cond.methodLink RJx4a65c 118 yJ15_checkIndex_7cf53, Cond.static yJ15_checkIndex_7cf53, Cond.initialized RJ15, Cond.code yJ15_checkIndex_7cf53 cJ15_checkIndex_7cf53 2 (some .int), Cond.methodLink RJ15 105 yJ3_checkIndex_8e157, Cond.static yJ3_checkIndex_8e157, Cond.initialized RJ3, Cond.code yJ3_checkIndex_8e157 cJ3_checkIndex_8e157 3 (some .int), Cond.methodLink RJx4a65c 123 yJx4a65c_elementData_915e3, Cond.instanceMethod yJx4a65c_elementData_915e3, Cond.selects RJx4a65c yJx4a65c_elementData_915e3 yJx4a65c_elementData_915e3, Cond.code yJx4a65c_elementData_915e3 cJx4a65c_elementData_915e3 2 (some (.object "java/lang/Object")), Cond.fieldLink RJx4a65c 9 "java/util/ArrayList" "elementData" "[Ljava/lang/Object;", Cond.methodLink RX3 167 yX1_move, Cond.instanceMethod yX1_move, Cond.selects RX1 yX1_move yX1_move, Cond.initialized RX1, Cond.code yX1_move cX1_move 3 none, Cond.fieldLink RX1 9 "ClauseShop$Duty" "state" "I"]
def wsX3_notice_r3 : List Cond := [Cond.fieldLink RX1 23 "ClauseShop$Duty" "day" "I"]
def wsX3_notice : List Cond := .code yX3_notice cX3_notice 3 (some .int) :: ((wsX3_notice_r1 ++ (wsX3_notice_r2 ++ wsX3_notice_r3)) ++ wsX10 ++ wsX30 ++ wsX20 ++ wsJx4a65c0 ++ (vx_atS RX3 62 "java/lang/IllegalStateException" ["java/lang/RuntimeException", "java/lang/Exception"]).filter goodWord ++ (vx_atS RX3 208 "java/lang/IndexOutOfBoundsException" ["java/lang/RuntimeException", "java/lang/Exception"]).filter goodWord)
def wsX3_settle_r1 : List Cond := [Cond.classLink RX3 58 "java/lang/IllegalStateException", Cond.initialized "java/lang/IllegalStateException", Cond.fieldLink RX3 151 "ClauseShop$Duty" "state" "I", Cond.fieldLink RX3 32 "ClauseShop" "today" "I", Cond.fieldLink RX3 172 "ClauseShop$Duty" "version" "LClauseShop$Version;", Cond.fieldLink RX3 184 "ClauseShop$Version" "penalty" "I", Cond.methodLink RX3 147 yX3_dutyAt, Cond.instanceMethod yX3_dutyAt, Cond.selects RX3 yX3_dutyAt yX3_dutyAt, Cond.initialized RX3, Cond.code yX3_dutyAt cX3_dutyAt 2 (some (.object "ClauseShop$Duty")), Cond.classLink RX3 204 "java/lang/IndexOutOfBoundsException", Cond.initialized "java/lang/IndexOutOfBoundsException", Cond.fieldLink RX3 29 "ClauseShop" "dutyList" "Ljava/util/ArrayList;", Cond.classLink RX3 152 "ClauseShop$Duty", Cond.methodLink RX3 70 yJx4a65c_size_8abf5, Cond.instanceMethod yJx4a65c_size_8abf5, Cond.selects RJx4a65c yJx4a65c_size_8abf5 yJx4a65c_size_8abf5, Cond.initialized RJx4a65c, Cond.code yJx4a65c_size_8abf5 cJx4a65c_size_8abf5 1 (some .int), Cond.fieldLink RJx4a65c 48 "java/util/ArrayList" "size" "I", Cond.methodLink RX3 43 yX3_isWithin, Cond.static yX3_isWithin, Cond.code yX3_isWithin cX3_isWithin 3 (some .boolean)]
def wsX3_settle_r2 : List Cond := [Cond.methodLink RX3 209 yJx4a65c_get_915e3, Cond.instanceMethod yJx4a65c_get_915e3, Cond.selects RJx4a65c yJx4a65c_get_915e3 yJx4a65c_get_915e3, Cond.code yJx4a65c_get_915e3 cJx4a65c_get_915e3 2 (some (.object "java/lang/Object")), Cond.methodLink RJx4a65c 118 yJ15_checkIndex_7cf53, Cond.static yJ15_checkIndex_7cf53, Cond.initialized RJ15, Cond.code yJ15_checkIndex_7cf53 cJ15_checkIndex_7cf53 2 (some .int), Cond.methodLink RJ15 105 yJ3_checkIndex_8e157, Cond.static yJ3_checkIndex_8e157, Cond.initialized RJ3, Cond.code yJ3_checkIndex_8e157 cJ3_checkIndex_8e157 3 (some .int), Cond.methodLink RJx4a65c 123 yJx4a65c_elementData_915e3, Cond.instanceMethod yJx4a65c_elementData_915e3, Cond.selects RJx4a65c yJx4a65c_elementData_915e3 yJx4a65c_elementData_915e3, Cond.code yJx4a65c_elementData_915e3 cJx4a65c_elementData_915e3 2 (some (.object "java/lang/Object")), Cond.fieldLink RJx4a65c 9 "java/util/ArrayList" "elementData" "[Ljava/lang/Object;", Cond.methodLink RX3 167 yX1_move, Cond.instanceMethod yX1_move, Cond.selects RX1 yX1_move yX1_move, Cond.initialized RX1, Cond.code yX1_move cX1_move 3 none, Cond.fieldLink RX1 9 "ClauseShop$Duty" "state" "I", Cond.fieldLink RX1 23 "ClauseShop$Duty" "day" "I"]
def wsX3_settle_r3 : List Cond := [Cond.methodLink RX3 181 yX1_countBreach, Cond.instanceMethod yX1_countBreach, Cond.selects RX1 yX1_countBreach yX1_countBreach, Cond.code yX1_countBreach cX1_countBreach 2 none, Cond.fieldLink RX1 15 "ClauseShop$Duty" "contract" "LClauseShop$Contract;", Cond.fieldLink RX1 30 "ClauseShop$Contract" "breaches" "[I", Cond.fieldLink RX1 19 "ClauseShop$Duty" "version" "LClauseShop$Version;", Cond.fieldLink RX1 36 "ClauseShop$Version" "obligor" "I", Cond.fieldLink RX1 41 "ClauseShop$Contract" "penalties" "[I", Cond.fieldLink RX1 44 "ClauseShop$Version" "penalty" "I"]
def wsX3_settle : List Cond := .code yX3_settle cX3_settle 3 (some .int) :: ((wsX3_settle_r1 ++ (wsX3_settle_r2 ++ wsX3_settle_r3)) ++ wsX10 ++ wsX30 ++ wsX20 ++ wsJx4a65c0 ++ wsX00 ++ (vx_atS RX3 62 "java/lang/IllegalStateException" ["java/lang/RuntimeException", "java/lang/Exception"]).filter goodWord ++ (vx_atS RX3 208 "java/lang/IndexOutOfBoundsException" ["java/lang/RuntimeException", "java/lang/Exception"]).filter goodWord)
def wsX3_owes_r1 : List Cond := [Cond.fieldLink RX3 187 "ClauseShop$Contract" "penalties" "[I", Cond.methodLink RX3 190 Lib.Math.max.name, Cond.static Lib.Math.max.name, Cond.initialized "java/lang/Math", Cond.code Lib.Math.max.name Lib.Math.max.code 2 (some .int), Cond.methodLink RX3 83 yX3_contractAt, Cond.instanceMethod yX3_contractAt, Cond.selects RX3 yX3_contractAt yX3_contractAt, Cond.initialized RX3, Cond.code yX3_contractAt cX3_contractAt 2 (some (.object "ClauseShop$Contract")), Cond.classLink RX3 204 "java/lang/IndexOutOfBoundsException", Cond.initialized "java/lang/IndexOutOfBoundsException", Cond.fieldLink RX3 25 "ClauseShop" "contracts" "Ljava/util/ArrayList;", Cond.classLink RX3 76 "ClauseShop$Contract", Cond.methodLink RX3 70 yJx4a65c_size_8abf5, Cond.instanceMethod yJx4a65c_size_8abf5, Cond.selects RJx4a65c yJx4a65c_size_8abf5 yJx4a65c_size_8abf5, Cond.initialized RJx4a65c, Cond.code yJx4a65c_size_8abf5 cJx4a65c_size_8abf5 1 (some .int), Cond.fieldLink RJx4a65c 48 "java/util/ArrayList" "size" "I", Cond.methodLink RX3 43 yX3_isWithin, Cond.static yX3_isWithin, Cond.code yX3_isWithin cX3_isWithin 3 (some .boolean), Cond.methodLink RX3 209 yJx4a65c_get_915e3]
def wsX3_owes_r2 : List Cond := [Cond.instanceMethod yJx4a65c_get_915e3, Cond.selects RJx4a65c yJx4a65c_get_915e3 yJx4a65c_get_915e3, Cond.code yJx4a65c_get_915e3 cJx4a65c_get_915e3 2 (some (.object "java/lang/Object")), Cond.methodLink RJx4a65c 118 yJ15_checkIndex_7cf53, Cond.static yJ15_checkIndex_7cf53, Cond.initialized RJ15, Cond.code yJ15_checkIndex_7cf53 cJ15_checkIndex_7cf53 2 (some .int), Cond.methodLink RJ15 105 yJ3_checkIndex_8e157, Cond.static yJ3_checkIndex_8e157, Cond.initialized RJ3, Cond.code yJ3_checkIndex_8e157 cJ3_checkIndex_8e157 3 (some .int), Cond.methodLink RJx4a65c 123 yJx4a65c_elementData_915e3, Cond.instanceMethod yJx4a65c_elementData_915e3, Cond.selects RJx4a65c yJx4a65c_elementData_915e3 yJx4a65c_elementData_915e3, Cond.code yJx4a65c_elementData_915e3 cJx4a65c_elementData_915e3 2 (some (.object "java/lang/Object")), Cond.fieldLink RJx4a65c 9 "java/util/ArrayList" "elementData" "[Ljava/lang/Object;", Cond.methodLink RX3 40 yX3_checkSide, Cond.static yX3_checkSide, Cond.code yX3_checkSide cX3_checkSide 1 none, Cond.classLink RX3 47 "java/lang/IllegalArgumentException", Cond.initialized "java/lang/IllegalArgumentException"]
def wsX3_owes : List Cond := .code yX3_owes cX3_owes 4 (some .int) :: ((wsX3_owes_r1 ++ wsX3_owes_r2) ++ wsX00 ++ wsX30 ++ wsJx4a65c0 ++ (vx_atS RX3 208 "java/lang/IndexOutOfBoundsException" ["java/lang/RuntimeException", "java/lang/Exception"]).filter goodWord ++ (vx_atS RX3 51 "java/lang/IllegalArgumentException" ["java/lang/RuntimeException", "java/lang/Exception"]).filter goodWord)
def wsX4_init : List Cond := .code yX4_init cX4_init 1 none :: ([.methodLink RX4 1 objectInit, .instanceMethod objectInit, .code objectInit ⟨#[0xb1]⟩ 1 none, .arrayClass .int, .fieldLink RX4 7 "ClauseShopModel" "latest" "[I", .fieldLink RX4 13 "ClauseShopModel" "obligor" "[I", .fieldLink RX4 16 "ClauseShopModel" "days" "[I", .fieldLink RX4 19 "ClauseShopModel" "cure" "[I", .fieldLink RX4 22 "ClauseShopModel" "penalty" "[I", .fieldLink RX4 25 "ClauseShopModel" "needs" "[I", .fieldLink RX4 28 "ClauseShopModel" "forbids" "[I", .arrayClass .boolean, .fieldLink RX4 31 "ClauseShopModel" "isSigned" "[Z", .fieldLink RX4 35 "ClauseShopModel" "signed" "[I", .fieldLink RX4 38 "ClauseShopModel" "version" "[I", .fieldLink RX4 41 "ClauseShopModel" "mark" "[I", .fieldLink RX4 44 "ClauseShopModel" "contract" "[I", .fieldLink RX4 47 "ClauseShopModel" "side" "[I", .fieldLink RX4 50 "ClauseShopModel" "itsCure" "[I", .fieldLink RX4 53 "ClauseShopModel" "itsPenalty" "[I", .fieldLink RX4 56 "ClauseShopModel" "state" "[I", .fieldLink RX4 59 "ClauseShopModel" "counts" "[I", .fieldLink RX4 62 "ClauseShopModel" "isLater" "[Z"] ++ wsX40)
def wsX4_thrown : List Cond := .code yX4_thrown cX4_thrown 1 (some .int) :: ([.fieldLink RX4 65 "ClauseShopModel" "thrown" "I"] ++ wsX40)
def wsX4_in : List Cond := .code yX4_in cX4_in 3 (some .boolean) :: ([])
def wsX4_isClause : List Cond := .code yX4_isClause cX4_isClause 1 (some .boolean) :: ([.methodLink RX4 69 yX4_in, .static yX4_in, .initialized RX4, .code yX4_in cX4_in 3 (some .boolean)])
def wsX4_isSide : List Cond := .code yX4_isSide cX4_isSide 1 (some .boolean) :: ([.methodLink RX4 69 yX4_in, .static yX4_in, .initialized RX4, .code yX4_in cX4_in 3 (some .boolean)])
def wsX4_isContract : List Cond := .code yX4_isContract cX4_isContract 2 (some .boolean) :: ([.fieldLink RX4 73 "ClauseShopModel" "contracts" "I", .methodLink RX4 69 yX4_in, .static yX4_in, .initialized RX4, .code yX4_in cX4_in 3 (some .boolean)] ++ wsX40)
def wsX4_isDuty : List Cond := .code yX4_isDuty cX4_isDuty 2 (some .boolean) :: ([.fieldLink RX4 76 "ClauseShopModel" "duties" "I", .methodLink RX4 69 yX4_in, .static yX4_in, .initialized RX4, .code yX4_in cX4_in 3 (some .boolean)] ++ wsX40)
def wsX4_issue : List Cond := .code yX4_issue cX4_issue 8 (some .int) :: ([.fieldLink RX4 7 "ClauseShopModel" "latest" "[I", .fieldLink RX4 65 "ClauseShopModel" "thrown" "I", .fieldLink RX4 13 "ClauseShopModel" "obligor" "[I", .fieldLink RX4 16 "ClauseShopModel" "days" "[I", .fieldLink RX4 19 "ClauseShopModel" "cure" "[I", .fieldLink RX4 22 "ClauseShopModel" "penalty" "[I", .methodLink RX4 79 yX4_isClause, .static yX4_isClause, .initialized RX4, .code yX4_isClause cX4_isClause 1 (some .boolean), .methodLink RX4 69 yX4_in, .static yX4_in, .code yX4_in cX4_in 3 (some .boolean), .methodLink RX4 83 yX4_isSide, .static yX4_isSide, .code yX4_isSide cX4_isSide 1 (some .boolean)] ++ wsX40)
def wsX4_relate : List Cond := .code yX4_relate cX4_relate 5 none :: ([.fieldLink RX4 65 "ClauseShopModel" "thrown" "I", .fieldLink RX4 25 "ClauseShopModel" "needs" "[I", .fieldLink RX4 28 "ClauseShopModel" "forbids" "[I", .methodLink RX4 79 yX4_isClause, .static yX4_isClause, .initialized RX4, .code yX4_isClause cX4_isClause 1 (some .boolean), .methodLink RX4 69 yX4_in, .static yX4_in, .code yX4_in cX4_in 3 (some .boolean)] ++ wsX40)
def wsX4_latest : List Cond := .code yX4_latest cX4_latest 2 (some .int) :: ([.fieldLink RX4 65 "ClauseShopModel" "thrown" "I", .fieldLink RX4 7 "ClauseShopModel" "latest" "[I", .methodLink RX4 79 yX4_isClause, .static yX4_isClause, .initialized RX4, .code yX4_isClause cX4_isClause 1 (some .boolean), .methodLink RX4 69 yX4_in, .static yX4_in, .code yX4_in cX4_in 3 (some .boolean)] ++ wsX40)
def wsX4_begin : List Cond := .code yX4_begin cX4_begin 1 (some .int) :: ([.fieldLink RX4 73 "ClauseShopModel" "contracts" "I", .fieldLink RX4 65 "ClauseShopModel" "thrown" "I"] ++ wsX40)
def wsX4_marks : List Cond := .code yX4_marks cX4_marks 7 none :: ([.fieldLink RX4 41 "ClauseShopModel" "mark" "[I", .fieldLink RX4 35 "ClauseShopModel" "signed" "[I", .fieldLink RX4 38 "ClauseShopModel" "version" "[I"] ++ wsX40)
def wsX4_mark_r1 : List Cond := [Cond.fieldLink RX4 65 "ClauseShopModel" "thrown" "I", Cond.fieldLink RX4 38 "ClauseShopModel" "version" "[I", Cond.fieldLink RX4 31 "ClauseShopModel" "isSigned" "[Z", Cond.fieldLink RX4 7 "ClauseShopModel" "latest" "[I", Cond.fieldLink RX4 41 "ClauseShopModel" "mark" "[I", Cond.methodLink RX4 86 yX4_isContract, Cond.instanceMethod yX4_isContract, Cond.selects RX4 yX4_isContract yX4_isContract, Cond.initialized RX4, Cond.code yX4_isContract cX4_isContract 2 (some .boolean), Cond.fieldLink RX4 73 "ClauseShopModel" "contracts" "I", Cond.methodLink RX4 69 yX4_in, Cond.static yX4_in, Cond.code yX4_in cX4_in 3 (some .boolean), Cond.methodLink RX4 83 yX4_isSide, Cond.static yX4_isSide, Cond.code yX4_isSide cX4_isSide 1 (some .boolean), Cond.methodLink RX4 79 yX4_isClause, Cond.static yX4_isClause, Cond.code yX4_isClause cX4_isClause 1 (some .boolean), Cond.methodLink RX4 89 yX4_marks, Cond.instanceMethod yX4_marks, Cond.selects RX4 yX4_marks yX4_marks, Cond.code yX4_marks cX4_marks 7 none]
def wsX4_mark_r2 : List Cond := [Cond.fieldLink RX4 35 "ClauseShopModel" "signed" "[I"]
def wsX4_mark : List Cond := .code yX4_mark cX4_mark 7 (some .int) :: ((wsX4_mark_r1 ++ wsX4_mark_r2) ++ wsX40)
def wsX4_renew : List Cond := .code yX4_renew cX4_renew 6 (some .int) :: ([.fieldLink RX4 65 "ClauseShopModel" "thrown" "I", .fieldLink RX4 31 "ClauseShopModel" "isSigned" "[Z", .fieldLink RX4 38 "ClauseShopModel" "version" "[I", .fieldLink RX4 7 "ClauseShopModel" "latest" "[I", .fieldLink RX4 41 "ClauseShopModel" "mark" "[I", .fieldLink RX4 35 "ClauseShopModel" "signed" "[I", .methodLink RX4 86 yX4_isContract, .instanceMethod yX4_isContract, .selects RX4 yX4_isContract yX4_isContract, .initialized RX4, .code yX4_isContract cX4_isContract 2 (some .boolean), .fieldLink RX4 73 "ClauseShopModel" "contracts" "I", .methodLink RX4 69 yX4_in, .static yX4_in, .code yX4_in cX4_in 3 (some .boolean), .methodLink RX4 83 yX4_isSide, .static yX4_isSide, .code yX4_isSide cX4_isSide 1 (some .boolean), .methodLink RX4 79 yX4_isClause, .static yX4_isClause, .code yX4_isClause cX4_isClause 1 (some .boolean)] ++ wsX40)
def wsX4_version : List Cond := .code yX4_version cX4_version 3 (some .int) :: ([.fieldLink RX4 65 "ClauseShopModel" "thrown" "I", .fieldLink RX4 38 "ClauseShopModel" "version" "[I", .methodLink RX4 86 yX4_isContract, .instanceMethod yX4_isContract, .selects RX4 yX4_isContract yX4_isContract, .initialized RX4, .code yX4_isContract cX4_isContract 2 (some .boolean), .fieldLink RX4 73 "ClauseShopModel" "contracts" "I", .methodLink RX4 69 yX4_in, .static yX4_in, .code yX4_in cX4_in 3 (some .boolean), .methodLink RX4 79 yX4_isClause, .static yX4_isClause, .code yX4_isClause cX4_isClause 1 (some .boolean)] ++ wsX40)
def wsX4_offered : List Cond := .code yX4_offered cX4_offered 5 (some .int) :: ([.fieldLink RX4 65 "ClauseShopModel" "thrown" "I", .fieldLink RX4 31 "ClauseShopModel" "isSigned" "[Z", .fieldLink RX4 38 "ClauseShopModel" "version" "[I", .fieldLink RX4 7 "ClauseShopModel" "latest" "[I", .methodLink RX4 86 yX4_isContract, .instanceMethod yX4_isContract, .selects RX4 yX4_isContract yX4_isContract, .initialized RX4, .code yX4_isContract cX4_isContract 2 (some .boolean), .fieldLink RX4 73 "ClauseShopModel" "contracts" "I", .methodLink RX4 69 yX4_in, .static yX4_in, .code yX4_in cX4_in 3 (some .boolean)] ++ wsX40)
def wsX4_reason : List Cond := .code yX4_reason cX4_reason 8 (some .int) :: ([.fieldLink RX4 38 "ClauseShopModel" "version" "[I", .fieldLink RX4 25 "ClauseShopModel" "needs" "[I", .fieldLink RX4 28 "ClauseShopModel" "forbids" "[I", .fieldLink RX4 41 "ClauseShopModel" "mark" "[I", .fieldLink RX4 31 "ClauseShopModel" "isSigned" "[Z"] ++ wsX40)
def wsX4_whyNot : List Cond := .code yX4_whyNot cX4_whyNot 2 (some .int) :: ([.fieldLink RX4 65 "ClauseShopModel" "thrown" "I", .methodLink RX4 86 yX4_isContract, .instanceMethod yX4_isContract, .selects RX4 yX4_isContract yX4_isContract, .initialized RX4, .code yX4_isContract cX4_isContract 2 (some .boolean), .fieldLink RX4 73 "ClauseShopModel" "contracts" "I", .methodLink RX4 69 yX4_in, .static yX4_in, .code yX4_in cX4_in 3 (some .boolean), .methodLink RX4 93 yX4_reason, .instanceMethod yX4_reason, .selects RX4 yX4_reason yX4_reason, .code yX4_reason cX4_reason 8 (some .int), .fieldLink RX4 38 "ClauseShopModel" "version" "[I", .fieldLink RX4 25 "ClauseShopModel" "needs" "[I", .fieldLink RX4 28 "ClauseShopModel" "forbids" "[I", .fieldLink RX4 41 "ClauseShopModel" "mark" "[I", .fieldLink RX4 31 "ClauseShopModel" "isSigned" "[Z"] ++ wsX40)
def wsX4_makesDuties : List Cond := .code yX4_makesDuties cX4_makesDuties 6 (some .int) :: ([.fieldLink RX4 38 "ClauseShopModel" "version" "[I", .fieldLink RX4 44 "ClauseShopModel" "contract" "[I", .fieldLink RX4 76 "ClauseShopModel" "duties" "I", .fieldLink RX4 47 "ClauseShopModel" "side" "[I", .fieldLink RX4 13 "ClauseShopModel" "obligor" "[I", .fieldLink RX4 50 "ClauseShopModel" "itsCure" "[I", .fieldLink RX4 19 "ClauseShopModel" "cure" "[I", .fieldLink RX4 53 "ClauseShopModel" "itsPenalty" "[I", .fieldLink RX4 22 "ClauseShopModel" "penalty" "[I", .fieldLink RX4 56 "ClauseShopModel" "state" "[I", .fieldLink RX4 59 "ClauseShopModel" "counts" "[I", .fieldLink RX4 97 "ClauseShopModel" "day" "I", .fieldLink RX4 16 "ClauseShopModel" "days" "[I"] ++ wsX40)
def wsX4_sign_r1 : List Cond := [Cond.fieldLink RX4 35 "ClauseShopModel" "signed" "[I", Cond.fieldLink RX4 65 "ClauseShopModel" "thrown" "I", Cond.fieldLink RX4 31 "ClauseShopModel" "isSigned" "[Z", Cond.methodLink RX4 86 yX4_isContract, Cond.instanceMethod yX4_isContract, Cond.selects RX4 yX4_isContract yX4_isContract, Cond.initialized RX4, Cond.code yX4_isContract cX4_isContract 2 (some .boolean), Cond.fieldLink RX4 73 "ClauseShopModel" "contracts" "I", Cond.methodLink RX4 69 yX4_in, Cond.static yX4_in, Cond.code yX4_in cX4_in 3 (some .boolean), Cond.methodLink RX4 83 yX4_isSide, Cond.static yX4_isSide, Cond.code yX4_isSide cX4_isSide 1 (some .boolean), Cond.methodLink RX4 93 yX4_reason, Cond.instanceMethod yX4_reason, Cond.selects RX4 yX4_reason yX4_reason, Cond.code yX4_reason cX4_reason 8 (some .int), Cond.fieldLink RX4 38 "ClauseShopModel" "version" "[I", Cond.fieldLink RX4 25 "ClauseShopModel" "needs" "[I", Cond.fieldLink RX4 28 "ClauseShopModel" "forbids" "[I", Cond.fieldLink RX4 41 "ClauseShopModel" "mark" "[I", Cond.methodLink RX4 100 yX4_makesDuties]
def wsX4_sign_r2 : List Cond := [Cond.instanceMethod yX4_makesDuties, Cond.selects RX4 yX4_makesDuties yX4_makesDuties, Cond.code yX4_makesDuties cX4_makesDuties 6 (some .int), Cond.fieldLink RX4 44 "ClauseShopModel" "contract" "[I", Cond.fieldLink RX4 76 "ClauseShopModel" "duties" "I", Cond.fieldLink RX4 47 "ClauseShopModel" "side" "[I", Cond.fieldLink RX4 13 "ClauseShopModel" "obligor" "[I", Cond.fieldLink RX4 50 "ClauseShopModel" "itsCure" "[I", Cond.fieldLink RX4 19 "ClauseShopModel" "cure" "[I", Cond.fieldLink RX4 53 "ClauseShopModel" "itsPenalty" "[I", Cond.fieldLink RX4 22 "ClauseShopModel" "penalty" "[I", Cond.fieldLink RX4 56 "ClauseShopModel" "state" "[I", Cond.fieldLink RX4 59 "ClauseShopModel" "counts" "[I", Cond.fieldLink RX4 97 "ClauseShopModel" "day" "I", Cond.fieldLink RX4 16 "ClauseShopModel" "days" "[I"]
def wsX4_sign : List Cond := .code yX4_sign cX4_sign 3 (some .int) :: ((wsX4_sign_r1 ++ wsX4_sign_r2) ++ wsX40)
def wsX4_isSuspendedNow : List Cond := .code yX4_isSuspendedNow cX4_isSuspendedNow 4 (some .boolean) :: ([.fieldLink RX4 76 "ClauseShopModel" "duties" "I", .fieldLink RX4 44 "ClauseShopModel" "contract" "[I", .fieldLink RX4 47 "ClauseShopModel" "side" "[I", .fieldLink RX4 56 "ClauseShopModel" "state" "[I"] ++ wsX40)
def wsX4_passes : List Cond := .code yX4_passes cX4_passes 3 (some .int) :: ([.fieldLink RX4 97 "ClauseShopModel" "day" "I", .fieldLink RX4 76 "ClauseShopModel" "duties" "I", .fieldLink RX4 62 "ClauseShopModel" "isLater" "[Z", .fieldLink RX4 59 "ClauseShopModel" "counts" "[I", .fieldLink RX4 56 "ClauseShopModel" "state" "[I", .methodLink RX4 103 yX4_isSuspendedNow, .instanceMethod yX4_isSuspendedNow, .selects RX4 yX4_isSuspendedNow yX4_isSuspendedNow, .initialized RX4, .code yX4_isSuspendedNow cX4_isSuspendedNow 4 (some .boolean), .fieldLink RX4 44 "ClauseShopModel" "contract" "[I", .fieldLink RX4 47 "ClauseShopModel" "side" "[I"] ++ wsX40)
def wsX4_pass : List Cond := .code yX4_pass cX4_pass 4 (some .int) :: ([.fieldLink RX4 97 "ClauseShopModel" "day" "I", .fieldLink RX4 65 "ClauseShopModel" "thrown" "I", .methodLink RX4 69 yX4_in, .static yX4_in, .initialized RX4, .code yX4_in cX4_in 3 (some .boolean), .methodLink RX4 106 yX4_passes, .instanceMethod yX4_passes, .selects RX4 yX4_passes yX4_passes, .code yX4_passes cX4_passes 3 (some .int), .fieldLink RX4 76 "ClauseShopModel" "duties" "I", .fieldLink RX4 62 "ClauseShopModel" "isLater" "[Z", .fieldLink RX4 59 "ClauseShopModel" "counts" "[I", .fieldLink RX4 56 "ClauseShopModel" "state" "[I", .methodLink RX4 103 yX4_isSuspendedNow, .instanceMethod yX4_isSuspendedNow, .selects RX4 yX4_isSuspendedNow yX4_isSuspendedNow, .code yX4_isSuspendedNow cX4_isSuspendedNow 4 (some .boolean), .fieldLink RX4 44 "ClauseShopModel" "contract" "[I", .fieldLink RX4 47 "ClauseShopModel" "side" "[I"] ++ wsX40)
def wsX4_duties : List Cond := .code yX4_duties cX4_duties 1 (some .int) :: ([.fieldLink RX4 65 "ClauseShopModel" "thrown" "I", .fieldLink RX4 76 "ClauseShopModel" "duties" "I"] ++ wsX40)
def wsX4_state : List Cond := .code yX4_state cX4_state 2 (some .int) :: ([.fieldLink RX4 65 "ClauseShopModel" "thrown" "I", .fieldLink RX4 56 "ClauseShopModel" "state" "[I", .methodLink RX4 110 yX4_isDuty, .instanceMethod yX4_isDuty, .selects RX4 yX4_isDuty yX4_isDuty, .initialized RX4, .code yX4_isDuty cX4_isDuty 2 (some .boolean), .fieldLink RX4 76 "ClauseShopModel" "duties" "I", .methodLink RX4 69 yX4_in, .static yX4_in, .code yX4_in cX4_in 3 (some .boolean)] ++ wsX40)
def wsX4_day : List Cond := .code yX4_day cX4_day 2 (some .int) :: ([.fieldLink RX4 65 "ClauseShopModel" "thrown" "I", .fieldLink RX4 59 "ClauseShopModel" "counts" "[I", .methodLink RX4 110 yX4_isDuty, .instanceMethod yX4_isDuty, .selects RX4 yX4_isDuty yX4_isDuty, .initialized RX4, .code yX4_isDuty cX4_isDuty 2 (some .boolean), .fieldLink RX4 76 "ClauseShopModel" "duties" "I", .methodLink RX4 69 yX4_in, .static yX4_in, .code yX4_in cX4_in 3 (some .boolean)] ++ wsX40)
def wsX4_isSuspended : List Cond := .code yX4_isSuspended cX4_isSuspended 2 (some .boolean) :: ([.fieldLink RX4 65 "ClauseShopModel" "thrown" "I", .methodLink RX4 110 yX4_isDuty, .instanceMethod yX4_isDuty, .selects RX4 yX4_isDuty yX4_isDuty, .initialized RX4, .code yX4_isDuty cX4_isDuty 2 (some .boolean), .fieldLink RX4 76 "ClauseShopModel" "duties" "I", .methodLink RX4 69 yX4_in, .static yX4_in, .code yX4_in cX4_in 3 (some .boolean), .methodLink RX4 103 yX4_isSuspendedNow, .instanceMethod yX4_isSuspendedNow, .selects RX4 yX4_isSuspendedNow yX4_isSuspendedNow, .code yX4_isSuspendedNow cX4_isSuspendedNow 4 (some .boolean), .fieldLink RX4 44 "ClauseShopModel" "contract" "[I", .fieldLink RX4 47 "ClauseShopModel" "side" "[I", .fieldLink RX4 56 "ClauseShopModel" "state" "[I"] ++ wsX40)
def wsX4_perform : List Cond := .code yX4_perform cX4_perform 3 (some .boolean) :: ([.fieldLink RX4 56 "ClauseShopModel" "state" "[I", .fieldLink RX4 65 "ClauseShopModel" "thrown" "I", .fieldLink RX4 97 "ClauseShopModel" "day" "I", .fieldLink RX4 59 "ClauseShopModel" "counts" "[I", .methodLink RX4 110 yX4_isDuty, .instanceMethod yX4_isDuty, .selects RX4 yX4_isDuty yX4_isDuty, .initialized RX4, .code yX4_isDuty cX4_isDuty 2 (some .boolean), .fieldLink RX4 76 "ClauseShopModel" "duties" "I", .methodLink RX4 69 yX4_in, .static yX4_in, .code yX4_in cX4_in 3 (some .boolean)] ++ wsX40)
def wsX4_notice : List Cond := .code yX4_notice cX4_notice 2 (some .int) :: ([.fieldLink RX4 56 "ClauseShopModel" "state" "[I", .fieldLink RX4 97 "ClauseShopModel" "day" "I", .fieldLink RX4 59 "ClauseShopModel" "counts" "[I", .fieldLink RX4 65 "ClauseShopModel" "thrown" "I", .fieldLink RX4 50 "ClauseShopModel" "itsCure" "[I", .methodLink RX4 110 yX4_isDuty, .instanceMethod yX4_isDuty, .selects RX4 yX4_isDuty yX4_isDuty, .initialized RX4, .code yX4_isDuty cX4_isDuty 2 (some .boolean), .fieldLink RX4 76 "ClauseShopModel" "duties" "I", .methodLink RX4 69 yX4_in, .static yX4_in, .code yX4_in cX4_in 3 (some .boolean)] ++ wsX40)
def wsX4_settle : List Cond := .code yX4_settle cX4_settle 2 (some .int) :: ([.fieldLink RX4 56 "ClauseShopModel" "state" "[I", .fieldLink RX4 65 "ClauseShopModel" "thrown" "I", .fieldLink RX4 59 "ClauseShopModel" "counts" "[I", .fieldLink RX4 97 "ClauseShopModel" "day" "I", .fieldLink RX4 53 "ClauseShopModel" "itsPenalty" "[I", .methodLink RX4 110 yX4_isDuty, .instanceMethod yX4_isDuty, .selects RX4 yX4_isDuty yX4_isDuty, .initialized RX4, .code yX4_isDuty cX4_isDuty 2 (some .boolean), .fieldLink RX4 76 "ClauseShopModel" "duties" "I", .methodLink RX4 69 yX4_in, .static yX4_in, .code yX4_in cX4_in 3 (some .boolean)] ++ wsX40)
def wsX4_owes : List Cond := .code yX4_owes cX4_owes 6 (some .int) :: ([.fieldLink RX4 65 "ClauseShopModel" "thrown" "I", .fieldLink RX4 76 "ClauseShopModel" "duties" "I", .fieldLink RX4 44 "ClauseShopModel" "contract" "[I", .fieldLink RX4 56 "ClauseShopModel" "state" "[I", .fieldLink RX4 47 "ClauseShopModel" "side" "[I", .fieldLink RX4 53 "ClauseShopModel" "itsPenalty" "[I", .methodLink RX4 86 yX4_isContract, .instanceMethod yX4_isContract, .selects RX4 yX4_isContract yX4_isContract, .initialized RX4, .code yX4_isContract cX4_isContract 2 (some .boolean), .fieldLink RX4 73 "ClauseShopModel" "contracts" "I", .methodLink RX4 69 yX4_in, .static yX4_in, .code yX4_in cX4_in 3 (some .boolean), .methodLink RX4 83 yX4_isSide, .static yX4_isSide, .code yX4_isSide cX4_isSide 1 (some .boolean)] ++ wsX40)
def wsJ9_max_7cf53 : List Cond := .code yJ9_max_7cf53 cJ9_max_7cf53 2 (some .int) :: ([])
def wsJ9_min_7cf53 : List Cond := .code yJ9_min_7cf53 cJ9_min_7cf53 2 (some .int) :: ([])
def wsL_issue_r1 : List Cond := [Cond.classLink RL 13 "java/lang/IllegalArgumentException", Cond.classLink RL 15 "java/lang/IllegalStateException", Cond.methodLink RL 7 yX3_issue, Cond.instanceMethod yX3_issue, Cond.selects RX3 yX3_issue yX3_issue, Cond.initialized RX3, Cond.code yX3_issue cX3_issue 7 (some .int), Cond.classLink RX3 47 "java/lang/IllegalArgumentException", Cond.initialized "java/lang/IllegalArgumentException", Cond.classLink RX3 58 "java/lang/IllegalStateException", Cond.initialized "java/lang/IllegalStateException", Cond.fieldLink RX3 11 "ClauseShop" "newest" "[LClauseShop$Version;", Cond.classLink RX3 9 RX2, Cond.instantiable RX2 5, Cond.initialized RX2, Cond.methodLink RX3 36 yX3_checkClause, Cond.static yX3_checkClause, Cond.code yX3_checkClause cX3_checkClause 1 none, Cond.methodLink RX3 43 yX3_isWithin, Cond.static yX3_isWithin, Cond.code yX3_isWithin cX3_isWithin 3 (some .boolean), Cond.methodLink RX3 40 yX3_checkSide, Cond.static yX3_checkSide, Cond.code yX3_checkSide cX3_checkSide 1 none]
def wsL_issue_r2 : List Cond := [Cond.methodLink RX3 54 yX3_newestNumber, Cond.instanceMethod yX3_newestNumber, Cond.selects RX3 yX3_newestNumber yX3_newestNumber, Cond.code yX3_newestNumber cX3_newestNumber 2 (some .int), Cond.methodLink RX3 218 yX3_numberOf, Cond.static yX3_numberOf, Cond.code yX3_numberOf cX3_numberOf 1 (some .int), Cond.fieldLink RX3 215 "ClauseShop$Version" "number" "I", Cond.methodLink RX3 63 yX2_init, Cond.instanceMethod yX2_init, Cond.code yX2_init cX2_init 6 none, Cond.methodLink RX2 1 objectInit, Cond.instanceMethod objectInit, Cond.code objectInit ⟨#[0xb1]⟩ 1 none, Cond.fieldLink RX2 7 "ClauseShop$Version" "number" "I", Cond.fieldLink RX2 13 "ClauseShop$Version" "obligor" "I", Cond.fieldLink RX2 16 "ClauseShop$Version" "days" "I", Cond.fieldLink RX2 19 "ClauseShop$Version" "cure" "I", Cond.fieldLink RX2 22 "ClauseShop$Version" "penalty" "I"]
def wsL_issue : List Cond := .codeWith yL_issue cL_issue 8 (some .int) [(0, 16, 19, 13), (0, 16, 23, 15)] :: ((wsL_issue_r1 ++ wsL_issue_r2) ++ wsX30 ++ wsX20 ++ (vx_atS RX3 51 "java/lang/IllegalArgumentException" ["java/lang/RuntimeException", "java/lang/Exception"]).filter goodWord ++ (vx_atS RX3 62 "java/lang/IllegalStateException" ["java/lang/RuntimeException", "java/lang/Exception"]).filter goodWord)
def wsL_relate : List Cond := .codeWith yL_relate cL_relate 5 (some .int) [(0, 7, 10, 13)] :: ([.classLink RL 13 "java/lang/IllegalArgumentException", .methodLink RL 17 yX3_relate, .instanceMethod yX3_relate, .selects RX3 yX3_relate yX3_relate, .initialized RX3, .code yX3_relate cX3_relate 4 none, .fieldLink RX3 15 "ClauseShop" "needs" "[I", .fieldLink RX3 19 "ClauseShop" "forbids" "[I", .methodLink RX3 36 yX3_checkClause, .static yX3_checkClause, .code yX3_checkClause cX3_checkClause 1 none, .classLink RX3 47 "java/lang/IllegalArgumentException", .initialized "java/lang/IllegalArgumentException", .methodLink RX3 43 yX3_isWithin, .static yX3_isWithin, .code yX3_isWithin cX3_isWithin 3 (some .boolean), .methodLink RX3 66 yX3_checkOtherClauses, .static yX3_checkOtherClauses, .code yX3_checkOtherClauses cX3_checkOtherClauses 2 none] ++ wsX30 ++ (vx_atS RX3 51 "java/lang/IllegalArgumentException" ["java/lang/RuntimeException", "java/lang/Exception"]).filter goodWord)
def wsL_latest : List Cond := .codeWith yL_latest cL_latest 4 (some .int) [(0, 9, 12, 13)] :: ([.classLink RL 13 "java/lang/IllegalArgumentException", .methodLink RL 21 yX3_latest, .instanceMethod yX3_latest, .selects RX3 yX3_latest yX3_latest, .initialized RX3, .code yX3_latest cX3_latest 2 (some .int), .methodLink RX3 36 yX3_checkClause, .static yX3_checkClause, .code yX3_checkClause cX3_checkClause 1 none, .classLink RX3 47 "java/lang/IllegalArgumentException", .initialized "java/lang/IllegalArgumentException", .methodLink RX3 43 yX3_isWithin, .static yX3_isWithin, .code yX3_isWithin cX3_isWithin 3 (some .boolean), .methodLink RX3 54 yX3_newestNumber, .instanceMethod yX3_newestNumber, .selects RX3 yX3_newestNumber yX3_newestNumber, .code yX3_newestNumber cX3_newestNumber 2 (some .int), .fieldLink RX3 11 "ClauseShop" "newest" "[LClauseShop$Version;", .methodLink RX3 218 yX3_numberOf, .static yX3_numberOf, .code yX3_numberOf cX3_numberOf 1 (some .int), .fieldLink RX3 215 "ClauseShop$Version" "number" "I"] ++ wsX30 ++ wsX20 ++ (vx_atS RX3 51 "java/lang/IllegalArgumentException" ["java/lang/RuntimeException", "java/lang/Exception"]).filter goodWord)
def wsL_begin_r1 : List Cond := [Cond.classLink RL 15 "java/lang/IllegalStateException", Cond.methodLink RL 25 yX3_begin, Cond.instanceMethod yX3_begin, Cond.selects RX3 yX3_begin yX3_begin, Cond.initialized RX3, Cond.code yX3_begin cX3_begin 2 (some .int), Cond.classLink RX3 58 "java/lang/IllegalStateException", Cond.initialized "java/lang/IllegalStateException", Cond.fieldLink RX3 25 "ClauseShop" "contracts" "Ljava/util/ArrayList;", Cond.classLink RX3 76 RX0, Cond.instantiable RX0 5, Cond.initialized RX0, Cond.methodLink RX3 70 yJx4a65c_size_8abf5, Cond.instanceMethod yJx4a65c_size_8abf5, Cond.selects RJx4a65c yJx4a65c_size_8abf5 yJx4a65c_size_8abf5, Cond.initialized RJx4a65c, Cond.code yJx4a65c_size_8abf5 cJx4a65c_size_8abf5 1 (some .int), Cond.fieldLink RJx4a65c 48 "java/util/ArrayList" "size" "I", Cond.instanceMethod yX0_init, Cond.code yX0_init cX0_init 1 none, Cond.methodLink RX0 3 objectInit, Cond.instanceMethod objectInit, Cond.code objectInit ⟨#[0xb1]⟩ 1 none, Cond.classLink RX0 9 RX2]
def wsL_begin_r2 : List Cond := [Cond.fieldLink RX0 11 "ClauseShop$Contract" "items" "[LClauseShop$Version;", Cond.classLink RX0 17 "[[I", Cond.arrayClass .int, Cond.fieldLink RX0 19 "ClauseShop$Contract" "marks" "[[I", Cond.arrayClass .boolean, Cond.fieldLink RX0 22 "ClauseShop$Contract" "signed" "[Z", Cond.fieldLink RX0 26 "ClauseShop$Contract" "breaches" "[I", Cond.fieldLink RX0 30 "ClauseShop$Contract" "penalties" "[I", Cond.methodLink RX3 79 yJx4a65c_add_9ea2d, Cond.instanceMethod yJx4a65c_add_9ea2d, Cond.selects RJx4a65c yJx4a65c_add_9ea2d yJx4a65c_add_9ea2d, Cond.code yJx4a65c_add_9ea2d cJx4a65c_add_9ea2d 2 (some .boolean), Cond.fieldLink RJx4a65c 63 "java/util/ArrayList" "modCount" "I", Cond.sameField "java/util/ArrayList" "java/util/AbstractList" "modCount" "I", Cond.fieldLink RJx4a65c 9 "java/util/ArrayList" "elementData" "[Ljava/lang/Object;", Cond.methodLink RJx4a65c 131 yJx4a65c_add_72be8, Cond.instanceMethod yJx4a65c_add_72be8, Cond.selects RJx4a65c yJx4a65c_add_72be8 yJx4a65c_add_72be8, Cond.code yJx4a65c_add_72be8 cJx4a65c_add_72be8 4 none, Cond.methodLink RJx4a65c 129 yJx4a65c_grow_d5877, Cond.instanceMethod yJx4a65c_grow_d5877, Cond.selects RJx4a65c yJx4a65c_grow_d5877 yJx4a65c_grow_d5877, Cond.code yJx4a65c_grow_d5877 cJx4a65c_grow_d5877 1 (some (.array (.object "java/lang/Object"))), Cond.methodLink RJx4a65c 69 yJx4a65c_grow_92f84]
def wsL_begin_r3 : List Cond := [Cond.instanceMethod yJx4a65c_grow_92f84, Cond.selects RJx4a65c yJx4a65c_grow_92f84 yJx4a65c_grow_92f84, Cond.code yJx4a65c_grow_92f84 cJx4a65c_grow_92f84 4 (some (.array (.object "java/lang/Object"))), Cond.fieldLink RJx4a65c 39 "java/util/ArrayList" "DEFAULTCAPACITY_EMPTY_ELEMENTDATA" "[Ljava/lang/Object;", Cond.methodLink RJx4a65c 79 Lib.Math.max.name, Cond.static Lib.Math.max.name, Cond.initialized "java/lang/Math", Cond.code Lib.Math.max.name Lib.Math.max.code 2 (some .int), Cond.classLink RJx4a65c 7 "java/lang/Object", Cond.methodLink RJx4a65c 73 yJ8_newLength_cabcc, Cond.static yJ8_newLength_cabcc, Cond.initialized RJ8, Cond.code yJ8_newLength_cabcc cJ8_newLength_cabcc 4 (some .int), Cond.methodLink RJ8 194 Lib.Math.max.name, Cond.constant RJ8 200 (2147483639), Cond.methodLink RJ8 201 yJ8_hugeLength_7cf53, Cond.static yJ8_hugeLength_7cf53, Cond.code yJ8_hugeLength_7cf53 cJ8_hugeLength_7cf53 3 (some .int), Cond.methodLink RJx4a65c 66 yJ7_copyOf_1904c, Cond.static yJ7_copyOf_1904c, Cond.initialized RJ7, Cond.code yJ7_copyOf_1904c cJ7_copyOf_1904c 2 (some (.array (.object "java/lang/Object"))), Cond.methodLink RJ7 86 ⟨"java/lang/Object", "getClass", "()Ljava/lang/Class;"⟩, Cond.selects "[Ljava/lang/Object;" ⟨"java/lang/Object", "getClass", "()Ljava/lang/Class;"⟩ ⟨"java/lang/Object", "getClass", "()Ljava/lang/Class;"⟩]
def wsL_begin_r4 : List Cond := [Cond.instanceMethod ⟨"java/lang/Object", "getClass", "()Ljava/lang/Class;"⟩, Cond.native ⟨"java/lang/Object", "getClass", "()Ljava/lang/Class;"⟩, Cond.methodLink RJ7 300 yJ7_copyOf_6403c, Cond.static yJ7_copyOf_6403c, Cond.code yJ7_copyOf_6403c cJ7_copyOf_6403c 4 (some (.array (.object "java/lang/Object"))), Cond.classLink RJ7 110 "[Ljava/lang/Object;", Cond.classLink RJ7 2 "java/lang/Object", Cond.methodLink RJ7 304 Lib.Math.min.name, Cond.static Lib.Math.min.name, Cond.code Lib.Math.min.name Lib.Math.min.code 2 (some .int), Cond.methodLink RJ7 150 arraycopyName, Cond.native arraycopyName, Cond.static arraycopyName, Cond.initialized "java/lang/System"]
def wsL_begin : List Cond := .codeWith yL_begin cL_begin 3 (some .int) [(0, 8, 11, 15)] :: ((wsL_begin_r1 ++ (wsL_begin_r2 ++ (wsL_begin_r3 ++ wsL_begin_r4))) ++ wsX30 ++ wsX00 ++ wsJx4a65c0 ++ (vx_atS RX3 62 "java/lang/IllegalStateException" ["java/lang/RuntimeException", "java/lang/Exception"]).filter goodWord)
def wsL_mark_r1 : List Cond := [Cond.classLink RL 33 "java/lang/IndexOutOfBoundsException", Cond.classLink RL 13 "java/lang/IllegalArgumentException", Cond.classLink RL 15 "java/lang/IllegalStateException", Cond.methodLink RL 29 yX3_mark, Cond.instanceMethod yX3_mark, Cond.selects RX3 yX3_mark yX3_mark, Cond.initialized RX3, Cond.code yX3_mark cX3_mark 7 (some .int), Cond.classLink RX3 47 "java/lang/IllegalArgumentException", Cond.initialized "java/lang/IllegalArgumentException", Cond.classLink RX3 58 "java/lang/IllegalStateException", Cond.initialized "java/lang/IllegalStateException", Cond.fieldLink RX3 93 "ClauseShop$Contract" "items" "[LClauseShop$Version;", Cond.fieldLink RX3 11 "ClauseShop" "newest" "[LClauseShop$Version;", Cond.fieldLink RX3 102 "ClauseShop$Contract" "marks" "[[I", Cond.methodLink RX3 83 yX3_contractAt, Cond.instanceMethod yX3_contractAt, Cond.selects RX3 yX3_contractAt yX3_contractAt, Cond.code yX3_contractAt cX3_contractAt 2 (some (.object "ClauseShop$Contract")), Cond.classLink RX3 204 "java/lang/IndexOutOfBoundsException", Cond.initialized "java/lang/IndexOutOfBoundsException", Cond.fieldLink RX3 25 "ClauseShop" "contracts" "Ljava/util/ArrayList;", Cond.classLink RX3 76 "ClauseShop$Contract", Cond.methodLink RX3 70 yJx4a65c_size_8abf5]
def wsL_mark_r2 : List Cond := [Cond.instanceMethod yJx4a65c_size_8abf5, Cond.selects RJx4a65c yJx4a65c_size_8abf5 yJx4a65c_size_8abf5, Cond.initialized RJx4a65c, Cond.code yJx4a65c_size_8abf5 cJx4a65c_size_8abf5 1 (some .int), Cond.fieldLink RJx4a65c 48 "java/util/ArrayList" "size" "I", Cond.methodLink RX3 43 yX3_isWithin, Cond.static yX3_isWithin, Cond.code yX3_isWithin cX3_isWithin 3 (some .boolean), Cond.methodLink RX3 209 yJx4a65c_get_915e3, Cond.instanceMethod yJx4a65c_get_915e3, Cond.selects RJx4a65c yJx4a65c_get_915e3 yJx4a65c_get_915e3, Cond.code yJx4a65c_get_915e3 cJx4a65c_get_915e3 2 (some (.object "java/lang/Object")), Cond.methodLink RJx4a65c 118 yJ15_checkIndex_7cf53, Cond.static yJ15_checkIndex_7cf53, Cond.initialized RJ15, Cond.code yJ15_checkIndex_7cf53 cJ15_checkIndex_7cf53 2 (some .int), Cond.methodLink RJ15 105 yJ3_checkIndex_8e157, Cond.static yJ3_checkIndex_8e157, Cond.initialized RJ3, Cond.code yJ3_checkIndex_8e157 cJ3_checkIndex_8e157 3 (some .int), Cond.methodLink RJx4a65c 123 yJx4a65c_elementData_915e3, Cond.instanceMethod yJx4a65c_elementData_915e3, Cond.selects RJx4a65c yJx4a65c_elementData_915e3 yJx4a65c_elementData_915e3, Cond.code yJx4a65c_elementData_915e3 cJx4a65c_elementData_915e3 2 (some (.object "java/lang/Object"))]
def wsL_mark_r3 : List Cond := [Cond.fieldLink RJx4a65c 9 "java/util/ArrayList" "elementData" "[Ljava/lang/Object;", Cond.methodLink RX3 40 yX3_checkSide, Cond.static yX3_checkSide, Cond.code yX3_checkSide cX3_checkSide 1 none, Cond.methodLink RX3 36 yX3_checkClause, Cond.static yX3_checkClause, Cond.code yX3_checkClause cX3_checkClause 1 none, Cond.methodLink RX3 89 yX3_checkDraft, Cond.static yX3_checkDraft, Cond.code yX3_checkDraft cX3_checkDraft 1 none, Cond.methodLink RX3 120 yX0_isDraft, Cond.instanceMethod yX0_isDraft, Cond.selects RX0 yX0_isDraft yX0_isDraft, Cond.initialized RX0, Cond.code yX0_isDraft cX0_isDraft 1 (some .boolean), Cond.fieldLink RX0 22 "ClauseShop$Contract" "signed" "[Z", Cond.methodLink RX3 98 yX0_bringIn, Cond.instanceMethod yX0_bringIn, Cond.selects RX0 yX0_bringIn yX0_bringIn, Cond.code yX0_bringIn cX0_bringIn 4 none, Cond.fieldLink RX0 11 "ClauseShop$Contract" "items" "[LClauseShop$Version;", Cond.fieldLink RX0 19 "ClauseShop$Contract" "marks" "[[I", Cond.methodLink RX0 33 yX0_loseSignatures, Cond.instanceMethod yX0_loseSignatures]
def wsL_mark_r4 : List Cond := [Cond.selects RX0 yX0_loseSignatures yX0_loseSignatures, Cond.code yX0_loseSignatures cX0_loseSignatures 1 none, Cond.methodLink RX3 106 yX0_changeMark, Cond.instanceMethod yX0_changeMark, Cond.selects RX0 yX0_changeMark yX0_changeMark, Cond.code yX0_changeMark cX0_changeMark 4 none]
def wsL_mark : List Cond := .codeWith yL_mark cL_mark 7 (some .int) [(0, 14, 17, 33), (0, 14, 21, 13), (0, 14, 25, 15)] :: ((wsL_mark_r1 ++ (wsL_mark_r2 ++ (wsL_mark_r3 ++ wsL_mark_r4))) ++ wsX00 ++ wsX30 ++ wsJx4a65c0 ++ (vx_atS RX3 51 "java/lang/IllegalArgumentException" ["java/lang/RuntimeException", "java/lang/Exception"]).filter goodWord ++ (vx_atS RX3 62 "java/lang/IllegalStateException" ["java/lang/RuntimeException", "java/lang/Exception"]).filter goodWord ++ (vx_atS RX3 208 "java/lang/IndexOutOfBoundsException" ["java/lang/RuntimeException", "java/lang/Exception"]).filter goodWord)
def wsL_renew_r1 : List Cond := [Cond.classLink RL 33 "java/lang/IndexOutOfBoundsException", Cond.classLink RL 13 "java/lang/IllegalArgumentException", Cond.classLink RL 15 "java/lang/IllegalStateException", Cond.methodLink RL 35 yX3_renew, Cond.instanceMethod yX3_renew, Cond.selects RX3 yX3_renew yX3_renew, Cond.initialized RX3, Cond.code yX3_renew cX3_renew 6 (some .int), Cond.classLink RX3 58 "java/lang/IllegalStateException", Cond.initialized "java/lang/IllegalStateException", Cond.fieldLink RX3 11 "ClauseShop" "newest" "[LClauseShop$Version;", Cond.methodLink RX3 83 yX3_contractAt, Cond.instanceMethod yX3_contractAt, Cond.selects RX3 yX3_contractAt yX3_contractAt, Cond.code yX3_contractAt cX3_contractAt 2 (some (.object "ClauseShop$Contract")), Cond.classLink RX3 204 "java/lang/IndexOutOfBoundsException", Cond.initialized "java/lang/IndexOutOfBoundsException", Cond.fieldLink RX3 25 "ClauseShop" "contracts" "Ljava/util/ArrayList;", Cond.classLink RX3 76 "ClauseShop$Contract", Cond.methodLink RX3 70 yJx4a65c_size_8abf5, Cond.instanceMethod yJx4a65c_size_8abf5, Cond.selects RJx4a65c yJx4a65c_size_8abf5 yJx4a65c_size_8abf5, Cond.initialized RJx4a65c, Cond.code yJx4a65c_size_8abf5 cJx4a65c_size_8abf5 1 (some .int)]
def wsL_renew_r2 : List Cond := [Cond.fieldLink RJx4a65c 48 "java/util/ArrayList" "size" "I", Cond.methodLink RX3 43 yX3_isWithin, Cond.static yX3_isWithin, Cond.code yX3_isWithin cX3_isWithin 3 (some .boolean), Cond.methodLink RX3 209 yJx4a65c_get_915e3, Cond.instanceMethod yJx4a65c_get_915e3, Cond.selects RJx4a65c yJx4a65c_get_915e3 yJx4a65c_get_915e3, Cond.code yJx4a65c_get_915e3 cJx4a65c_get_915e3 2 (some (.object "java/lang/Object")), Cond.methodLink RJx4a65c 118 yJ15_checkIndex_7cf53, Cond.static yJ15_checkIndex_7cf53, Cond.initialized RJ15, Cond.code yJ15_checkIndex_7cf53 cJ15_checkIndex_7cf53 2 (some .int), Cond.methodLink RJ15 105 yJ3_checkIndex_8e157, Cond.static yJ3_checkIndex_8e157, Cond.initialized RJ3, Cond.code yJ3_checkIndex_8e157 cJ3_checkIndex_8e157 3 (some .int), Cond.methodLink RJx4a65c 123 yJx4a65c_elementData_915e3, Cond.instanceMethod yJx4a65c_elementData_915e3, Cond.selects RJx4a65c yJx4a65c_elementData_915e3 yJx4a65c_elementData_915e3, Cond.code yJx4a65c_elementData_915e3 cJx4a65c_elementData_915e3 2 (some (.object "java/lang/Object")), Cond.fieldLink RJx4a65c 9 "java/util/ArrayList" "elementData" "[Ljava/lang/Object;", Cond.methodLink RX3 40 yX3_checkSide, Cond.static yX3_checkSide, Cond.code yX3_checkSide cX3_checkSide 1 none]
def wsL_renew_r3 : List Cond := [Cond.classLink RX3 47 "java/lang/IllegalArgumentException", Cond.initialized "java/lang/IllegalArgumentException", Cond.methodLink RX3 36 yX3_checkClause, Cond.static yX3_checkClause, Cond.code yX3_checkClause cX3_checkClause 1 none, Cond.methodLink RX3 89 yX3_checkDraft, Cond.static yX3_checkDraft, Cond.code yX3_checkDraft cX3_checkDraft 1 none, Cond.methodLink RX3 120 yX0_isDraft, Cond.instanceMethod yX0_isDraft, Cond.selects RX0 yX0_isDraft yX0_isDraft, Cond.initialized RX0, Cond.code yX0_isDraft cX0_isDraft 1 (some .boolean), Cond.fieldLink RX0 22 "ClauseShop$Contract" "signed" "[Z", Cond.methodLink RX3 110 yX3_hasLaterVersion, Cond.instanceMethod yX3_hasLaterVersion, Cond.selects RX3 yX3_hasLaterVersion yX3_hasLaterVersion, Cond.code yX3_hasLaterVersion cX3_hasLaterVersion 3 (some .boolean), Cond.fieldLink RX3 93 "ClauseShop$Contract" "items" "[LClauseShop$Version;", Cond.methodLink RX3 116 yX3_itemNumber, Cond.static yX3_itemNumber, Cond.code yX3_itemNumber cX3_itemNumber 2 (some .int), Cond.methodLink RX3 218 yX3_numberOf, Cond.static yX3_numberOf]
def wsL_renew_r4 : List Cond := [Cond.code yX3_numberOf cX3_numberOf 1 (some .int), Cond.fieldLink RX3 215 "ClauseShop$Version" "number" "I", Cond.methodLink RX3 54 yX3_newestNumber, Cond.instanceMethod yX3_newestNumber, Cond.selects RX3 yX3_newestNumber yX3_newestNumber, Cond.code yX3_newestNumber cX3_newestNumber 2 (some .int), Cond.methodLink RX3 98 yX0_bringIn, Cond.instanceMethod yX0_bringIn, Cond.selects RX0 yX0_bringIn yX0_bringIn, Cond.code yX0_bringIn cX0_bringIn 4 none, Cond.fieldLink RX0 11 "ClauseShop$Contract" "items" "[LClauseShop$Version;", Cond.fieldLink RX0 19 "ClauseShop$Contract" "marks" "[[I", Cond.methodLink RX0 33 yX0_loseSignatures, Cond.instanceMethod yX0_loseSignatures, Cond.selects RX0 yX0_loseSignatures yX0_loseSignatures, Cond.code yX0_loseSignatures cX0_loseSignatures 1 none]
def wsL_renew : List Cond := .codeWith yL_renew cL_renew 6 (some .int) [(0, 12, 15, 33), (0, 12, 19, 13), (0, 12, 23, 15)] :: ((wsL_renew_r1 ++ (wsL_renew_r2 ++ (wsL_renew_r3 ++ wsL_renew_r4))) ++ wsX30 ++ wsJx4a65c0 ++ wsX00 ++ wsX20 ++ (vx_atS RX3 62 "java/lang/IllegalStateException" ["java/lang/RuntimeException", "java/lang/Exception"]).filter goodWord ++ (vx_atS RX3 208 "java/lang/IndexOutOfBoundsException" ["java/lang/RuntimeException", "java/lang/Exception"]).filter goodWord ++ (vx_atS RX3 51 "java/lang/IllegalArgumentException" ["java/lang/RuntimeException", "java/lang/Exception"]).filter goodWord)
def wsL_version_r1 : List Cond := [Cond.classLink RL 33 "java/lang/IndexOutOfBoundsException", Cond.classLink RL 13 "java/lang/IllegalArgumentException", Cond.methodLink RL 39 yX3_version, Cond.instanceMethod yX3_version, Cond.selects RX3 yX3_version yX3_version, Cond.initialized RX3, Cond.code yX3_version cX3_version 4 (some .int), Cond.methodLink RX3 83 yX3_contractAt, Cond.instanceMethod yX3_contractAt, Cond.selects RX3 yX3_contractAt yX3_contractAt, Cond.code yX3_contractAt cX3_contractAt 2 (some (.object "ClauseShop$Contract")), Cond.classLink RX3 204 "java/lang/IndexOutOfBoundsException", Cond.initialized "java/lang/IndexOutOfBoundsException", Cond.fieldLink RX3 25 "ClauseShop" "contracts" "Ljava/util/ArrayList;", Cond.classLink RX3 76 "ClauseShop$Contract", Cond.methodLink RX3 70 yJx4a65c_size_8abf5, Cond.instanceMethod yJx4a65c_size_8abf5, Cond.selects RJx4a65c yJx4a65c_size_8abf5 yJx4a65c_size_8abf5, Cond.initialized RJx4a65c, Cond.code yJx4a65c_size_8abf5 cJx4a65c_size_8abf5 1 (some .int), Cond.fieldLink RJx4a65c 48 "java/util/ArrayList" "size" "I", Cond.methodLink RX3 43 yX3_isWithin, Cond.static yX3_isWithin, Cond.code yX3_isWithin cX3_isWithin 3 (some .boolean)]
def wsL_version_r2 : List Cond := [Cond.methodLink RX3 209 yJx4a65c_get_915e3, Cond.instanceMethod yJx4a65c_get_915e3, Cond.selects RJx4a65c yJx4a65c_get_915e3 yJx4a65c_get_915e3, Cond.code yJx4a65c_get_915e3 cJx4a65c_get_915e3 2 (some (.object "java/lang/Object")), Cond.methodLink RJx4a65c 118 yJ15_checkIndex_7cf53, Cond.static yJ15_checkIndex_7cf53, Cond.initialized RJ15, Cond.code yJ15_checkIndex_7cf53 cJ15_checkIndex_7cf53 2 (some .int), Cond.methodLink RJ15 105 yJ3_checkIndex_8e157, Cond.static yJ3_checkIndex_8e157, Cond.initialized RJ3, Cond.code yJ3_checkIndex_8e157 cJ3_checkIndex_8e157 3 (some .int), Cond.methodLink RJx4a65c 123 yJx4a65c_elementData_915e3, Cond.instanceMethod yJx4a65c_elementData_915e3, Cond.selects RJx4a65c yJx4a65c_elementData_915e3 yJx4a65c_elementData_915e3, Cond.code yJx4a65c_elementData_915e3 cJx4a65c_elementData_915e3 2 (some (.object "java/lang/Object")), Cond.fieldLink RJx4a65c 9 "java/util/ArrayList" "elementData" "[Ljava/lang/Object;", Cond.methodLink RX3 36 yX3_checkClause, Cond.static yX3_checkClause, Cond.code yX3_checkClause cX3_checkClause 1 none, Cond.classLink RX3 47 "java/lang/IllegalArgumentException", Cond.initialized "java/lang/IllegalArgumentException", Cond.methodLink RX3 116 yX3_itemNumber, Cond.static yX3_itemNumber]
def wsL_version_r3 : List Cond := [Cond.code yX3_itemNumber cX3_itemNumber 2 (some .int), Cond.fieldLink RX3 93 "ClauseShop$Contract" "items" "[LClauseShop$Version;", Cond.methodLink RX3 218 yX3_numberOf, Cond.static yX3_numberOf, Cond.code yX3_numberOf cX3_numberOf 1 (some .int), Cond.fieldLink RX3 215 "ClauseShop$Version" "number" "I"]
def wsL_version : List Cond := .codeWith yL_version cL_version 5 (some .int) [(0, 10, 13, 33), (0, 10, 17, 13)] :: ((wsL_version_r1 ++ (wsL_version_r2 ++ wsL_version_r3)) ++ wsX30 ++ wsJx4a65c0 ++ wsX00 ++ wsX20 ++ (vx_atS RX3 208 "java/lang/IndexOutOfBoundsException" ["java/lang/RuntimeException", "java/lang/Exception"]).filter goodWord ++ (vx_atS RX3 51 "java/lang/IllegalArgumentException" ["java/lang/RuntimeException", "java/lang/Exception"]).filter goodWord)
def wsL_offered_r1 : List Cond := [Cond.classLink RL 33 "java/lang/IndexOutOfBoundsException", Cond.methodLink RL 43 yX3_offered, Cond.instanceMethod yX3_offered, Cond.selects RX3 yX3_offered yX3_offered, Cond.initialized RX3, Cond.code yX3_offered cX3_offered 5 (some .int), Cond.methodLink RX3 83 yX3_contractAt, Cond.instanceMethod yX3_contractAt, Cond.selects RX3 yX3_contractAt yX3_contractAt, Cond.code yX3_contractAt cX3_contractAt 2 (some (.object "ClauseShop$Contract")), Cond.classLink RX3 204 "java/lang/IndexOutOfBoundsException", Cond.initialized "java/lang/IndexOutOfBoundsException", Cond.fieldLink RX3 25 "ClauseShop" "contracts" "Ljava/util/ArrayList;", Cond.classLink RX3 76 "ClauseShop$Contract", Cond.methodLink RX3 70 yJx4a65c_size_8abf5, Cond.instanceMethod yJx4a65c_size_8abf5, Cond.selects RJx4a65c yJx4a65c_size_8abf5 yJx4a65c_size_8abf5, Cond.initialized RJx4a65c, Cond.code yJx4a65c_size_8abf5 cJx4a65c_size_8abf5 1 (some .int), Cond.fieldLink RJx4a65c 48 "java/util/ArrayList" "size" "I", Cond.methodLink RX3 43 yX3_isWithin, Cond.static yX3_isWithin, Cond.code yX3_isWithin cX3_isWithin 3 (some .boolean), Cond.methodLink RX3 209 yJx4a65c_get_915e3]
def wsL_offered_r2 : List Cond := [Cond.instanceMethod yJx4a65c_get_915e3, Cond.selects RJx4a65c yJx4a65c_get_915e3 yJx4a65c_get_915e3, Cond.code yJx4a65c_get_915e3 cJx4a65c_get_915e3 2 (some (.object "java/lang/Object")), Cond.methodLink RJx4a65c 118 yJ15_checkIndex_7cf53, Cond.static yJ15_checkIndex_7cf53, Cond.initialized RJ15, Cond.code yJ15_checkIndex_7cf53 cJ15_checkIndex_7cf53 2 (some .int), Cond.methodLink RJ15 105 yJ3_checkIndex_8e157, Cond.static yJ3_checkIndex_8e157, Cond.initialized RJ3, Cond.code yJ3_checkIndex_8e157 cJ3_checkIndex_8e157 3 (some .int), Cond.methodLink RJx4a65c 123 yJx4a65c_elementData_915e3, Cond.instanceMethod yJx4a65c_elementData_915e3, Cond.selects RJx4a65c yJx4a65c_elementData_915e3 yJx4a65c_elementData_915e3, Cond.code yJx4a65c_elementData_915e3 cJx4a65c_elementData_915e3 2 (some (.object "java/lang/Object")), Cond.fieldLink RJx4a65c 9 "java/util/ArrayList" "elementData" "[Ljava/lang/Object;", Cond.methodLink RX3 120 yX0_isDraft, Cond.instanceMethod yX0_isDraft, Cond.selects RX0 yX0_isDraft yX0_isDraft, Cond.initialized RX0, Cond.code yX0_isDraft cX0_isDraft 1 (some .boolean), Cond.fieldLink RX0 22 "ClauseShop$Contract" "signed" "[Z", Cond.methodLink RX3 110 yX3_hasLaterVersion, Cond.instanceMethod yX3_hasLaterVersion]
def wsL_offered_r3 : List Cond := [Cond.selects RX3 yX3_hasLaterVersion yX3_hasLaterVersion, Cond.code yX3_hasLaterVersion cX3_hasLaterVersion 3 (some .boolean), Cond.fieldLink RX3 93 "ClauseShop$Contract" "items" "[LClauseShop$Version;", Cond.methodLink RX3 116 yX3_itemNumber, Cond.static yX3_itemNumber, Cond.code yX3_itemNumber cX3_itemNumber 2 (some .int), Cond.methodLink RX3 218 yX3_numberOf, Cond.static yX3_numberOf, Cond.code yX3_numberOf cX3_numberOf 1 (some .int), Cond.fieldLink RX3 215 "ClauseShop$Version" "number" "I", Cond.methodLink RX3 54 yX3_newestNumber, Cond.instanceMethod yX3_newestNumber, Cond.selects RX3 yX3_newestNumber yX3_newestNumber, Cond.code yX3_newestNumber cX3_newestNumber 2 (some .int), Cond.fieldLink RX3 11 "ClauseShop" "newest" "[LClauseShop$Version;"]
def wsL_offered : List Cond := .codeWith yL_offered cL_offered 4 (some .int) [(0, 9, 12, 33)] :: ((wsL_offered_r1 ++ (wsL_offered_r2 ++ wsL_offered_r3)) ++ wsX30 ++ wsJx4a65c0 ++ wsX00 ++ wsX20 ++ (vx_atS RX3 208 "java/lang/IndexOutOfBoundsException" ["java/lang/RuntimeException", "java/lang/Exception"]).filter goodWord)
def wsL_whyNot_r1 : List Cond := [Cond.classLink RL 33 "java/lang/IndexOutOfBoundsException", Cond.methodLink RL 46 yX3_whyNot, Cond.instanceMethod yX3_whyNot, Cond.selects RX3 yX3_whyNot yX3_whyNot, Cond.initialized RX3, Cond.code yX3_whyNot cX3_whyNot 2 (some .int), Cond.methodLink RX3 83 yX3_contractAt, Cond.instanceMethod yX3_contractAt, Cond.selects RX3 yX3_contractAt yX3_contractAt, Cond.code yX3_contractAt cX3_contractAt 2 (some (.object "ClauseShop$Contract")), Cond.classLink RX3 204 "java/lang/IndexOutOfBoundsException", Cond.initialized "java/lang/IndexOutOfBoundsException", Cond.fieldLink RX3 25 "ClauseShop" "contracts" "Ljava/util/ArrayList;", Cond.classLink RX3 76 "ClauseShop$Contract", Cond.methodLink RX3 70 yJx4a65c_size_8abf5, Cond.instanceMethod yJx4a65c_size_8abf5, Cond.selects RJx4a65c yJx4a65c_size_8abf5 yJx4a65c_size_8abf5, Cond.initialized RJx4a65c, Cond.code yJx4a65c_size_8abf5 cJx4a65c_size_8abf5 1 (some .int), Cond.fieldLink RJx4a65c 48 "java/util/ArrayList" "size" "I", Cond.methodLink RX3 43 yX3_isWithin, Cond.static yX3_isWithin, Cond.code yX3_isWithin cX3_isWithin 3 (some .boolean), Cond.methodLink RX3 209 yJx4a65c_get_915e3]
def wsL_whyNot_r2 : List Cond := [Cond.instanceMethod yJx4a65c_get_915e3, Cond.selects RJx4a65c yJx4a65c_get_915e3 yJx4a65c_get_915e3, Cond.code yJx4a65c_get_915e3 cJx4a65c_get_915e3 2 (some (.object "java/lang/Object")), Cond.methodLink RJx4a65c 118 yJ15_checkIndex_7cf53, Cond.static yJ15_checkIndex_7cf53, Cond.initialized RJ15, Cond.code yJ15_checkIndex_7cf53 cJ15_checkIndex_7cf53 2 (some .int), Cond.methodLink RJ15 105 yJ3_checkIndex_8e157, Cond.static yJ3_checkIndex_8e157, Cond.initialized RJ3, Cond.code yJ3_checkIndex_8e157 cJ3_checkIndex_8e157 3 (some .int), Cond.methodLink RJx4a65c 123 yJx4a65c_elementData_915e3, Cond.instanceMethod yJx4a65c_elementData_915e3, Cond.selects RJx4a65c yJx4a65c_elementData_915e3 yJx4a65c_elementData_915e3, Cond.code yJx4a65c_elementData_915e3 cJx4a65c_elementData_915e3 2 (some (.object "java/lang/Object")), Cond.fieldLink RJx4a65c 9 "java/util/ArrayList" "elementData" "[Ljava/lang/Object;", Cond.methodLink RX3 124 yX3_obstacle, Cond.instanceMethod yX3_obstacle, Cond.selects RX3 yX3_obstacle yX3_obstacle, Cond.code yX3_obstacle cX3_obstacle 3 (some .int), Cond.fieldLink RX3 15 "ClauseShop" "needs" "[I", Cond.fieldLink RX3 19 "ClauseShop" "forbids" "[I", Cond.methodLink RX3 222 yX0_clauseSet, Cond.instanceMethod yX0_clauseSet]
def wsL_whyNot_r3 : List Cond := [Cond.selects RX0 yX0_clauseSet yX0_clauseSet, Cond.initialized RX0, Cond.code yX0_clauseSet cX0_clauseSet 3 (some .int), Cond.fieldLink RX0 11 "ClauseShop$Contract" "items" "[LClauseShop$Version;", Cond.methodLink RX3 120 yX0_isDraft, Cond.instanceMethod yX0_isDraft, Cond.selects RX0 yX0_isDraft yX0_isDraft, Cond.code yX0_isDraft cX0_isDraft 1 (some .boolean), Cond.fieldLink RX0 22 "ClauseShop$Contract" "signed" "[Z", Cond.methodLink RX3 225 yX0_isAgreed, Cond.instanceMethod yX0_isAgreed, Cond.selects RX0 yX0_isAgreed yX0_isAgreed, Cond.code yX0_isAgreed cX0_isAgreed 2 (some .boolean), Cond.fieldLink RX0 19 "ClauseShop$Contract" "marks" "[[I", Cond.methodLink RX3 228 yX3_unionOver, Cond.static yX3_unionOver, Cond.code yX3_unionOver cX3_unionOver 4 (some .int)]
def wsL_whyNot : List Cond := .codeWith yL_whyNot cL_whyNot 4 (some .int) [(0, 9, 12, 33)] :: ((wsL_whyNot_r1 ++ (wsL_whyNot_r2 ++ wsL_whyNot_r3)) ++ wsX30 ++ wsJx4a65c0 ++ wsX00 ++ (vx_atS RX3 208 "java/lang/IndexOutOfBoundsException" ["java/lang/RuntimeException", "java/lang/Exception"]).filter goodWord)
def wsL_sign_r1 : List Cond := [Cond.classLink RL 33 "java/lang/IndexOutOfBoundsException", Cond.classLink RL 13 "java/lang/IllegalArgumentException", Cond.classLink RL 15 "java/lang/IllegalStateException", Cond.methodLink RL 49 yX3_sign, Cond.instanceMethod yX3_sign, Cond.selects RX3 yX3_sign yX3_sign, Cond.initialized RX3, Cond.code yX3_sign cX3_sign 4 (some .int), Cond.classLink RX3 58 "java/lang/IllegalStateException", Cond.initialized "java/lang/IllegalStateException", Cond.fieldLink RX3 128 "ClauseShop$Contract" "signed" "[Z", Cond.methodLink RX3 83 yX3_contractAt, Cond.instanceMethod yX3_contractAt, Cond.selects RX3 yX3_contractAt yX3_contractAt, Cond.code yX3_contractAt cX3_contractAt 2 (some (.object "ClauseShop$Contract")), Cond.classLink RX3 204 "java/lang/IndexOutOfBoundsException", Cond.initialized "java/lang/IndexOutOfBoundsException", Cond.fieldLink RX3 25 "ClauseShop" "contracts" "Ljava/util/ArrayList;", Cond.classLink RX3 76 "ClauseShop$Contract", Cond.methodLink RX3 70 yJx4a65c_size_8abf5, Cond.instanceMethod yJx4a65c_size_8abf5, Cond.selects RJx4a65c yJx4a65c_size_8abf5 yJx4a65c_size_8abf5, Cond.initialized RJx4a65c, Cond.code yJx4a65c_size_8abf5 cJx4a65c_size_8abf5 1 (some .int)]
def wsL_sign_r2 : List Cond := [Cond.fieldLink RJx4a65c 48 "java/util/ArrayList" "size" "I", Cond.methodLink RX3 43 yX3_isWithin, Cond.static yX3_isWithin, Cond.code yX3_isWithin cX3_isWithin 3 (some .boolean), Cond.methodLink RX3 209 yJx4a65c_get_915e3, Cond.instanceMethod yJx4a65c_get_915e3, Cond.selects RJx4a65c yJx4a65c_get_915e3 yJx4a65c_get_915e3, Cond.code yJx4a65c_get_915e3 cJx4a65c_get_915e3 2 (some (.object "java/lang/Object")), Cond.methodLink RJx4a65c 118 yJ15_checkIndex_7cf53, Cond.static yJ15_checkIndex_7cf53, Cond.initialized RJ15, Cond.code yJ15_checkIndex_7cf53 cJ15_checkIndex_7cf53 2 (some .int), Cond.methodLink RJ15 105 yJ3_checkIndex_8e157, Cond.static yJ3_checkIndex_8e157, Cond.initialized RJ3, Cond.code yJ3_checkIndex_8e157 cJ3_checkIndex_8e157 3 (some .int), Cond.methodLink RJx4a65c 123 yJx4a65c_elementData_915e3, Cond.instanceMethod yJx4a65c_elementData_915e3, Cond.selects RJx4a65c yJx4a65c_elementData_915e3 yJx4a65c_elementData_915e3, Cond.code yJx4a65c_elementData_915e3 cJx4a65c_elementData_915e3 2 (some (.object "java/lang/Object")), Cond.fieldLink RJx4a65c 9 "java/util/ArrayList" "elementData" "[Ljava/lang/Object;", Cond.methodLink RX3 40 yX3_checkSide, Cond.static yX3_checkSide, Cond.code yX3_checkSide cX3_checkSide 1 none]
def wsL_sign_r3 : List Cond := [Cond.classLink RX3 47 "java/lang/IllegalArgumentException", Cond.initialized "java/lang/IllegalArgumentException", Cond.methodLink RX3 124 yX3_obstacle, Cond.instanceMethod yX3_obstacle, Cond.selects RX3 yX3_obstacle yX3_obstacle, Cond.code yX3_obstacle cX3_obstacle 3 (some .int), Cond.fieldLink RX3 15 "ClauseShop" "needs" "[I", Cond.fieldLink RX3 19 "ClauseShop" "forbids" "[I", Cond.methodLink RX3 222 yX0_clauseSet, Cond.instanceMethod yX0_clauseSet, Cond.selects RX0 yX0_clauseSet yX0_clauseSet, Cond.initialized RX0, Cond.code yX0_clauseSet cX0_clauseSet 3 (some .int), Cond.fieldLink RX0 11 "ClauseShop$Contract" "items" "[LClauseShop$Version;", Cond.methodLink RX3 120 yX0_isDraft, Cond.instanceMethod yX0_isDraft, Cond.selects RX0 yX0_isDraft yX0_isDraft, Cond.code yX0_isDraft cX0_isDraft 1 (some .boolean), Cond.fieldLink RX0 22 "ClauseShop$Contract" "signed" "[Z", Cond.methodLink RX3 225 yX0_isAgreed, Cond.instanceMethod yX0_isAgreed, Cond.selects RX0 yX0_isAgreed yX0_isAgreed, Cond.code yX0_isAgreed cX0_isAgreed 2 (some .boolean), Cond.fieldLink RX0 19 "ClauseShop$Contract" "marks" "[[I"]
def wsL_sign_r4 : List Cond := [Cond.methodLink RX3 228 yX3_unionOver, Cond.static yX3_unionOver, Cond.code yX3_unionOver cX3_unionOver 4 (some .int), Cond.methodLink RX3 134 yX3_makeDuties, Cond.instanceMethod yX3_makeDuties, Cond.selects RX3 yX3_makeDuties yX3_makeDuties, Cond.code yX3_makeDuties cX3_makeDuties 5 (some .int), Cond.fieldLink RX3 93 "ClauseShop$Contract" "items" "[LClauseShop$Version;", Cond.fieldLink RX3 29 "ClauseShop" "dutyList" "Ljava/util/ArrayList;", Cond.classLink RX3 152 RX1, Cond.instantiable RX1 4, Cond.initialized RX1, Cond.fieldLink RX3 32 "ClauseShop" "today" "I", Cond.fieldLink RX3 232 "ClauseShop$Version" "days" "I", Cond.methodLink RX3 235 yX1_init, Cond.instanceMethod yX1_init, Cond.code yX1_init cX1_init 4 none, Cond.methodLink RX1 3 objectInit, Cond.instanceMethod objectInit, Cond.code objectInit ⟨#[0xb1]⟩ 1 none, Cond.fieldLink RX1 9 "ClauseShop$Duty" "state" "I", Cond.fieldLink RX1 15 "ClauseShop$Duty" "contract" "LClauseShop$Contract;", Cond.fieldLink RX1 19 "ClauseShop$Duty" "version" "LClauseShop$Version;", Cond.fieldLink RX1 23 "ClauseShop$Duty" "day" "I"]
def wsL_sign_r5 : List Cond := [Cond.methodLink RX3 79 yJx4a65c_add_9ea2d, Cond.instanceMethod yJx4a65c_add_9ea2d, Cond.selects RJx4a65c yJx4a65c_add_9ea2d yJx4a65c_add_9ea2d, Cond.code yJx4a65c_add_9ea2d cJx4a65c_add_9ea2d 2 (some .boolean), Cond.fieldLink RJx4a65c 63 "java/util/ArrayList" "modCount" "I", Cond.sameField "java/util/ArrayList" "java/util/AbstractList" "modCount" "I", Cond.methodLink RJx4a65c 131 yJx4a65c_add_72be8, Cond.instanceMethod yJx4a65c_add_72be8, Cond.selects RJx4a65c yJx4a65c_add_72be8 yJx4a65c_add_72be8, Cond.code yJx4a65c_add_72be8 cJx4a65c_add_72be8 4 none, Cond.methodLink RJx4a65c 129 yJx4a65c_grow_d5877, Cond.instanceMethod yJx4a65c_grow_d5877, Cond.selects RJx4a65c yJx4a65c_grow_d5877 yJx4a65c_grow_d5877, Cond.code yJx4a65c_grow_d5877 cJx4a65c_grow_d5877 1 (some (.array (.object "java/lang/Object"))), Cond.methodLink RJx4a65c 69 yJx4a65c_grow_92f84, Cond.instanceMethod yJx4a65c_grow_92f84, Cond.selects RJx4a65c yJx4a65c_grow_92f84 yJx4a65c_grow_92f84, Cond.code yJx4a65c_grow_92f84 cJx4a65c_grow_92f84 4 (some (.array (.object "java/lang/Object"))), Cond.fieldLink RJx4a65c 39 "java/util/ArrayList" "DEFAULTCAPACITY_EMPTY_ELEMENTDATA" "[Ljava/lang/Object;", Cond.methodLink RJx4a65c 79 Lib.Math.max.name, Cond.static Lib.Math.max.name, Cond.initialized "java/lang/Math", Cond.code Lib.Math.max.name Lib.Math.max.code 2 (some .int), Cond.classLink RJx4a65c 7 "java/lang/Object"]
def wsL_sign_r6 : List Cond := [Cond.methodLink RJx4a65c 73 yJ8_newLength_cabcc, Cond.static yJ8_newLength_cabcc, Cond.initialized RJ8, Cond.code yJ8_newLength_cabcc cJ8_newLength_cabcc 4 (some .int), Cond.methodLink RJ8 194 Lib.Math.max.name, Cond.constant RJ8 200 (2147483639), Cond.methodLink RJ8 201 yJ8_hugeLength_7cf53, Cond.static yJ8_hugeLength_7cf53, Cond.code yJ8_hugeLength_7cf53 cJ8_hugeLength_7cf53 3 (some .int), Cond.methodLink RJx4a65c 66 yJ7_copyOf_1904c, Cond.static yJ7_copyOf_1904c, Cond.initialized RJ7, Cond.code yJ7_copyOf_1904c cJ7_copyOf_1904c 2 (some (.array (.object "java/lang/Object"))), Cond.methodLink RJ7 86 ⟨"java/lang/Object", "getClass", "()Ljava/lang/Class;"⟩, Cond.selects "[Ljava/lang/Object;" ⟨"java/lang/Object", "getClass", "()Ljava/lang/Class;"⟩ ⟨"java/lang/Object", "getClass", "()Ljava/lang/Class;"⟩, Cond.instanceMethod ⟨"java/lang/Object", "getClass", "()Ljava/lang/Class;"⟩, Cond.native ⟨"java/lang/Object", "getClass", "()Ljava/lang/Class;"⟩, Cond.methodLink RJ7 300 yJ7_copyOf_6403c, Cond.static yJ7_copyOf_6403c, Cond.code yJ7_copyOf_6403c cJ7_copyOf_6403c 4 (some (.array (.object "java/lang/Object"))), Cond.classLink RJ7 110 "[Ljava/lang/Object;", Cond.classLink RJ7 2 "java/lang/Object", Cond.methodLink RJ7 304 Lib.Math.min.name, Cond.static Lib.Math.min.name]
def wsL_sign_r7 : List Cond := [Cond.code Lib.Math.min.name Lib.Math.min.code 2 (some .int), Cond.methodLink RJ7 150 arraycopyName, Cond.native arraycopyName, Cond.static arraycopyName, Cond.initialized "java/lang/System"]
def wsL_sign : List Cond := .codeWith yL_sign cL_sign 5 (some .int) [(0, 10, 13, 33), (0, 10, 17, 13), (0, 10, 21, 15)] :: ((wsL_sign_r1 ++ (wsL_sign_r2 ++ (wsL_sign_r3 ++ (wsL_sign_r4 ++ (wsL_sign_r5 ++ (wsL_sign_r6 ++ wsL_sign_r7)))))) ++ wsX00 ++ wsX30 ++ wsJx4a65c0 ++ wsX10 ++ wsX20 ++ (vx_atS RX3 62 "java/lang/IllegalStateException" ["java/lang/RuntimeException", "java/lang/Exception"]).filter goodWord ++ (vx_atS RX3 208 "java/lang/IndexOutOfBoundsException" ["java/lang/RuntimeException", "java/lang/Exception"]).filter goodWord ++ (vx_atS RX3 51 "java/lang/IllegalArgumentException" ["java/lang/RuntimeException", "java/lang/Exception"]).filter goodWord)
def wsL_pass_r1 : List Cond := [Cond.classLink RL 13 "java/lang/IllegalArgumentException", Cond.classLink RL 15 "java/lang/IllegalStateException", Cond.methodLink RL 52 yX3_pass, Cond.instanceMethod yX3_pass, Cond.selects RX3 yX3_pass yX3_pass, Cond.initialized RX3, Cond.code yX3_pass cX3_pass 4 (some .int), Cond.classLink RX3 47 "java/lang/IllegalArgumentException", Cond.initialized "java/lang/IllegalArgumentException", Cond.classLink RX3 58 "java/lang/IllegalStateException", Cond.initialized "java/lang/IllegalStateException", Cond.fieldLink RX3 32 "ClauseShop" "today" "I", Cond.methodLink RX3 43 yX3_isWithin, Cond.static yX3_isWithin, Cond.code yX3_isWithin cX3_isWithin 3 (some .boolean), Cond.methodLink RX3 141 yX3_putOffHeldUpDuties, Cond.instanceMethod yX3_putOffHeldUpDuties, Cond.selects RX3 yX3_putOffHeldUpDuties yX3_putOffHeldUpDuties, Cond.code yX3_putOffHeldUpDuties cX3_putOffHeldUpDuties 3 none, Cond.fieldLink RX3 29 "ClauseShop" "dutyList" "Ljava/util/ArrayList;", Cond.classLink RX3 152 "ClauseShop$Duty", Cond.fieldLink RX3 156 "ClauseShop$Duty" "day" "I", Cond.methodLink RX3 70 yJx4a65c_size_8abf5, Cond.instanceMethod yJx4a65c_size_8abf5]
def wsL_pass_r2 : List Cond := [Cond.selects RJx4a65c yJx4a65c_size_8abf5 yJx4a65c_size_8abf5, Cond.initialized RJx4a65c, Cond.code yJx4a65c_size_8abf5 cJx4a65c_size_8abf5 1 (some .int), Cond.fieldLink RJx4a65c 48 "java/util/ArrayList" "size" "I", Cond.methodLink RX3 209 yJx4a65c_get_915e3, Cond.instanceMethod yJx4a65c_get_915e3, Cond.selects RJx4a65c yJx4a65c_get_915e3 yJx4a65c_get_915e3, Cond.code yJx4a65c_get_915e3 cJx4a65c_get_915e3 2 (some (.object "java/lang/Object")), Cond.methodLink RJx4a65c 118 yJ15_checkIndex_7cf53, Cond.static yJ15_checkIndex_7cf53, Cond.initialized RJ15, Cond.code yJ15_checkIndex_7cf53 cJ15_checkIndex_7cf53 2 (some .int), Cond.methodLink RJ15 105 yJ3_checkIndex_8e157, Cond.static yJ3_checkIndex_8e157, Cond.initialized RJ3, Cond.code yJ3_checkIndex_8e157 cJ3_checkIndex_8e157 3 (some .int), Cond.methodLink RJx4a65c 123 yJx4a65c_elementData_915e3, Cond.instanceMethod yJx4a65c_elementData_915e3, Cond.selects RJx4a65c yJx4a65c_elementData_915e3 yJx4a65c_elementData_915e3, Cond.code yJx4a65c_elementData_915e3 cJx4a65c_elementData_915e3 2 (some (.object "java/lang/Object")), Cond.fieldLink RJx4a65c 9 "java/util/ArrayList" "elementData" "[Ljava/lang/Object;", Cond.methodLink RX3 159 yX1_isHeldUp, Cond.instanceMethod yX1_isHeldUp, Cond.selects RX1 yX1_isHeldUp yX1_isHeldUp]
def wsL_pass_r3 : List Cond := [Cond.initialized RX1, Cond.code yX1_isHeldUp cX1_isHeldUp 1 (some .boolean), Cond.fieldLink RX1 15 "ClauseShop$Duty" "contract" "LClauseShop$Contract;", Cond.fieldLink RX1 30 "ClauseShop$Contract" "breaches" "[I", Cond.fieldLink RX1 19 "ClauseShop$Duty" "version" "LClauseShop$Version;", Cond.fieldLink RX1 36 "ClauseShop$Version" "obligor" "I", Cond.methodLink RX1 26 yX1_canBeDone, Cond.instanceMethod yX1_canBeDone, Cond.selects RX1 yX1_canBeDone yX1_canBeDone, Cond.code yX1_canBeDone cX1_canBeDone 1 (some .boolean), Cond.fieldLink RX1 9 "ClauseShop$Duty" "state" "I", Cond.methodLink RX3 144 yX3_breachUncuredDuties, Cond.instanceMethod yX3_breachUncuredDuties, Cond.selects RX3 yX3_breachUncuredDuties yX3_breachUncuredDuties, Cond.code yX3_breachUncuredDuties cX3_breachUncuredDuties 4 (some .int), Cond.fieldLink RX3 151 "ClauseShop$Duty" "state" "I", Cond.methodLink RX3 167 yX1_move, Cond.instanceMethod yX1_move, Cond.selects RX1 yX1_move yX1_move, Cond.code yX1_move cX1_move 3 none, Cond.fieldLink RX1 23 "ClauseShop$Duty" "day" "I", Cond.methodLink RX3 181 yX1_countBreach, Cond.instanceMethod yX1_countBreach, Cond.selects RX1 yX1_countBreach yX1_countBreach]
def wsL_pass_r4 : List Cond := [Cond.code yX1_countBreach cX1_countBreach 2 none, Cond.fieldLink RX1 41 "ClauseShop$Contract" "penalties" "[I", Cond.fieldLink RX1 44 "ClauseShop$Version" "penalty" "I"]
def wsL_pass : List Cond := .codeWith yL_pass cL_pass 4 (some .int) [(0, 9, 12, 13), (0, 9, 15, 15)] :: ((wsL_pass_r1 ++ (wsL_pass_r2 ++ (wsL_pass_r3 ++ wsL_pass_r4))) ++ wsX30 ++ wsX10 ++ wsJx4a65c0 ++ wsX00 ++ wsX20 ++ (vx_atS RX3 51 "java/lang/IllegalArgumentException" ["java/lang/RuntimeException", "java/lang/Exception"]).filter goodWord ++ (vx_atS RX3 62 "java/lang/IllegalStateException" ["java/lang/RuntimeException", "java/lang/Exception"]).filter goodWord)
def wsL_state_r1 : List Cond := [Cond.classLink RL 33 "java/lang/IndexOutOfBoundsException", Cond.methodLink RL 55 yX3_state, Cond.instanceMethod yX3_state, Cond.selects RX3 yX3_state yX3_state, Cond.initialized RX3, Cond.code yX3_state cX3_state 2 (some .int), Cond.fieldLink RX3 151 "ClauseShop$Duty" "state" "I", Cond.methodLink RX3 147 yX3_dutyAt, Cond.instanceMethod yX3_dutyAt, Cond.selects RX3 yX3_dutyAt yX3_dutyAt, Cond.code yX3_dutyAt cX3_dutyAt 2 (some (.object "ClauseShop$Duty")), Cond.classLink RX3 204 "java/lang/IndexOutOfBoundsException", Cond.initialized "java/lang/IndexOutOfBoundsException", Cond.fieldLink RX3 29 "ClauseShop" "dutyList" "Ljava/util/ArrayList;", Cond.classLink RX3 152 "ClauseShop$Duty", Cond.methodLink RX3 70 yJx4a65c_size_8abf5, Cond.instanceMethod yJx4a65c_size_8abf5, Cond.selects RJx4a65c yJx4a65c_size_8abf5 yJx4a65c_size_8abf5, Cond.initialized RJx4a65c, Cond.code yJx4a65c_size_8abf5 cJx4a65c_size_8abf5 1 (some .int), Cond.fieldLink RJx4a65c 48 "java/util/ArrayList" "size" "I", Cond.methodLink RX3 43 yX3_isWithin, Cond.static yX3_isWithin, Cond.code yX3_isWithin cX3_isWithin 3 (some .boolean)]
def wsL_state_r2 : List Cond := [Cond.methodLink RX3 209 yJx4a65c_get_915e3, Cond.instanceMethod yJx4a65c_get_915e3, Cond.selects RJx4a65c yJx4a65c_get_915e3 yJx4a65c_get_915e3, Cond.code yJx4a65c_get_915e3 cJx4a65c_get_915e3 2 (some (.object "java/lang/Object")), Cond.methodLink RJx4a65c 118 yJ15_checkIndex_7cf53, Cond.static yJ15_checkIndex_7cf53, Cond.initialized RJ15, Cond.code yJ15_checkIndex_7cf53 cJ15_checkIndex_7cf53 2 (some .int), Cond.methodLink RJ15 105 yJ3_checkIndex_8e157, Cond.static yJ3_checkIndex_8e157, Cond.initialized RJ3, Cond.code yJ3_checkIndex_8e157 cJ3_checkIndex_8e157 3 (some .int), Cond.methodLink RJx4a65c 123 yJx4a65c_elementData_915e3, Cond.instanceMethod yJx4a65c_elementData_915e3, Cond.selects RJx4a65c yJx4a65c_elementData_915e3 yJx4a65c_elementData_915e3, Cond.code yJx4a65c_elementData_915e3 cJx4a65c_elementData_915e3 2 (some (.object "java/lang/Object")), Cond.fieldLink RJx4a65c 9 "java/util/ArrayList" "elementData" "[Ljava/lang/Object;"]
def wsL_state : List Cond := .codeWith yL_state cL_state 4 (some .int) [(0, 9, 12, 33)] :: ((wsL_state_r1 ++ wsL_state_r2) ++ wsX10 ++ wsX30 ++ wsJx4a65c0 ++ (vx_atS RX3 208 "java/lang/IndexOutOfBoundsException" ["java/lang/RuntimeException", "java/lang/Exception"]).filter goodWord)
def wsL_day_r1 : List Cond := [Cond.classLink RL 33 "java/lang/IndexOutOfBoundsException", Cond.methodLink RL 58 yX3_day, Cond.instanceMethod yX3_day, Cond.selects RX3 yX3_day yX3_day, Cond.initialized RX3, Cond.code yX3_day cX3_day 2 (some .int), Cond.fieldLink RX3 156 "ClauseShop$Duty" "day" "I", Cond.methodLink RX3 147 yX3_dutyAt, Cond.instanceMethod yX3_dutyAt, Cond.selects RX3 yX3_dutyAt yX3_dutyAt, Cond.code yX3_dutyAt cX3_dutyAt 2 (some (.object "ClauseShop$Duty")), Cond.classLink RX3 204 "java/lang/IndexOutOfBoundsException", Cond.initialized "java/lang/IndexOutOfBoundsException", Cond.fieldLink RX3 29 "ClauseShop" "dutyList" "Ljava/util/ArrayList;", Cond.classLink RX3 152 "ClauseShop$Duty", Cond.methodLink RX3 70 yJx4a65c_size_8abf5, Cond.instanceMethod yJx4a65c_size_8abf5, Cond.selects RJx4a65c yJx4a65c_size_8abf5 yJx4a65c_size_8abf5, Cond.initialized RJx4a65c, Cond.code yJx4a65c_size_8abf5 cJx4a65c_size_8abf5 1 (some .int), Cond.fieldLink RJx4a65c 48 "java/util/ArrayList" "size" "I", Cond.methodLink RX3 43 yX3_isWithin, Cond.static yX3_isWithin, Cond.code yX3_isWithin cX3_isWithin 3 (some .boolean)]
def wsL_day_r2 : List Cond := [Cond.methodLink RX3 209 yJx4a65c_get_915e3, Cond.instanceMethod yJx4a65c_get_915e3, Cond.selects RJx4a65c yJx4a65c_get_915e3 yJx4a65c_get_915e3, Cond.code yJx4a65c_get_915e3 cJx4a65c_get_915e3 2 (some (.object "java/lang/Object")), Cond.methodLink RJx4a65c 118 yJ15_checkIndex_7cf53, Cond.static yJ15_checkIndex_7cf53, Cond.initialized RJ15, Cond.code yJ15_checkIndex_7cf53 cJ15_checkIndex_7cf53 2 (some .int), Cond.methodLink RJ15 105 yJ3_checkIndex_8e157, Cond.static yJ3_checkIndex_8e157, Cond.initialized RJ3, Cond.code yJ3_checkIndex_8e157 cJ3_checkIndex_8e157 3 (some .int), Cond.methodLink RJx4a65c 123 yJx4a65c_elementData_915e3, Cond.instanceMethod yJx4a65c_elementData_915e3, Cond.selects RJx4a65c yJx4a65c_elementData_915e3 yJx4a65c_elementData_915e3, Cond.code yJx4a65c_elementData_915e3 cJx4a65c_elementData_915e3 2 (some (.object "java/lang/Object")), Cond.fieldLink RJx4a65c 9 "java/util/ArrayList" "elementData" "[Ljava/lang/Object;"]
def wsL_day : List Cond := .codeWith yL_day cL_day 4 (some .int) [(0, 9, 12, 33)] :: ((wsL_day_r1 ++ wsL_day_r2) ++ wsX10 ++ wsX30 ++ wsJx4a65c0 ++ (vx_atS RX3 208 "java/lang/IndexOutOfBoundsException" ["java/lang/RuntimeException", "java/lang/Exception"]).filter goodWord)
def wsL_isSuspended_r1 : List Cond := [Cond.classLink RL 33 "java/lang/IndexOutOfBoundsException", Cond.methodLink RL 61 yX3_isSuspended, Cond.instanceMethod yX3_isSuspended, Cond.selects RX3 yX3_isSuspended yX3_isSuspended, Cond.initialized RX3, Cond.code yX3_isSuspended cX3_isSuspended 2 (some .boolean), Cond.methodLink RX3 147 yX3_dutyAt, Cond.instanceMethod yX3_dutyAt, Cond.selects RX3 yX3_dutyAt yX3_dutyAt, Cond.code yX3_dutyAt cX3_dutyAt 2 (some (.object "ClauseShop$Duty")), Cond.classLink RX3 204 "java/lang/IndexOutOfBoundsException", Cond.initialized "java/lang/IndexOutOfBoundsException", Cond.fieldLink RX3 29 "ClauseShop" "dutyList" "Ljava/util/ArrayList;", Cond.classLink RX3 152 "ClauseShop$Duty", Cond.methodLink RX3 70 yJx4a65c_size_8abf5, Cond.instanceMethod yJx4a65c_size_8abf5, Cond.selects RJx4a65c yJx4a65c_size_8abf5 yJx4a65c_size_8abf5, Cond.initialized RJx4a65c, Cond.code yJx4a65c_size_8abf5 cJx4a65c_size_8abf5 1 (some .int), Cond.fieldLink RJx4a65c 48 "java/util/ArrayList" "size" "I", Cond.methodLink RX3 43 yX3_isWithin, Cond.static yX3_isWithin, Cond.code yX3_isWithin cX3_isWithin 3 (some .boolean), Cond.methodLink RX3 209 yJx4a65c_get_915e3]
def wsL_isSuspended_r2 : List Cond := [Cond.instanceMethod yJx4a65c_get_915e3, Cond.selects RJx4a65c yJx4a65c_get_915e3 yJx4a65c_get_915e3, Cond.code yJx4a65c_get_915e3 cJx4a65c_get_915e3 2 (some (.object "java/lang/Object")), Cond.methodLink RJx4a65c 118 yJ15_checkIndex_7cf53, Cond.static yJ15_checkIndex_7cf53, Cond.initialized RJ15, Cond.code yJ15_checkIndex_7cf53 cJ15_checkIndex_7cf53 2 (some .int), Cond.methodLink RJ15 105 yJ3_checkIndex_8e157, Cond.static yJ3_checkIndex_8e157, Cond.initialized RJ3, Cond.code yJ3_checkIndex_8e157 cJ3_checkIndex_8e157 3 (some .int), Cond.methodLink RJx4a65c 123 yJx4a65c_elementData_915e3, Cond.instanceMethod yJx4a65c_elementData_915e3, Cond.selects RJx4a65c yJx4a65c_elementData_915e3 yJx4a65c_elementData_915e3, Cond.code yJx4a65c_elementData_915e3 cJx4a65c_elementData_915e3 2 (some (.object "java/lang/Object")), Cond.fieldLink RJx4a65c 9 "java/util/ArrayList" "elementData" "[Ljava/lang/Object;", Cond.methodLink RX3 159 yX1_isHeldUp, Cond.instanceMethod yX1_isHeldUp, Cond.selects RX1 yX1_isHeldUp yX1_isHeldUp, Cond.initialized RX1, Cond.code yX1_isHeldUp cX1_isHeldUp 1 (some .boolean), Cond.fieldLink RX1 15 "ClauseShop$Duty" "contract" "LClauseShop$Contract;", Cond.fieldLink RX1 30 "ClauseShop$Contract" "breaches" "[I", Cond.fieldLink RX1 19 "ClauseShop$Duty" "version" "LClauseShop$Version;"]
def wsL_isSuspended_r3 : List Cond := [Cond.fieldLink RX1 36 "ClauseShop$Version" "obligor" "I", Cond.methodLink RX1 26 yX1_canBeDone, Cond.instanceMethod yX1_canBeDone, Cond.selects RX1 yX1_canBeDone yX1_canBeDone, Cond.code yX1_canBeDone cX1_canBeDone 1 (some .boolean), Cond.fieldLink RX1 9 "ClauseShop$Duty" "state" "I"]
def wsL_isSuspended : List Cond := .codeWith yL_isSuspended cL_isSuspended 4 (some .int) [(0, 16, 19, 33)] :: ((wsL_isSuspended_r1 ++ (wsL_isSuspended_r2 ++ wsL_isSuspended_r3)) ++ wsX30 ++ wsJx4a65c0 ++ wsX10 ++ wsX00 ++ wsX20 ++ (vx_atS RX3 208 "java/lang/IndexOutOfBoundsException" ["java/lang/RuntimeException", "java/lang/Exception"]).filter goodWord)
def wsL_perform_r1 : List Cond := [Cond.classLink RL 33 "java/lang/IndexOutOfBoundsException", Cond.classLink RL 15 "java/lang/IllegalStateException", Cond.methodLink RL 65 yX3_perform, Cond.instanceMethod yX3_perform, Cond.selects RX3 yX3_perform yX3_perform, Cond.initialized RX3, Cond.code yX3_perform cX3_perform 4 (some .boolean), Cond.classLink RX3 58 "java/lang/IllegalStateException", Cond.initialized "java/lang/IllegalStateException", Cond.fieldLink RX3 151 "ClauseShop$Duty" "state" "I", Cond.fieldLink RX3 32 "ClauseShop" "today" "I", Cond.fieldLink RX3 156 "ClauseShop$Duty" "day" "I", Cond.methodLink RX3 147 yX3_dutyAt, Cond.instanceMethod yX3_dutyAt, Cond.selects RX3 yX3_dutyAt yX3_dutyAt, Cond.code yX3_dutyAt cX3_dutyAt 2 (some (.object "ClauseShop$Duty")), Cond.classLink RX3 204 "java/lang/IndexOutOfBoundsException", Cond.initialized "java/lang/IndexOutOfBoundsException", Cond.fieldLink RX3 29 "ClauseShop" "dutyList" "Ljava/util/ArrayList;", Cond.classLink RX3 152 "ClauseShop$Duty", Cond.methodLink RX3 70 yJx4a65c_size_8abf5, Cond.instanceMethod yJx4a65c_size_8abf5, Cond.selects RJx4a65c yJx4a65c_size_8abf5 yJx4a65c_size_8abf5, Cond.initialized RJx4a65c]
def wsL_perform_r2 : List Cond := [Cond.code yJx4a65c_size_8abf5 cJx4a65c_size_8abf5 1 (some .int), Cond.fieldLink RJx4a65c 48 "java/util/ArrayList" "size" "I", Cond.methodLink RX3 43 yX3_isWithin, Cond.static yX3_isWithin, Cond.code yX3_isWithin cX3_isWithin 3 (some .boolean), Cond.methodLink RX3 209 yJx4a65c_get_915e3, Cond.instanceMethod yJx4a65c_get_915e3, Cond.selects RJx4a65c yJx4a65c_get_915e3 yJx4a65c_get_915e3, Cond.code yJx4a65c_get_915e3 cJx4a65c_get_915e3 2 (some (.object "java/lang/Object")), Cond.methodLink RJx4a65c 118 yJ15_checkIndex_7cf53, Cond.static yJ15_checkIndex_7cf53, Cond.initialized RJ15, Cond.code yJ15_checkIndex_7cf53 cJ15_checkIndex_7cf53 2 (some .int), Cond.methodLink RJ15 105 yJ3_checkIndex_8e157, Cond.static yJ3_checkIndex_8e157, Cond.initialized RJ3, Cond.code yJ3_checkIndex_8e157 cJ3_checkIndex_8e157 3 (some .int), Cond.methodLink RJx4a65c 123 yJx4a65c_elementData_915e3, Cond.instanceMethod yJx4a65c_elementData_915e3, Cond.selects RJx4a65c yJx4a65c_elementData_915e3 yJx4a65c_elementData_915e3, Cond.code yJx4a65c_elementData_915e3 cJx4a65c_elementData_915e3 2 (some (.object "java/lang/Object")), Cond.fieldLink RJx4a65c 9 "java/util/ArrayList" "elementData" "[Ljava/lang/Object;", Cond.methodLink RX3 162 yX1_canBeDone, Cond.instanceMethod yX1_canBeDone]
def wsL_perform_r3 : List Cond := [Cond.selects RX1 yX1_canBeDone yX1_canBeDone, Cond.initialized RX1, Cond.code yX1_canBeDone cX1_canBeDone 1 (some .boolean), Cond.fieldLink RX1 9 "ClauseShop$Duty" "state" "I", Cond.methodLink RX3 167 yX1_move, Cond.instanceMethod yX1_move, Cond.selects RX1 yX1_move yX1_move, Cond.code yX1_move cX1_move 3 none, Cond.fieldLink RX1 23 "ClauseShop$Duty" "day" "I"]
def wsL_perform : List Cond := .codeWith yL_perform cL_perform 4 (some .int) [(0, 16, 19, 33), (0, 16, 22, 15)] :: ((wsL_perform_r1 ++ (wsL_perform_r2 ++ wsL_perform_r3)) ++ wsX10 ++ wsX30 ++ wsJx4a65c0 ++ (vx_atS RX3 62 "java/lang/IllegalStateException" ["java/lang/RuntimeException", "java/lang/Exception"]).filter goodWord ++ (vx_atS RX3 208 "java/lang/IndexOutOfBoundsException" ["java/lang/RuntimeException", "java/lang/Exception"]).filter goodWord)
def wsL_notice_r1 : List Cond := [Cond.classLink RL 33 "java/lang/IndexOutOfBoundsException", Cond.classLink RL 15 "java/lang/IllegalStateException", Cond.methodLink RL 68 yX3_notice, Cond.instanceMethod yX3_notice, Cond.selects RX3 yX3_notice yX3_notice, Cond.initialized RX3, Cond.code yX3_notice cX3_notice 3 (some .int), Cond.classLink RX3 58 "java/lang/IllegalStateException", Cond.initialized "java/lang/IllegalStateException", Cond.fieldLink RX3 151 "ClauseShop$Duty" "state" "I", Cond.fieldLink RX3 32 "ClauseShop" "today" "I", Cond.fieldLink RX3 156 "ClauseShop$Duty" "day" "I", Cond.fieldLink RX3 172 "ClauseShop$Duty" "version" "LClauseShop$Version;", Cond.fieldLink RX3 176 "ClauseShop$Version" "cure" "I", Cond.methodLink RX3 147 yX3_dutyAt, Cond.instanceMethod yX3_dutyAt, Cond.selects RX3 yX3_dutyAt yX3_dutyAt, Cond.code yX3_dutyAt cX3_dutyAt 2 (some (.object "ClauseShop$Duty")), Cond.classLink RX3 204 "java/lang/IndexOutOfBoundsException", Cond.initialized "java/lang/IndexOutOfBoundsException", Cond.fieldLink RX3 29 "ClauseShop" "dutyList" "Ljava/util/ArrayList;", Cond.classLink RX3 152 "ClauseShop$Duty", Cond.methodLink RX3 70 yJx4a65c_size_8abf5, Cond.instanceMethod yJx4a65c_size_8abf5]
def wsL_notice_r2 : List Cond := [Cond.selects RJx4a65c yJx4a65c_size_8abf5 yJx4a65c_size_8abf5, Cond.initialized RJx4a65c, Cond.code yJx4a65c_size_8abf5 cJx4a65c_size_8abf5 1 (some .int), Cond.fieldLink RJx4a65c 48 "java/util/ArrayList" "size" "I", Cond.methodLink RX3 43 yX3_isWithin, Cond.static yX3_isWithin, Cond.code yX3_isWithin cX3_isWithin 3 (some .boolean), Cond.methodLink RX3 209 yJx4a65c_get_915e3, Cond.instanceMethod yJx4a65c_get_915e3, Cond.selects RJx4a65c yJx4a65c_get_915e3 yJx4a65c_get_915e3, Cond.code yJx4a65c_get_915e3 cJx4a65c_get_915e3 2 (some (.object "java/lang/Object")), Cond.methodLink RJx4a65c 118 yJ15_checkIndex_7cf53, Cond.static yJ15_checkIndex_7cf53, Cond.initialized RJ15, Cond.code yJ15_checkIndex_7cf53 cJ15_checkIndex_7cf53 2 (some .int), Cond.methodLink RJ15 105 yJ3_checkIndex_8e157, Cond.static yJ3_checkIndex_8e157, Cond.initialized RJ3, Cond.code yJ3_checkIndex_8e157 cJ3_checkIndex_8e157 3 (some .int), Cond.methodLink RJx4a65c 123 yJx4a65c_elementData_915e3, Cond.instanceMethod yJx4a65c_elementData_915e3, Cond.selects RJx4a65c yJx4a65c_elementData_915e3 yJx4a65c_elementData_915e3, Cond.code yJx4a65c_elementData_915e3 cJx4a65c_elementData_915e3 2 (some (.object "java/lang/Object")), Cond.fieldLink RJx4a65c 9 "java/util/ArrayList" "elementData" "[Ljava/lang/Object;"]
def wsL_notice_r3 : List Cond := [Cond.methodLink RX3 167 yX1_move, Cond.instanceMethod yX1_move, Cond.selects RX1 yX1_move yX1_move, Cond.initialized RX1, Cond.code yX1_move cX1_move 3 none, Cond.fieldLink RX1 9 "ClauseShop$Duty" "state" "I", Cond.fieldLink RX1 23 "ClauseShop$Duty" "day" "I"]
def wsL_notice : List Cond := .codeWith yL_notice cL_notice 4 (some .int) [(0, 9, 12, 33), (0, 9, 15, 15)] :: ((wsL_notice_r1 ++ (wsL_notice_r2 ++ wsL_notice_r3)) ++ wsX10 ++ wsX30 ++ wsX20 ++ wsJx4a65c0 ++ (vx_atS RX3 62 "java/lang/IllegalStateException" ["java/lang/RuntimeException", "java/lang/Exception"]).filter goodWord ++ (vx_atS RX3 208 "java/lang/IndexOutOfBoundsException" ["java/lang/RuntimeException", "java/lang/Exception"]).filter goodWord)
def wsL_settle_r1 : List Cond := [Cond.classLink RL 33 "java/lang/IndexOutOfBoundsException", Cond.classLink RL 15 "java/lang/IllegalStateException", Cond.methodLink RL 71 yX3_settle, Cond.instanceMethod yX3_settle, Cond.selects RX3 yX3_settle yX3_settle, Cond.initialized RX3, Cond.code yX3_settle cX3_settle 3 (some .int), Cond.classLink RX3 58 "java/lang/IllegalStateException", Cond.initialized "java/lang/IllegalStateException", Cond.fieldLink RX3 151 "ClauseShop$Duty" "state" "I", Cond.fieldLink RX3 32 "ClauseShop" "today" "I", Cond.fieldLink RX3 172 "ClauseShop$Duty" "version" "LClauseShop$Version;", Cond.fieldLink RX3 184 "ClauseShop$Version" "penalty" "I", Cond.methodLink RX3 147 yX3_dutyAt, Cond.instanceMethod yX3_dutyAt, Cond.selects RX3 yX3_dutyAt yX3_dutyAt, Cond.code yX3_dutyAt cX3_dutyAt 2 (some (.object "ClauseShop$Duty")), Cond.classLink RX3 204 "java/lang/IndexOutOfBoundsException", Cond.initialized "java/lang/IndexOutOfBoundsException", Cond.fieldLink RX3 29 "ClauseShop" "dutyList" "Ljava/util/ArrayList;", Cond.classLink RX3 152 "ClauseShop$Duty", Cond.methodLink RX3 70 yJx4a65c_size_8abf5, Cond.instanceMethod yJx4a65c_size_8abf5, Cond.selects RJx4a65c yJx4a65c_size_8abf5 yJx4a65c_size_8abf5]
def wsL_settle_r2 : List Cond := [Cond.initialized RJx4a65c, Cond.code yJx4a65c_size_8abf5 cJx4a65c_size_8abf5 1 (some .int), Cond.fieldLink RJx4a65c 48 "java/util/ArrayList" "size" "I", Cond.methodLink RX3 43 yX3_isWithin, Cond.static yX3_isWithin, Cond.code yX3_isWithin cX3_isWithin 3 (some .boolean), Cond.methodLink RX3 209 yJx4a65c_get_915e3, Cond.instanceMethod yJx4a65c_get_915e3, Cond.selects RJx4a65c yJx4a65c_get_915e3 yJx4a65c_get_915e3, Cond.code yJx4a65c_get_915e3 cJx4a65c_get_915e3 2 (some (.object "java/lang/Object")), Cond.methodLink RJx4a65c 118 yJ15_checkIndex_7cf53, Cond.static yJ15_checkIndex_7cf53, Cond.initialized RJ15, Cond.code yJ15_checkIndex_7cf53 cJ15_checkIndex_7cf53 2 (some .int), Cond.methodLink RJ15 105 yJ3_checkIndex_8e157, Cond.static yJ3_checkIndex_8e157, Cond.initialized RJ3, Cond.code yJ3_checkIndex_8e157 cJ3_checkIndex_8e157 3 (some .int), Cond.methodLink RJx4a65c 123 yJx4a65c_elementData_915e3, Cond.instanceMethod yJx4a65c_elementData_915e3, Cond.selects RJx4a65c yJx4a65c_elementData_915e3 yJx4a65c_elementData_915e3, Cond.code yJx4a65c_elementData_915e3 cJx4a65c_elementData_915e3 2 (some (.object "java/lang/Object")), Cond.fieldLink RJx4a65c 9 "java/util/ArrayList" "elementData" "[Ljava/lang/Object;", Cond.methodLink RX3 167 yX1_move]
def wsL_settle_r3 : List Cond := [Cond.instanceMethod yX1_move, Cond.selects RX1 yX1_move yX1_move, Cond.initialized RX1, Cond.code yX1_move cX1_move 3 none, Cond.fieldLink RX1 9 "ClauseShop$Duty" "state" "I", Cond.fieldLink RX1 23 "ClauseShop$Duty" "day" "I", Cond.methodLink RX3 181 yX1_countBreach, Cond.instanceMethod yX1_countBreach, Cond.selects RX1 yX1_countBreach yX1_countBreach, Cond.code yX1_countBreach cX1_countBreach 2 none, Cond.fieldLink RX1 15 "ClauseShop$Duty" "contract" "LClauseShop$Contract;", Cond.fieldLink RX1 30 "ClauseShop$Contract" "breaches" "[I", Cond.fieldLink RX1 19 "ClauseShop$Duty" "version" "LClauseShop$Version;", Cond.fieldLink RX1 36 "ClauseShop$Version" "obligor" "I", Cond.fieldLink RX1 41 "ClauseShop$Contract" "penalties" "[I", Cond.fieldLink RX1 44 "ClauseShop$Version" "penalty" "I"]
def wsL_settle : List Cond := .codeWith yL_settle cL_settle 4 (some .int) [(0, 9, 12, 33), (0, 9, 15, 15)] :: ((wsL_settle_r1 ++ (wsL_settle_r2 ++ wsL_settle_r3)) ++ wsX10 ++ wsX30 ++ wsX20 ++ wsJx4a65c0 ++ wsX00 ++ (vx_atS RX3 62 "java/lang/IllegalStateException" ["java/lang/RuntimeException", "java/lang/Exception"]).filter goodWord ++ (vx_atS RX3 208 "java/lang/IndexOutOfBoundsException" ["java/lang/RuntimeException", "java/lang/Exception"]).filter goodWord)
def wsL_owes_r1 : List Cond := [Cond.classLink RL 33 "java/lang/IndexOutOfBoundsException", Cond.classLink RL 13 "java/lang/IllegalArgumentException", Cond.methodLink RL 74 yX3_owes, Cond.instanceMethod yX3_owes, Cond.selects RX3 yX3_owes yX3_owes, Cond.initialized RX3, Cond.code yX3_owes cX3_owes 4 (some .int), Cond.fieldLink RX3 187 "ClauseShop$Contract" "penalties" "[I", Cond.methodLink RX3 190 Lib.Math.max.name, Cond.static Lib.Math.max.name, Cond.initialized "java/lang/Math", Cond.code Lib.Math.max.name Lib.Math.max.code 2 (some .int), Cond.methodLink RX3 83 yX3_contractAt, Cond.instanceMethod yX3_contractAt, Cond.selects RX3 yX3_contractAt yX3_contractAt, Cond.code yX3_contractAt cX3_contractAt 2 (some (.object "ClauseShop$Contract")), Cond.classLink RX3 204 "java/lang/IndexOutOfBoundsException", Cond.initialized "java/lang/IndexOutOfBoundsException", Cond.fieldLink RX3 25 "ClauseShop" "contracts" "Ljava/util/ArrayList;", Cond.classLink RX3 76 "ClauseShop$Contract", Cond.methodLink RX3 70 yJx4a65c_size_8abf5, Cond.instanceMethod yJx4a65c_size_8abf5, Cond.selects RJx4a65c yJx4a65c_size_8abf5 yJx4a65c_size_8abf5, Cond.initialized RJx4a65c]
def wsL_owes_r2 : List Cond := [Cond.code yJx4a65c_size_8abf5 cJx4a65c_size_8abf5 1 (some .int), Cond.fieldLink RJx4a65c 48 "java/util/ArrayList" "size" "I", Cond.methodLink RX3 43 yX3_isWithin, Cond.static yX3_isWithin, Cond.code yX3_isWithin cX3_isWithin 3 (some .boolean), Cond.methodLink RX3 209 yJx4a65c_get_915e3, Cond.instanceMethod yJx4a65c_get_915e3, Cond.selects RJx4a65c yJx4a65c_get_915e3 yJx4a65c_get_915e3, Cond.code yJx4a65c_get_915e3 cJx4a65c_get_915e3 2 (some (.object "java/lang/Object")), Cond.methodLink RJx4a65c 118 yJ15_checkIndex_7cf53, Cond.static yJ15_checkIndex_7cf53, Cond.initialized RJ15, Cond.code yJ15_checkIndex_7cf53 cJ15_checkIndex_7cf53 2 (some .int), Cond.methodLink RJ15 105 yJ3_checkIndex_8e157, Cond.static yJ3_checkIndex_8e157, Cond.initialized RJ3, Cond.code yJ3_checkIndex_8e157 cJ3_checkIndex_8e157 3 (some .int), Cond.methodLink RJx4a65c 123 yJx4a65c_elementData_915e3, Cond.instanceMethod yJx4a65c_elementData_915e3, Cond.selects RJx4a65c yJx4a65c_elementData_915e3 yJx4a65c_elementData_915e3, Cond.code yJx4a65c_elementData_915e3 cJx4a65c_elementData_915e3 2 (some (.object "java/lang/Object")), Cond.fieldLink RJx4a65c 9 "java/util/ArrayList" "elementData" "[Ljava/lang/Object;", Cond.methodLink RX3 40 yX3_checkSide, Cond.static yX3_checkSide]
def wsL_owes_r3 : List Cond := [Cond.code yX3_checkSide cX3_checkSide 1 none, Cond.classLink RX3 47 "java/lang/IllegalArgumentException", Cond.initialized "java/lang/IllegalArgumentException"]
def wsL_owes : List Cond := .codeWith yL_owes cL_owes 5 (some .int) [(0, 10, 13, 33), (0, 10, 17, 13)] :: ((wsL_owes_r1 ++ (wsL_owes_r2 ++ wsL_owes_r3)) ++ wsX00 ++ wsX30 ++ wsJx4a65c0 ++ (vx_atS RX3 208 "java/lang/IndexOutOfBoundsException" ["java/lang/RuntimeException", "java/lang/Exception"]).filter goodWord ++ (vx_atS RX3 51 "java/lang/IllegalArgumentException" ["java/lang/RuntimeException", "java/lang/Exception"]).filter goodWord)
def wsL_law0_r1 : List Cond := [Cond.classLink RL 8 RX3, Cond.instantiable RX3 6, Cond.initialized RX3, Cond.classLink RL 78 RX4, Cond.instantiable RX4 22, Cond.initialized RX4, Cond.arrayClass .long, Cond.methodLink RL 77 yX3_init, Cond.instanceMethod yX3_init, Cond.code yX3_init cX3_init 1 none, Cond.methodLink RX3 3 objectInit, Cond.instanceMethod objectInit, Cond.code objectInit ⟨#[0xb1]⟩ 1 none, Cond.classLink RX3 9 RX2, Cond.fieldLink RX3 11 "ClauseShop" "newest" "[LClauseShop$Version;", Cond.arrayClass .int, Cond.fieldLink RX3 15 "ClauseShop" "needs" "[I", Cond.fieldLink RX3 19 "ClauseShop" "forbids" "[I", Cond.classLink RX3 22 RJx4a65c, Cond.instantiable RJx4a65c 3, Cond.initialized RJx4a65c, Cond.fieldLink RX3 25 "ClauseShop" "contracts" "Ljava/util/ArrayList;", Cond.fieldLink RX3 29 "ClauseShop" "dutyList" "Ljava/util/ArrayList;", Cond.fieldLink RX3 32 "ClauseShop" "today" "I"]
def wsL_law0_r2 : List Cond := [Cond.methodLink RX3 24 yJx4a65c_init_da8c8, Cond.instanceMethod yJx4a65c_init_da8c8, Cond.code yJx4a65c_init_da8c8 cJx4a65c_init_da8c8 1 none, Cond.fieldLink RJx4a65c 39 "java/util/ArrayList" "DEFAULTCAPACITY_EMPTY_ELEMENTDATA" "[Ljava/lang/Object;", Cond.fieldLink RJx4a65c 9 "java/util/ArrayList" "elementData" "[Ljava/lang/Object;", Cond.methodLink RJx4a65c 1 yJxc12de_init_da8c8, Cond.instanceMethod yJxc12de_init_da8c8, Cond.initialized RJxc12de, Cond.code yJxc12de_init_da8c8 cJxc12de_init_da8c8 1 none, Cond.fieldLink RJxc12de 7 "java/util/AbstractList" "modCount" "I", Cond.methodLink RJxc12de 1 yJxa1e45_init_da8c8, Cond.instanceMethod yJxa1e45_init_da8c8, Cond.initialized RJxa1e45, Cond.code yJxa1e45_init_da8c8 cJxa1e45_init_da8c8 1 none, Cond.methodLink RJxa1e45 1 objectInit, Cond.methodLink RL 80 yX4_init, Cond.instanceMethod yX4_init, Cond.code yX4_init cX4_init 1 none, Cond.methodLink RX4 1 objectInit, Cond.fieldLink RX4 7 "ClauseShopModel" "latest" "[I", Cond.fieldLink RX4 13 "ClauseShopModel" "obligor" "[I", Cond.fieldLink RX4 16 "ClauseShopModel" "days" "[I", Cond.fieldLink RX4 19 "ClauseShopModel" "cure" "[I", Cond.fieldLink RX4 22 "ClauseShopModel" "penalty" "[I"]
def wsL_law0_r3 : List Cond := [Cond.fieldLink RX4 25 "ClauseShopModel" "needs" "[I", Cond.fieldLink RX4 28 "ClauseShopModel" "forbids" "[I", Cond.arrayClass .boolean, Cond.fieldLink RX4 31 "ClauseShopModel" "isSigned" "[Z", Cond.fieldLink RX4 35 "ClauseShopModel" "signed" "[I", Cond.fieldLink RX4 38 "ClauseShopModel" "version" "[I", Cond.fieldLink RX4 41 "ClauseShopModel" "mark" "[I", Cond.fieldLink RX4 44 "ClauseShopModel" "contract" "[I", Cond.fieldLink RX4 47 "ClauseShopModel" "side" "[I", Cond.fieldLink RX4 50 "ClauseShopModel" "itsCure" "[I", Cond.fieldLink RX4 53 "ClauseShopModel" "itsPenalty" "[I", Cond.fieldLink RX4 56 "ClauseShopModel" "state" "[I", Cond.fieldLink RX4 59 "ClauseShopModel" "counts" "[I", Cond.fieldLink RX4 62 "ClauseShopModel" "isLater" "[Z", Cond.methodLink RL 81 yL_issue, Cond.static yL_issue, Cond.initialized RL, Cond.codeWith yL_issue cL_issue 8 (some .int) [(0, 16, 19, 13), (0, 16, 23, 15)], Cond.classLink RL 13 "java/lang/IllegalArgumentException", Cond.classLink RL 15 "java/lang/IllegalStateException", Cond.methodLink RL 7 yX3_issue, Cond.instanceMethod yX3_issue, Cond.selects RX3 yX3_issue yX3_issue, Cond.code yX3_issue cX3_issue 7 (some .int)]
def wsL_law0_r4 : List Cond := [Cond.classLink RX3 47 "java/lang/IllegalArgumentException", Cond.initialized "java/lang/IllegalArgumentException", Cond.classLink RX3 58 "java/lang/IllegalStateException", Cond.initialized "java/lang/IllegalStateException", Cond.instantiable RX2 5, Cond.initialized RX2, Cond.methodLink RX3 36 yX3_checkClause, Cond.static yX3_checkClause, Cond.code yX3_checkClause cX3_checkClause 1 none, Cond.methodLink RX3 43 yX3_isWithin, Cond.static yX3_isWithin, Cond.code yX3_isWithin cX3_isWithin 3 (some .boolean), Cond.methodLink RX3 40 yX3_checkSide, Cond.static yX3_checkSide, Cond.code yX3_checkSide cX3_checkSide 1 none, Cond.methodLink RX3 54 yX3_newestNumber, Cond.instanceMethod yX3_newestNumber, Cond.selects RX3 yX3_newestNumber yX3_newestNumber, Cond.code yX3_newestNumber cX3_newestNumber 2 (some .int), Cond.methodLink RX3 218 yX3_numberOf, Cond.static yX3_numberOf, Cond.code yX3_numberOf cX3_numberOf 1 (some .int), Cond.fieldLink RX3 215 "ClauseShop$Version" "number" "I", Cond.methodLink RX3 63 yX2_init]
def wsL_law0_r5 : List Cond := [Cond.instanceMethod yX2_init, Cond.code yX2_init cX2_init 6 none, Cond.methodLink RX2 1 objectInit, Cond.fieldLink RX2 7 "ClauseShop$Version" "number" "I", Cond.fieldLink RX2 13 "ClauseShop$Version" "obligor" "I", Cond.fieldLink RX2 16 "ClauseShop$Version" "days" "I", Cond.fieldLink RX2 19 "ClauseShop$Version" "cure" "I", Cond.fieldLink RX2 22 "ClauseShop$Version" "penalty" "I", Cond.methodLink RL 86 yX4_issue, Cond.instanceMethod yX4_issue, Cond.selects RX4 yX4_issue yX4_issue, Cond.code yX4_issue cX4_issue 8 (some .int), Cond.fieldLink RX4 65 "ClauseShopModel" "thrown" "I", Cond.methodLink RX4 79 yX4_isClause, Cond.static yX4_isClause, Cond.code yX4_isClause cX4_isClause 1 (some .boolean), Cond.methodLink RX4 69 yX4_in, Cond.static yX4_in, Cond.code yX4_in cX4_in 3 (some .boolean), Cond.methodLink RX4 83 yX4_isSide, Cond.static yX4_isSide, Cond.code yX4_isSide cX4_isSide 1 (some .boolean), Cond.methodLink RL 87 yX4_thrown, Cond.instanceMethod yX4_thrown]
def wsL_law0_r6 : List Cond := [Cond.selects RX4 yX4_thrown yX4_thrown, Cond.code yX4_thrown cX4_thrown 1 (some .int), Cond.methodLink RL 90 yL_relate, Cond.static yL_relate, Cond.codeWith yL_relate cL_relate 5 (some .int) [(0, 7, 10, 13)], Cond.methodLink RL 17 yX3_relate, Cond.instanceMethod yX3_relate, Cond.selects RX3 yX3_relate yX3_relate, Cond.code yX3_relate cX3_relate 4 none, Cond.methodLink RX3 66 yX3_checkOtherClauses, Cond.static yX3_checkOtherClauses, Cond.code yX3_checkOtherClauses cX3_checkOtherClauses 2 none, Cond.methodLink RL 93 yX4_relate, Cond.instanceMethod yX4_relate, Cond.selects RX4 yX4_relate yX4_relate, Cond.code yX4_relate cX4_relate 5 none, Cond.methodLink RL 94 yL_latest, Cond.static yL_latest, Cond.codeWith yL_latest cL_latest 4 (some .int) [(0, 9, 12, 13)], Cond.methodLink RL 21 yX3_latest, Cond.instanceMethod yX3_latest, Cond.selects RX3 yX3_latest yX3_latest, Cond.code yX3_latest cX3_latest 2 (some .int), Cond.methodLink RL 97 yX4_latest]
def wsL_law0_r7 : List Cond := [Cond.instanceMethod yX4_latest, Cond.selects RX4 yX4_latest yX4_latest, Cond.code yX4_latest cX4_latest 2 (some .int), Cond.methodLink RL 98 yL_begin, Cond.static yL_begin, Cond.codeWith yL_begin cL_begin 3 (some .int) [(0, 8, 11, 15)], Cond.methodLink RL 25 yX3_begin, Cond.instanceMethod yX3_begin, Cond.selects RX3 yX3_begin yX3_begin, Cond.code yX3_begin cX3_begin 2 (some .int), Cond.classLink RX3 76 RX0, Cond.instantiable RX0 5, Cond.initialized RX0, Cond.methodLink RX3 70 yJx4a65c_size_8abf5, Cond.instanceMethod yJx4a65c_size_8abf5, Cond.selects RJx4a65c yJx4a65c_size_8abf5 yJx4a65c_size_8abf5, Cond.code yJx4a65c_size_8abf5 cJx4a65c_size_8abf5 1 (some .int), Cond.fieldLink RJx4a65c 48 "java/util/ArrayList" "size" "I", Cond.instanceMethod yX0_init, Cond.code yX0_init cX0_init 1 none, Cond.methodLink RX0 3 objectInit, Cond.classLink RX0 9 RX2, Cond.fieldLink RX0 11 "ClauseShop$Contract" "items" "[LClauseShop$Version;", Cond.classLink RX0 17 "[[I"]
def wsL_law0_r8 : List Cond := [Cond.fieldLink RX0 19 "ClauseShop$Contract" "marks" "[[I", Cond.fieldLink RX0 22 "ClauseShop$Contract" "signed" "[Z", Cond.fieldLink RX0 26 "ClauseShop$Contract" "breaches" "[I", Cond.fieldLink RX0 30 "ClauseShop$Contract" "penalties" "[I", Cond.methodLink RX3 79 yJx4a65c_add_9ea2d, Cond.instanceMethod yJx4a65c_add_9ea2d, Cond.selects RJx4a65c yJx4a65c_add_9ea2d yJx4a65c_add_9ea2d, Cond.code yJx4a65c_add_9ea2d cJx4a65c_add_9ea2d 2 (some .boolean), Cond.fieldLink RJx4a65c 63 "java/util/ArrayList" "modCount" "I", Cond.sameField "java/util/ArrayList" "java/util/AbstractList" "modCount" "I", Cond.methodLink RJx4a65c 131 yJx4a65c_add_72be8, Cond.instanceMethod yJx4a65c_add_72be8, Cond.selects RJx4a65c yJx4a65c_add_72be8 yJx4a65c_add_72be8, Cond.code yJx4a65c_add_72be8 cJx4a65c_add_72be8 4 none, Cond.methodLink RJx4a65c 129 yJx4a65c_grow_d5877, Cond.instanceMethod yJx4a65c_grow_d5877, Cond.selects RJx4a65c yJx4a65c_grow_d5877 yJx4a65c_grow_d5877, Cond.code yJx4a65c_grow_d5877 cJx4a65c_grow_d5877 1 (some (.array (.object "java/lang/Object"))), Cond.methodLink RJx4a65c 69 yJx4a65c_grow_92f84, Cond.instanceMethod yJx4a65c_grow_92f84, Cond.selects RJx4a65c yJx4a65c_grow_92f84 yJx4a65c_grow_92f84, Cond.code yJx4a65c_grow_92f84 cJx4a65c_grow_92f84 4 (some (.array (.object "java/lang/Object"))), Cond.methodLink RJx4a65c 79 Lib.Math.max.name, Cond.static Lib.Math.max.name]
def wsL_law0_r9 : List Cond := [Cond.initialized "java/lang/Math", Cond.code Lib.Math.max.name Lib.Math.max.code 2 (some .int), Cond.classLink RJx4a65c 7 "java/lang/Object", Cond.methodLink RJx4a65c 73 yJ8_newLength_cabcc, Cond.static yJ8_newLength_cabcc, Cond.initialized RJ8, Cond.code yJ8_newLength_cabcc cJ8_newLength_cabcc 4 (some .int), Cond.methodLink RJ8 194 Lib.Math.max.name, Cond.constant RJ8 200 (2147483639), Cond.methodLink RJ8 201 yJ8_hugeLength_7cf53, Cond.static yJ8_hugeLength_7cf53, Cond.code yJ8_hugeLength_7cf53 cJ8_hugeLength_7cf53 3 (some .int), Cond.methodLink RJx4a65c 66 yJ7_copyOf_1904c, Cond.static yJ7_copyOf_1904c, Cond.initialized RJ7, Cond.code yJ7_copyOf_1904c cJ7_copyOf_1904c 2 (some (.array (.object "java/lang/Object"))), Cond.methodLink RJ7 86 ⟨"java/lang/Object", "getClass", "()Ljava/lang/Class;"⟩, Cond.selects "[Ljava/lang/Object;" ⟨"java/lang/Object", "getClass", "()Ljava/lang/Class;"⟩ ⟨"java/lang/Object", "getClass", "()Ljava/lang/Class;"⟩, Cond.instanceMethod ⟨"java/lang/Object", "getClass", "()Ljava/lang/Class;"⟩, Cond.native ⟨"java/lang/Object", "getClass", "()Ljava/lang/Class;"⟩, Cond.methodLink RJ7 300 yJ7_copyOf_6403c, Cond.static yJ7_copyOf_6403c, Cond.code yJ7_copyOf_6403c cJ7_copyOf_6403c 4 (some (.array (.object "java/lang/Object"))), Cond.classLink RJ7 110 "[Ljava/lang/Object;"]
def wsL_law0_r10 : List Cond := [Cond.classLink RJ7 2 "java/lang/Object", Cond.methodLink RJ7 304 Lib.Math.min.name, Cond.static Lib.Math.min.name, Cond.code Lib.Math.min.name Lib.Math.min.code 2 (some .int), Cond.methodLink RJ7 150 arraycopyName, Cond.native arraycopyName, Cond.static arraycopyName, Cond.initialized "java/lang/System", Cond.methodLink RL 101 yX4_begin, Cond.instanceMethod yX4_begin, Cond.selects RX4 yX4_begin yX4_begin, Cond.code yX4_begin cX4_begin 1 (some .int), Cond.fieldLink RX4 73 "ClauseShopModel" "contracts" "I", Cond.methodLink RL 102 yL_mark, Cond.static yL_mark, Cond.codeWith yL_mark cL_mark 7 (some .int) [(0, 14, 17, 33), (0, 14, 21, 13), (0, 14, 25, 15)], Cond.classLink RL 33 "java/lang/IndexOutOfBoundsException", Cond.methodLink RL 29 yX3_mark, Cond.instanceMethod yX3_mark, Cond.selects RX3 yX3_mark yX3_mark, Cond.code yX3_mark cX3_mark 7 (some .int), Cond.fieldLink RX3 93 "ClauseShop$Contract" "items" "[LClauseShop$Version;", Cond.fieldLink RX3 102 "ClauseShop$Contract" "marks" "[[I", Cond.methodLink RX3 83 yX3_contractAt]
def wsL_law0_r11 : List Cond := [Cond.instanceMethod yX3_contractAt, Cond.selects RX3 yX3_contractAt yX3_contractAt, Cond.code yX3_contractAt cX3_contractAt 2 (some (.object "ClauseShop$Contract")), Cond.classLink RX3 204 "java/lang/IndexOutOfBoundsException", Cond.initialized "java/lang/IndexOutOfBoundsException", Cond.classLink RX3 76 "ClauseShop$Contract", Cond.methodLink RX3 209 yJx4a65c_get_915e3, Cond.instanceMethod yJx4a65c_get_915e3, Cond.selects RJx4a65c yJx4a65c_get_915e3 yJx4a65c_get_915e3, Cond.code yJx4a65c_get_915e3 cJx4a65c_get_915e3 2 (some (.object "java/lang/Object")), Cond.methodLink RJx4a65c 118 yJ15_checkIndex_7cf53, Cond.static yJ15_checkIndex_7cf53, Cond.initialized RJ15, Cond.code yJ15_checkIndex_7cf53 cJ15_checkIndex_7cf53 2 (some .int), Cond.methodLink RJ15 105 yJ3_checkIndex_8e157, Cond.static yJ3_checkIndex_8e157, Cond.initialized RJ3, Cond.code yJ3_checkIndex_8e157 cJ3_checkIndex_8e157 3 (some .int), Cond.methodLink RJx4a65c 123 yJx4a65c_elementData_915e3, Cond.instanceMethod yJx4a65c_elementData_915e3, Cond.selects RJx4a65c yJx4a65c_elementData_915e3 yJx4a65c_elementData_915e3, Cond.code yJx4a65c_elementData_915e3 cJx4a65c_elementData_915e3 2 (some (.object "java/lang/Object")), Cond.methodLink RX3 89 yX3_checkDraft, Cond.static yX3_checkDraft]
def wsL_law0_r12 : List Cond := [Cond.code yX3_checkDraft cX3_checkDraft 1 none, Cond.methodLink RX3 120 yX0_isDraft, Cond.instanceMethod yX0_isDraft, Cond.selects RX0 yX0_isDraft yX0_isDraft, Cond.code yX0_isDraft cX0_isDraft 1 (some .boolean), Cond.methodLink RX3 98 yX0_bringIn, Cond.instanceMethod yX0_bringIn, Cond.selects RX0 yX0_bringIn yX0_bringIn, Cond.code yX0_bringIn cX0_bringIn 4 none, Cond.methodLink RX0 33 yX0_loseSignatures, Cond.instanceMethod yX0_loseSignatures, Cond.selects RX0 yX0_loseSignatures yX0_loseSignatures, Cond.code yX0_loseSignatures cX0_loseSignatures 1 none, Cond.methodLink RX3 106 yX0_changeMark, Cond.instanceMethod yX0_changeMark, Cond.selects RX0 yX0_changeMark yX0_changeMark, Cond.code yX0_changeMark cX0_changeMark 4 none, Cond.methodLink RL 105 yX4_mark, Cond.instanceMethod yX4_mark, Cond.selects RX4 yX4_mark yX4_mark, Cond.code yX4_mark cX4_mark 7 (some .int), Cond.methodLink RX4 86 yX4_isContract, Cond.instanceMethod yX4_isContract, Cond.selects RX4 yX4_isContract yX4_isContract]
def wsL_law0_r13 : List Cond := [Cond.code yX4_isContract cX4_isContract 2 (some .boolean), Cond.methodLink RX4 89 yX4_marks, Cond.instanceMethod yX4_marks, Cond.selects RX4 yX4_marks yX4_marks, Cond.code yX4_marks cX4_marks 7 none, Cond.methodLink RL 106 yL_renew, Cond.static yL_renew, Cond.codeWith yL_renew cL_renew 6 (some .int) [(0, 12, 15, 33), (0, 12, 19, 13), (0, 12, 23, 15)], Cond.methodLink RL 35 yX3_renew, Cond.instanceMethod yX3_renew, Cond.selects RX3 yX3_renew yX3_renew, Cond.code yX3_renew cX3_renew 6 (some .int), Cond.methodLink RX3 110 yX3_hasLaterVersion, Cond.instanceMethod yX3_hasLaterVersion, Cond.selects RX3 yX3_hasLaterVersion yX3_hasLaterVersion, Cond.code yX3_hasLaterVersion cX3_hasLaterVersion 3 (some .boolean), Cond.methodLink RX3 116 yX3_itemNumber, Cond.static yX3_itemNumber, Cond.code yX3_itemNumber cX3_itemNumber 2 (some .int), Cond.methodLink RL 109 yX4_renew, Cond.instanceMethod yX4_renew, Cond.selects RX4 yX4_renew yX4_renew, Cond.code yX4_renew cX4_renew 6 (some .int), Cond.methodLink RL 110 yL_version]
def wsL_law0_r14 : List Cond := [Cond.static yL_version, Cond.codeWith yL_version cL_version 5 (some .int) [(0, 10, 13, 33), (0, 10, 17, 13)], Cond.methodLink RL 39 yX3_version, Cond.instanceMethod yX3_version, Cond.selects RX3 yX3_version yX3_version, Cond.code yX3_version cX3_version 4 (some .int), Cond.methodLink RL 113 yX4_version, Cond.instanceMethod yX4_version, Cond.selects RX4 yX4_version yX4_version, Cond.code yX4_version cX4_version 3 (some .int), Cond.methodLink RL 114 yL_offered, Cond.static yL_offered, Cond.codeWith yL_offered cL_offered 4 (some .int) [(0, 9, 12, 33)], Cond.methodLink RL 43 yX3_offered, Cond.instanceMethod yX3_offered, Cond.selects RX3 yX3_offered yX3_offered, Cond.code yX3_offered cX3_offered 5 (some .int), Cond.methodLink RL 116 yX4_offered, Cond.instanceMethod yX4_offered, Cond.selects RX4 yX4_offered yX4_offered, Cond.code yX4_offered cX4_offered 5 (some .int), Cond.methodLink RL 117 yL_whyNot, Cond.static yL_whyNot, Cond.codeWith yL_whyNot cL_whyNot 4 (some .int) [(0, 9, 12, 33)]]
def wsL_law0_r15 : List Cond := [Cond.methodLink RL 46 yX3_whyNot, Cond.instanceMethod yX3_whyNot, Cond.selects RX3 yX3_whyNot yX3_whyNot, Cond.code yX3_whyNot cX3_whyNot 2 (some .int), Cond.methodLink RX3 124 yX3_obstacle, Cond.instanceMethod yX3_obstacle, Cond.selects RX3 yX3_obstacle yX3_obstacle, Cond.code yX3_obstacle cX3_obstacle 3 (some .int), Cond.methodLink RX3 222 yX0_clauseSet, Cond.instanceMethod yX0_clauseSet, Cond.selects RX0 yX0_clauseSet yX0_clauseSet, Cond.code yX0_clauseSet cX0_clauseSet 3 (some .int), Cond.methodLink RX3 225 yX0_isAgreed, Cond.instanceMethod yX0_isAgreed, Cond.selects RX0 yX0_isAgreed yX0_isAgreed, Cond.code yX0_isAgreed cX0_isAgreed 2 (some .boolean), Cond.methodLink RX3 228 yX3_unionOver, Cond.static yX3_unionOver, Cond.code yX3_unionOver cX3_unionOver 4 (some .int), Cond.methodLink RL 119 yX4_whyNot, Cond.instanceMethod yX4_whyNot, Cond.selects RX4 yX4_whyNot yX4_whyNot, Cond.code yX4_whyNot cX4_whyNot 2 (some .int), Cond.methodLink RX4 93 yX4_reason]
def wsL_law0_r16 : List Cond := [Cond.instanceMethod yX4_reason, Cond.selects RX4 yX4_reason yX4_reason, Cond.code yX4_reason cX4_reason 8 (some .int), Cond.methodLink RL 120 yL_sign, Cond.static yL_sign, Cond.codeWith yL_sign cL_sign 5 (some .int) [(0, 10, 13, 33), (0, 10, 17, 13), (0, 10, 21, 15)], Cond.methodLink RL 49 yX3_sign, Cond.instanceMethod yX3_sign, Cond.selects RX3 yX3_sign yX3_sign, Cond.code yX3_sign cX3_sign 4 (some .int), Cond.fieldLink RX3 128 "ClauseShop$Contract" "signed" "[Z", Cond.methodLink RX3 134 yX3_makeDuties, Cond.instanceMethod yX3_makeDuties, Cond.selects RX3 yX3_makeDuties yX3_makeDuties, Cond.code yX3_makeDuties cX3_makeDuties 5 (some .int), Cond.classLink RX3 152 RX1, Cond.instantiable RX1 4, Cond.initialized RX1, Cond.fieldLink RX3 232 "ClauseShop$Version" "days" "I", Cond.methodLink RX3 235 yX1_init, Cond.instanceMethod yX1_init, Cond.code yX1_init cX1_init 4 none, Cond.methodLink RX1 3 objectInit, Cond.fieldLink RX1 9 "ClauseShop$Duty" "state" "I"]
def wsL_law0_r17 : List Cond := [Cond.fieldLink RX1 15 "ClauseShop$Duty" "contract" "LClauseShop$Contract;", Cond.fieldLink RX1 19 "ClauseShop$Duty" "version" "LClauseShop$Version;", Cond.fieldLink RX1 23 "ClauseShop$Duty" "day" "I", Cond.methodLink RL 122 yX4_sign, Cond.instanceMethod yX4_sign, Cond.selects RX4 yX4_sign yX4_sign, Cond.code yX4_sign cX4_sign 3 (some .int), Cond.methodLink RX4 100 yX4_makesDuties, Cond.instanceMethod yX4_makesDuties, Cond.selects RX4 yX4_makesDuties yX4_makesDuties, Cond.code yX4_makesDuties cX4_makesDuties 6 (some .int), Cond.fieldLink RX4 76 "ClauseShopModel" "duties" "I", Cond.fieldLink RX4 97 "ClauseShopModel" "day" "I", Cond.methodLink RL 123 yL_pass, Cond.static yL_pass, Cond.codeWith yL_pass cL_pass 4 (some .int) [(0, 9, 12, 13), (0, 9, 15, 15)], Cond.methodLink RL 52 yX3_pass, Cond.instanceMethod yX3_pass, Cond.selects RX3 yX3_pass yX3_pass, Cond.code yX3_pass cX3_pass 4 (some .int), Cond.methodLink RX3 141 yX3_putOffHeldUpDuties, Cond.instanceMethod yX3_putOffHeldUpDuties, Cond.selects RX3 yX3_putOffHeldUpDuties yX3_putOffHeldUpDuties, Cond.code yX3_putOffHeldUpDuties cX3_putOffHeldUpDuties 3 none]
def wsL_law0_r18 : List Cond := [Cond.classLink RX3 152 "ClauseShop$Duty", Cond.fieldLink RX3 156 "ClauseShop$Duty" "day" "I", Cond.methodLink RX3 159 yX1_isHeldUp, Cond.instanceMethod yX1_isHeldUp, Cond.selects RX1 yX1_isHeldUp yX1_isHeldUp, Cond.code yX1_isHeldUp cX1_isHeldUp 1 (some .boolean), Cond.fieldLink RX1 30 "ClauseShop$Contract" "breaches" "[I", Cond.fieldLink RX1 36 "ClauseShop$Version" "obligor" "I", Cond.methodLink RX1 26 yX1_canBeDone, Cond.instanceMethod yX1_canBeDone, Cond.selects RX1 yX1_canBeDone yX1_canBeDone, Cond.code yX1_canBeDone cX1_canBeDone 1 (some .boolean), Cond.methodLink RX3 144 yX3_breachUncuredDuties, Cond.instanceMethod yX3_breachUncuredDuties, Cond.selects RX3 yX3_breachUncuredDuties yX3_breachUncuredDuties, Cond.code yX3_breachUncuredDuties cX3_breachUncuredDuties 4 (some .int), Cond.fieldLink RX3 151 "ClauseShop$Duty" "state" "I", Cond.methodLink RX3 167 yX1_move, Cond.instanceMethod yX1_move, Cond.selects RX1 yX1_move yX1_move, Cond.code yX1_move cX1_move 3 none, Cond.methodLink RX3 181 yX1_countBreach, Cond.instanceMethod yX1_countBreach, Cond.selects RX1 yX1_countBreach yX1_countBreach]
def wsL_law0_r19 : List Cond := [Cond.code yX1_countBreach cX1_countBreach 2 none, Cond.fieldLink RX1 41 "ClauseShop$Contract" "penalties" "[I", Cond.fieldLink RX1 44 "ClauseShop$Version" "penalty" "I", Cond.methodLink RL 125 yX4_pass, Cond.instanceMethod yX4_pass, Cond.selects RX4 yX4_pass yX4_pass, Cond.code yX4_pass cX4_pass 4 (some .int), Cond.methodLink RX4 106 yX4_passes, Cond.instanceMethod yX4_passes, Cond.selects RX4 yX4_passes yX4_passes, Cond.code yX4_passes cX4_passes 3 (some .int), Cond.methodLink RX4 103 yX4_isSuspendedNow, Cond.instanceMethod yX4_isSuspendedNow, Cond.selects RX4 yX4_isSuspendedNow yX4_isSuspendedNow, Cond.code yX4_isSuspendedNow cX4_isSuspendedNow 4 (some .boolean), Cond.methodLink RL 126 yX3_duties, Cond.instanceMethod yX3_duties, Cond.selects RX3 yX3_duties yX3_duties, Cond.code yX3_duties cX3_duties 1 (some .int), Cond.methodLink RL 129 yX4_duties, Cond.instanceMethod yX4_duties, Cond.selects RX4 yX4_duties yX4_duties, Cond.code yX4_duties cX4_duties 1 (some .int), Cond.methodLink RL 130 yL_state]
def wsL_law0_r20 : List Cond := [Cond.static yL_state, Cond.codeWith yL_state cL_state 4 (some .int) [(0, 9, 12, 33)], Cond.methodLink RL 55 yX3_state, Cond.instanceMethod yX3_state, Cond.selects RX3 yX3_state yX3_state, Cond.code yX3_state cX3_state 2 (some .int), Cond.methodLink RX3 147 yX3_dutyAt, Cond.instanceMethod yX3_dutyAt, Cond.selects RX3 yX3_dutyAt yX3_dutyAt, Cond.code yX3_dutyAt cX3_dutyAt 2 (some (.object "ClauseShop$Duty")), Cond.methodLink RL 132 yX4_state, Cond.instanceMethod yX4_state, Cond.selects RX4 yX4_state yX4_state, Cond.code yX4_state cX4_state 2 (some .int), Cond.methodLink RX4 110 yX4_isDuty, Cond.instanceMethod yX4_isDuty, Cond.selects RX4 yX4_isDuty yX4_isDuty, Cond.code yX4_isDuty cX4_isDuty 2 (some .boolean), Cond.methodLink RL 133 yL_day, Cond.static yL_day, Cond.codeWith yL_day cL_day 4 (some .int) [(0, 9, 12, 33)], Cond.methodLink RL 58 yX3_day, Cond.instanceMethod yX3_day, Cond.selects RX3 yX3_day yX3_day]
def wsL_law0_r21 : List Cond := [Cond.code yX3_day cX3_day 2 (some .int), Cond.methodLink RL 135 yX4_day, Cond.instanceMethod yX4_day, Cond.selects RX4 yX4_day yX4_day, Cond.code yX4_day cX4_day 2 (some .int), Cond.methodLink RL 136 yL_isSuspended, Cond.static yL_isSuspended, Cond.codeWith yL_isSuspended cL_isSuspended 4 (some .int) [(0, 16, 19, 33)], Cond.methodLink RL 61 yX3_isSuspended, Cond.instanceMethod yX3_isSuspended, Cond.selects RX3 yX3_isSuspended yX3_isSuspended, Cond.code yX3_isSuspended cX3_isSuspended 2 (some .boolean), Cond.methodLink RL 138 yX4_isSuspended, Cond.instanceMethod yX4_isSuspended, Cond.selects RX4 yX4_isSuspended yX4_isSuspended, Cond.code yX4_isSuspended cX4_isSuspended 2 (some .boolean), Cond.methodLink RL 139 yL_perform, Cond.static yL_perform, Cond.codeWith yL_perform cL_perform 4 (some .int) [(0, 16, 19, 33), (0, 16, 22, 15)], Cond.methodLink RL 65 yX3_perform, Cond.instanceMethod yX3_perform, Cond.selects RX3 yX3_perform yX3_perform, Cond.code yX3_perform cX3_perform 4 (some .boolean), Cond.methodLink RX3 162 yX1_canBeDone]
def wsL_law0_r22 : List Cond := [Cond.methodLink RL 141 yX4_perform, Cond.instanceMethod yX4_perform, Cond.selects RX4 yX4_perform yX4_perform, Cond.code yX4_perform cX4_perform 3 (some .boolean), Cond.methodLink RL 142 yL_notice, Cond.static yL_notice, Cond.codeWith yL_notice cL_notice 4 (some .int) [(0, 9, 12, 33), (0, 9, 15, 15)], Cond.methodLink RL 68 yX3_notice, Cond.instanceMethod yX3_notice, Cond.selects RX3 yX3_notice yX3_notice, Cond.code yX3_notice cX3_notice 3 (some .int), Cond.fieldLink RX3 172 "ClauseShop$Duty" "version" "LClauseShop$Version;", Cond.fieldLink RX3 176 "ClauseShop$Version" "cure" "I", Cond.methodLink RL 144 yX4_notice, Cond.instanceMethod yX4_notice, Cond.selects RX4 yX4_notice yX4_notice, Cond.code yX4_notice cX4_notice 2 (some .int), Cond.methodLink RL 145 yL_settle, Cond.static yL_settle, Cond.codeWith yL_settle cL_settle 4 (some .int) [(0, 9, 12, 33), (0, 9, 15, 15)], Cond.methodLink RL 71 yX3_settle, Cond.instanceMethod yX3_settle, Cond.selects RX3 yX3_settle yX3_settle, Cond.code yX3_settle cX3_settle 3 (some .int)]
def wsL_law0_r23 : List Cond := [Cond.fieldLink RX3 184 "ClauseShop$Version" "penalty" "I", Cond.methodLink RL 147 yX4_settle, Cond.instanceMethod yX4_settle, Cond.selects RX4 yX4_settle yX4_settle, Cond.code yX4_settle cX4_settle 2 (some .int), Cond.methodLink RL 148 yL_owes, Cond.static yL_owes, Cond.codeWith yL_owes cL_owes 5 (some .int) [(0, 10, 13, 33), (0, 10, 17, 13)], Cond.methodLink RL 74 yX3_owes, Cond.instanceMethod yX3_owes, Cond.selects RX3 yX3_owes yX3_owes, Cond.code yX3_owes cX3_owes 4 (some .int), Cond.fieldLink RX3 187 "ClauseShop$Contract" "penalties" "[I", Cond.methodLink RX3 190 Lib.Math.max.name, Cond.methodLink RL 150 yX4_owes, Cond.instanceMethod yX4_owes, Cond.selects RX4 yX4_owes yX4_owes, Cond.code yX4_owes cX4_owes 6 (some .int)]
def wsL_law0 : List Cond := (wsL_law0_r1 ++ (wsL_law0_r2 ++ (wsL_law0_r3 ++ (wsL_law0_r4 ++ (wsL_law0_r5 ++ (wsL_law0_r6 ++ (wsL_law0_r7 ++ (wsL_law0_r8 ++ (wsL_law0_r9 ++ (wsL_law0_r10 ++ (wsL_law0_r11 ++ (wsL_law0_r12 ++ (wsL_law0_r13 ++ (wsL_law0_r14 ++ (wsL_law0_r15 ++ (wsL_law0_r16 ++ (wsL_law0_r17 ++ (wsL_law0_r18 ++ (wsL_law0_r19 ++ (wsL_law0_r20 ++ (wsL_law0_r21 ++ (wsL_law0_r22 ++ wsL_law0_r23)))))))))))))))))))))) ++ wsX30 ++ wsX40 ++ wsJx4a65c0 ++ wsX20 ++ wsX00 ++ wsX10 ++ ([] : List Cond)
def wsL_law : List Cond := wsL_law0 ++ (vx_atS RX3 51 "java/lang/IllegalArgumentException" ["java/lang/RuntimeException", "java/lang/Exception"]).filter goodWord ++ (vx_atS RX3 62 "java/lang/IllegalStateException" ["java/lang/RuntimeException", "java/lang/Exception"]).filter goodWord ++ (vx_atS RX3 208 "java/lang/IndexOutOfBoundsException" ["java/lang/RuntimeException", "java/lang/Exception"]).filter goodWord
abbrev vwCl : List vw_C := [(RJx4a65c, TJx4a65c, 3), (RX0, TX0, 5), (RX1, TX1, 4), (RX2, TX2, 5), (RX3, TX3, 6), (RX4, TX4, 22)]
/-! THE CLAIM OUT OF ONE WALK OF THE LAW'S BODY. Your part is whole_start (and what it stands on); all else here is the same for every law, but numbers. -/
def R_law : String := "ClauseShopLaw"
def lw_P (b : Addr) (xs : List Int32) (args : Array Value) (s : State) : Prop := args = #[.ref b] ∧ s.IntsAt b xs ∧ xs.length ≤ 3072 ∧ (Jvm.Cond.and given_1 narrow_1).before args s = true
def lw_Q (_ : Array Value) (s : State) (o : Outcome) (t : State) : Prop := o = .returned (some (.int 1)) ∧ Framed s o t [] 601024 7293034
def lw_Z (below : List Frame) (a : Array Value) (s : State) : State → Prop := fun t => ∃ o, t.status = .running ∧ Ended t below o ∧ lw_Q a s o t
/-- the law's own end, with 1 on the stack, nothing written that was there before, its room as the claim has it -/
theorem lw_ret {p : Program} {l : Launch} {e : Env} {s : State} {m : MethodId} {below : List Frame} {meth : Method} {c : Code} {b : Nat} (hx : p.tables.exec = Jvm.exec) (hb : c.code = code) (hr : meth.sig.returnType = ret) (hlocks : meth.locks = false) {pc : Nat} {H : Heap} {ls : Array Slot} (hdg : decode code pc = .ok (.ireturn, 1)) : W p l e room_1 s m #[Value.ref b] below meth c H [] 601024 7293034 (lw_Z below #[Value.ref b] s) (F0 m pc ls [.int 1]) := by
  intro T hT X
  obtain ⟨fs, hret, hrun, hended, hW, hframe⟩ := X.leave (v := some (.int 1)) (hlocks := hlocks) (fun h => by rw [hr] at h; cases h)
  have hmeth' : T.vm.method? m = some meth := X.method'
  refine ⟨T.setFrames fs, ?_, .returned (some (.int 1)), hrun, hended, rfl, ⟨_, rfl⟩, hW, hframe⟩
  jvm_step X.here [X.here.top, hx, hb, hdg, hmeth', hr, ret, narrow_b1]
  (try refine ⟨rfl, ?_⟩); (try refine ⟨rfl, ?_⟩)
  first | (intro acts; rw [hret _ acts rfl rfl rfl]) | rw [hret _ _ rfl rfl rfl]
  exact Steps.refl _
/-- what holds at the law's entry: the machine, the code, the tables' words (any of lw_tbl by 'hts w (by decide +kernel)'), the script of L ints xs at the cell b, what the Statement gives of the start (any of its parts by flat_of_before) -/
def lw_At (p : Program) (s : State) (m : MethodId) (meth : Method) (c : Code) (b L : Nat) (xs : Nat → Int32) : Prop :=
  p.tables.exec = Jvm.exec ∧ c.code = code ∧ meth.sig.returnType = ret ∧ c.maxLocals = 7 ∧ s.vm.findClass R_law = some m.cls ∧ (∀ w ∈ lw_tbl, w.before #[Value.ref b] s = true) ∧ va_X b L xs s s.heap ∧ b < s.heap.size ∧ meth.locks = false ∧ (Jvm.Cond.and given_1 narrow_1).before #[Value.ref b] s = true
end
section
set_option maxRecDepth 20000 in
theorem wsL_law_c1 : ∀ w ∈ wsL_law0_r1, w ∈ lw_tbl := fun w h => (goodIn_p wsL_law0_r1 [44, 47] (by decide +kernel) (by decide +kernel) w h).1
set_option maxRecDepth 20000 in
theorem wsL_law_c2 : ∀ w ∈ wsL_law0_r2, w ∈ lw_tbl := fun w h => (goodIn_p wsL_law0_r2 [54, 57, 60, 601] (by decide +kernel) (by decide +kernel) w h).1
set_option maxRecDepth 20000 in
theorem wsL_law_c3 : ∀ w ∈ wsL_law0_r3, w ∈ lw_tbl := fun w h => (goodIn_p wsL_law0_r3 [112] (by decide +kernel) (by decide +kernel) w h).1
set_option maxRecDepth 20000 in
theorem wsL_law_c4 : ∀ w ∈ wsL_law0_r4, w ∈ lw_tbl := fun w h => (goodIn_p wsL_law0_r4 [115, 118, 189, 195, 198] (by decide +kernel) (by decide +kernel) w h).1
set_option maxRecDepth 20000 in
theorem wsL_law_c5 : ∀ w ∈ wsL_law0_r5, w ∈ lw_tbl := fun w h => (goodIn_p wsL_law0_r5 [218, 677, 680, 683, 686] (by decide +kernel) (by decide +kernel) w h).1
set_option maxRecDepth 20000 in
theorem wsL_law_c6 : ∀ w ∈ wsL_law0_r6, w ∈ lw_tbl := fun w h => (goodIn_p wsL_law0_r6 [673, 248, 251, 690, 259] (by decide +kernel) (by decide +kernel) w h).1
set_option maxRecDepth 20000 in
theorem wsL_law_c7 : ∀ w ∈ wsL_law0_r7, w ∈ lw_tbl := fun w h => (goodIn_p wsL_law0_r7 [694, 266, 103, 272] (by decide +kernel) (by decide +kernel) w h).1
set_option maxRecDepth 20000 in
theorem wsL_law_c8 : ∀ w ∈ wsL_law0_r8, w ∈ lw_tbl := fun w h => (goodIn_p wsL_law0_r8 [303, 307, 311, 315] (by decide +kernel) (by decide +kernel) w h).1
set_option maxRecDepth 20000 in
theorem wsL_law_c9 : ∀ w ∈ wsL_law0_r9, w ∈ lw_tbl := fun w h => (goodIn_p wsL_law0_r9 [321, 318, 325, 328, 344] (by decide +kernel) (by decide +kernel) w h).1
set_option maxRecDepth 20000 in
theorem wsL_law_c10 : ∀ w ∈ wsL_law0_r10, w ∈ lw_tbl := fun w h => (goodIn_p wsL_law0_r10 [350, 698, 363] (by decide +kernel) (by decide +kernel) w h).1
set_option maxRecDepth 20000 in
theorem wsL_law_c11 : ∀ w ∈ wsL_law0_r11, w ∈ lw_tbl := fun w h => (goodIn_p wsL_law0_r11 [367, 387, 390, 393, 397] (by decide +kernel) (by decide +kernel) w h).1
set_option maxRecDepth 20000 in
theorem wsL_law_c12 : ∀ w ∈ wsL_law0_r12, w ∈ lw_tbl := fun w h => (goodIn_p wsL_law0_r12 [401, 405, 411, 415, 419, 702] (by decide +kernel) (by decide +kernel) w h).1
set_option maxRecDepth 20000 in
theorem wsL_law_c13 : ∀ w ∈ wsL_law0_r13, w ∈ lw_tbl := fun w h => (goodIn_p wsL_law0_r13 [706, 710, 426, 430, 433, 714] (by decide +kernel) (by decide +kernel) w h).1
set_option maxRecDepth 20000 in
theorem wsL_law_c14 : ∀ w ∈ wsL_law0_r14, w ∈ lw_tbl := fun w h => (goodIn_p wsL_law0_r14 [441, 718, 448, 722] (by decide +kernel) (by decide +kernel) w h).1
set_option maxRecDepth 20000 in
theorem wsL_law_c15 : ∀ w ∈ wsL_law0_r15, w ∈ lw_tbl := fun w h => (goodIn_p wsL_law0_r15 [455, 459, 463, 467, 470, 726] (by decide +kernel) (by decide +kernel) w h).1
set_option maxRecDepth 20000 in
theorem wsL_law_c16 : ∀ w ∈ wsL_law0_r16, w ∈ lw_tbl := fun w h => (goodIn_p wsL_law0_r16 [730, 477, 482, 487] (by decide +kernel) (by decide +kernel) w h).1
set_option maxRecDepth 20000 in
theorem wsL_law_c17 : ∀ w ∈ wsL_law0_r17, w ∈ lw_tbl := fun w h => (goodIn_p wsL_law0_r17 [734, 738, 511, 517] (by decide +kernel) (by decide +kernel) w h).1
set_option maxRecDepth 20000 in
theorem wsL_law_c18 : ∀ w ∈ wsL_law0_r18, w ∈ lw_tbl := fun w h => (goodIn_p wsL_law0_r18 [521, 525, 529, 533] (by decide +kernel) (by decide +kernel) w h).1
set_option maxRecDepth 20000 in
theorem wsL_law_c19 : ∀ w ∈ wsL_law0_r19, w ∈ lw_tbl := fun w h => (goodIn_p wsL_law0_r19 [537, 742, 746, 750, 99, 754] (by decide +kernel) (by decide +kernel) w h).1
set_option maxRecDepth 20000 in
theorem wsL_law_c20 : ∀ w ∈ wsL_law0_r20, w ∈ lw_tbl := fun w h => (goodIn_p wsL_law0_r20 [544, 548, 758, 762] (by decide +kernel) (by decide +kernel) w h).1
set_option maxRecDepth 20000 in
theorem wsL_law_c21 : ∀ w ∈ wsL_law0_r21, w ∈ lw_tbl := fun w h => (goodIn_p wsL_law0_r21 [556, 766, 563, 770, 570] (by decide +kernel) (by decide +kernel) w h).1
set_option maxRecDepth 20000 in
theorem wsL_law_c22 : ∀ w ∈ wsL_law0_r22, w ∈ lw_tbl := fun w h => (goodIn_p wsL_law0_r22 [774, 579, 778, 587] (by decide +kernel) (by decide +kernel) w h).1
set_option maxRecDepth 20000 in
theorem wsL_law_c23 : ∀ w ∈ wsL_law0_r23, w ∈ lw_tbl := fun w h => (goodIn_p wsL_law0_r23 [782, 595, 786] (by decide +kernel) (by decide +kernel) w h).1
set_option maxRecDepth 20000 in
theorem wsL_law_fX3 : ∀ w ∈ wsX30, w ∈ lw_tbl := fun w h => (goodIn_p wsX30 [] (by decide +kernel) (by decide +kernel) w h).1
set_option maxRecDepth 20000 in
theorem wsL_law_fX4 : ∀ w ∈ wsX40, w ∈ lw_tbl := fun w h => (goodIn_p wsX40 [] (by decide +kernel) (by decide +kernel) w h).1
set_option maxRecDepth 20000 in
theorem wsL_law_fJx4a65c : ∀ w ∈ wsJx4a65c0, w ∈ lw_tbl := fun w h => (goodIn_p wsJx4a65c0 [] (by decide +kernel) (by decide +kernel) w h).1
set_option maxRecDepth 20000 in
theorem wsL_law_fX2 : ∀ w ∈ wsX20, w ∈ lw_tbl := fun w h => (goodIn_p wsX20 [] (by decide +kernel) (by decide +kernel) w h).1
set_option maxRecDepth 20000 in
theorem wsL_law_fX0 : ∀ w ∈ wsX00, w ∈ lw_tbl := fun w h => (goodIn_p wsX00 [] (by decide +kernel) (by decide +kernel) w h).1
set_option maxRecDepth 20000 in
theorem wsL_law_fX1 : ∀ w ∈ wsX10, w ∈ lw_tbl := fun w h => (goodIn_p wsX10 [] (by decide +kernel) (by decide +kernel) w h).1
theorem wsL_law_cc : ∀ w ∈ (wsL_law0_r1 ++ (wsL_law0_r2 ++ (wsL_law0_r3 ++ (wsL_law0_r4 ++ (wsL_law0_r5 ++ (wsL_law0_r6 ++ (wsL_law0_r7 ++ (wsL_law0_r8 ++ (wsL_law0_r9 ++ (wsL_law0_r10 ++ (wsL_law0_r11 ++ (wsL_law0_r12 ++ (wsL_law0_r13 ++ (wsL_law0_r14 ++ (wsL_law0_r15 ++ (wsL_law0_r16 ++ (wsL_law0_r17 ++ (wsL_law0_r18 ++ (wsL_law0_r19 ++ (wsL_law0_r20 ++ (wsL_law0_r21 ++ (wsL_law0_r22 ++ wsL_law0_r23)))))))))))))))))))))), w ∈ lw_tbl := fun w => (fun h => (List.mem_append.mp h).elim (fun h => wsL_law_c1 w h) (fun h => (List.mem_append.mp h).elim (fun h => wsL_law_c2 w h) (fun h => (List.mem_append.mp h).elim (fun h => wsL_law_c3 w h) (fun h => (List.mem_append.mp h).elim (fun h => wsL_law_c4 w h) (fun h => (List.mem_append.mp h).elim (fun h => wsL_law_c5 w h) (fun h => (List.mem_append.mp h).elim (fun h => wsL_law_c6 w h) (fun h => (List.mem_append.mp h).elim (fun h => wsL_law_c7 w h) (fun h => (List.mem_append.mp h).elim (fun h => wsL_law_c8 w h) (fun h => (List.mem_append.mp h).elim (fun h => wsL_law_c9 w h) (fun h => (List.mem_append.mp h).elim (fun h => wsL_law_c10 w h) (fun h => (List.mem_append.mp h).elim (fun h => wsL_law_c11 w h) (fun h => (List.mem_append.mp h).elim (fun h => wsL_law_c12 w h) (fun h => (List.mem_append.mp h).elim (fun h => wsL_law_c13 w h) (fun h => (List.mem_append.mp h).elim (fun h => wsL_law_c14 w h) (fun h => (List.mem_append.mp h).elim (fun h => wsL_law_c15 w h) (fun h => (List.mem_append.mp h).elim (fun h => wsL_law_c16 w h) (fun h => (List.mem_append.mp h).elim (fun h => wsL_law_c17 w h) (fun h => (List.mem_append.mp h).elim (fun h => wsL_law_c18 w h) (fun h => (List.mem_append.mp h).elim (fun h => wsL_law_c19 w h) (fun h => (List.mem_append.mp h).elim (fun h => wsL_law_c20 w h) (fun h => (List.mem_append.mp h).elim (fun h => wsL_law_c21 w h) (fun h => (List.mem_append.mp h).elim (fun h => wsL_law_c22 w h) (fun h => wsL_law_c23 w h)))))))))))))))))))))))
theorem wsL_law_in0 : ∀ w ∈ wsL_law0, w ∈ lw_tbl := fun w h => (List.mem_append.mp h).elim (fun h => (List.mem_append.mp h).elim (fun h => (List.mem_append.mp h).elim (fun h => (List.mem_append.mp h).elim (fun h => (List.mem_append.mp h).elim (fun h => (List.mem_append.mp h).elim (fun h => (List.mem_append.mp h).elim (fun h => wsL_law_cc w h) (fun h => wsL_law_fX3 w h)) (fun h => wsL_law_fX4 w h)) (fun h => wsL_law_fJx4a65c w h)) (fun h => wsL_law_fX2 w h)) (fun h => wsL_law_fX0 w h)) (fun h => wsL_law_fX1 w h)) (fun h => absurd h List.not_mem_nil)
theorem wsL_law_x0 : ∀ w ∈ (vx_atS RX3 51 "java/lang/IllegalArgumentException" ["java/lang/RuntimeException", "java/lang/Exception"]).filter goodWord, w ∈ lw_tbl := by decide +kernel
theorem wsL_law_x1 : ∀ w ∈ (vx_atS RX3 62 "java/lang/IllegalStateException" ["java/lang/RuntimeException", "java/lang/Exception"]).filter goodWord, w ∈ lw_tbl := by decide +kernel
theorem wsL_law_x2 : ∀ w ∈ (vx_atS RX3 208 "java/lang/IndexOutOfBoundsException" ["java/lang/RuntimeException", "java/lang/Exception"]).filter goodWord, w ∈ lw_tbl := by decide +kernel
theorem wsL_law_in : ∀ w ∈ wsL_law, w ∈ lw_tbl := fun w h => (List.mem_append.mp h).elim (fun h => (List.mem_append.mp h).elim (fun h => (List.mem_append.mp h).elim (fun h => wsL_law_in0 w h) (fun h => wsL_law_x0 w h)) (fun h => wsL_law_x1 w h)) (fun h => wsL_law_x2 w h)
theorem inlX0 : ∀ w ∈ wsX00, w ∈ wsL_law := fun _ h => List.mem_append_left _ (List.mem_append_left _ (List.mem_append_left _ (List.mem_append_left _ (List.mem_append_left _ (List.mem_append_right _ h)))))
theorem inX0 : ∀ w ∈ wsX00, w ∈ lw_tbl := fun w h => wsL_law_in w (inlX0 w h)
theorem inlX1 : ∀ w ∈ wsX10, w ∈ wsL_law := fun _ h => List.mem_append_left _ (List.mem_append_left _ (List.mem_append_left _ (List.mem_append_left _ (List.mem_append_right _ h))))
theorem inX1 : ∀ w ∈ wsX10, w ∈ lw_tbl := fun w h => wsL_law_in w (inlX1 w h)
theorem inlX2 : ∀ w ∈ wsX20, w ∈ wsL_law := fun _ h => List.mem_append_left _ (List.mem_append_left _ (List.mem_append_left _ (List.mem_append_left _ (List.mem_append_left _ (List.mem_append_left _ (List.mem_append_right _ h))))))
theorem inX2 : ∀ w ∈ wsX20, w ∈ lw_tbl := fun w h => wsL_law_in w (inlX2 w h)
theorem inlX3 : ∀ w ∈ wsX30, w ∈ wsL_law := fun _ h => List.mem_append_left _ (List.mem_append_left _ (List.mem_append_left _ (List.mem_append_left _ (List.mem_append_left _ (List.mem_append_left _ (List.mem_append_left _ (List.mem_append_left _ (List.mem_append_left _ (List.mem_append_right _ h)))))))))
theorem inX3 : ∀ w ∈ wsX30, w ∈ lw_tbl := fun w h => wsL_law_in w (inlX3 w h)
theorem inlX4 : ∀ w ∈ wsX40, w ∈ wsL_law := fun _ h => List.mem_append_left _ (List.mem_append_left _ (List.mem_append_left _ (List.mem_append_left _ (List.mem_append_left _ (List.mem_append_left _ (List.mem_append_left _ (List.mem_append_left _ (List.mem_append_right _ h))))))))
theorem inX4 : ∀ w ∈ wsX40, w ∈ lw_tbl := fun w h => wsL_law_in w (inlX4 w h)
theorem inJx145de : ∀ w ∈ wsJx145de0, w ∈ lw_tbl := by decide +kernel
theorem inJx8e188 : ∀ w ∈ wsJx8e1880, w ∈ lw_tbl := by decide +kernel
theorem inJxab1ab : ∀ w ∈ wsJxab1ab0, w ∈ lw_tbl := by decide +kernel
theorem inJ9 : ∀ w ∈ wsJ90, w ∈ lw_tbl := by decide +kernel
theorem inJ0 : ∀ w ∈ wsJ00, w ∈ lw_tbl := by decide +kernel
theorem inJ10 : ∀ w ∈ wsJ100, w ∈ lw_tbl := by decide +kernel
theorem inJxa1e45 : ∀ w ∈ wsJxa1e450, w ∈ lw_tbl := by decide +kernel
theorem inJxc12de : ∀ w ∈ wsJxc12de0, w ∈ lw_tbl := by decide +kernel
theorem inlJx4a65c : ∀ w ∈ wsJx4a65c0, w ∈ wsL_law := fun _ h => List.mem_append_left _ (List.mem_append_left _ (List.mem_append_left _ (List.mem_append_left _ (List.mem_append_left _ (List.mem_append_left _ (List.mem_append_left _ (List.mem_append_right _ h)))))))
theorem inJx4a65c : ∀ w ∈ wsJx4a65c0, w ∈ lw_tbl := fun w h => wsL_law_in w (inlJx4a65c w h)
theorem inJ7 : ∀ w ∈ wsJ70, w ∈ lw_tbl := by decide +kernel
theorem inJx5ef63 : ∀ w ∈ wsJx5ef630, w ∈ lw_tbl := by decide +kernel
theorem inJxbd725 : ∀ w ∈ wsJxbd7250, w ∈ lw_tbl := by decide +kernel
theorem inJ15 : ∀ w ∈ wsJ150, w ∈ lw_tbl := by decide +kernel
theorem inJxf0a74 : ∀ w ∈ wsJxf0a740, w ∈ lw_tbl := by decide +kernel
theorem inJxa66e6 : ∀ w ∈ wsJxa66e60, w ∈ lw_tbl := by decide +kernel
theorem inJ8 : ∀ w ∈ wsJ80, w ∈ lw_tbl := by decide +kernel
theorem inJ3 : ∀ w ∈ wsJ30, w ∈ lw_tbl := by decide +kernel
end
section
theorem dX0_init_0 : decode cX0_init 0 = .ok (.aload_n 0, 1) := by decide +kernel
theorem dX0_init_1 : decode cX0_init 1 = .ok (.invokespecial 3, 3) := by decide +kernel
theorem dX0_init_4 : decode cX0_init 4 = .ok (.aload_n 0, 1) := by decide +kernel
theorem dX0_init_5 : decode cX0_init 5 = .ok (.bipush 10, 2) := by decide +kernel
theorem dX0_init_7 : decode cX0_init 7 = .ok (.anewarray 9, 3) := by decide +kernel
theorem dX0_init_10 : decode cX0_init 10 = .ok (.putfield 11, 3) := by decide +kernel
theorem dX0_init_13 : decode cX0_init 13 = .ok (.aload_n 0, 1) := by decide +kernel
theorem dX0_init_14 : decode cX0_init 14 = .ok (.iconst 2, 1) := by decide +kernel
theorem dX0_init_15 : decode cX0_init 15 = .ok (.bipush 10, 2) := by decide +kernel
theorem dX0_init_17 : decode cX0_init 17 = .ok (.multianewarray 17 2, 4) := by decide +kernel
theorem dX0_init_21 : decode cX0_init 21 = .ok (.putfield 19, 3) := by decide +kernel
theorem dX0_init_24 : decode cX0_init 24 = .ok (.aload_n 0, 1) := by decide +kernel
theorem dX0_init_25 : decode cX0_init 25 = .ok (.iconst 2, 1) := by decide +kernel
theorem dX0_init_26 : decode cX0_init 26 = .ok (.newarray .boolean, 2) := by decide +kernel
theorem dX0_init_28 : decode cX0_init 28 = .ok (.putfield 22, 3) := by decide +kernel
theorem dX0_init_31 : decode cX0_init 31 = .ok (.aload_n 0, 1) := by decide +kernel
theorem dX0_init_32 : decode cX0_init 32 = .ok (.iconst 2, 1) := by decide +kernel
theorem dX0_init_33 : decode cX0_init 33 = .ok (.newarray .int, 2) := by decide +kernel
theorem dX0_init_35 : decode cX0_init 35 = .ok (.putfield 26, 3) := by decide +kernel
theorem dX0_init_38 : decode cX0_init 38 = .ok (.aload_n 0, 1) := by decide +kernel
theorem dX0_init_39 : decode cX0_init 39 = .ok (.iconst 2, 1) := by decide +kernel
theorem dX0_init_40 : decode cX0_init 40 = .ok (.newarray .int, 2) := by decide +kernel
theorem dX0_init_42 : decode cX0_init 42 = .ok (.putfield 30, 3) := by decide +kernel
theorem dX0_init_45 : decode cX0_init 45 = .ok (.return_, 1) := by decide +kernel
theorem dX0_isDraft_0 : decode cX0_isDraft 0 = .ok (.aload_n 0, 1) := by decide +kernel
theorem dX0_isDraft_1 : decode cX0_isDraft 1 = .ok (.getfield 22, 3) := by decide +kernel
theorem dX0_isDraft_4 : decode cX0_isDraft 4 = .ok (.iconst 0, 1) := by decide +kernel
theorem dX0_isDraft_5 : decode cX0_isDraft 5 = .ok (.baload, 1) := by decide +kernel
theorem dX0_isDraft_6 : decode cX0_isDraft 6 = .ok (.ifCond .eq 12, 3) := by decide +kernel
theorem dX0_isDraft_9 : decode cX0_isDraft 9 = .ok (.aload_n 0, 1) := by decide +kernel
theorem dX0_isDraft_10 : decode cX0_isDraft 10 = .ok (.getfield 22, 3) := by decide +kernel
theorem dX0_isDraft_13 : decode cX0_isDraft 13 = .ok (.iconst 1, 1) := by decide +kernel
theorem dX0_isDraft_14 : decode cX0_isDraft 14 = .ok (.baload, 1) := by decide +kernel
theorem dX0_isDraft_15 : decode cX0_isDraft 15 = .ok (.ifCond .ne 7, 3) := by decide +kernel
theorem dX0_isDraft_18 : decode cX0_isDraft 18 = .ok (.iconst 1, 1) := by decide +kernel
theorem dX0_isDraft_19 : decode cX0_isDraft 19 = .ok (.goto 4, 3) := by decide +kernel
theorem dX0_isDraft_22 : decode cX0_isDraft 22 = .ok (.iconst 0, 1) := by decide +kernel
theorem dX0_isDraft_23 : decode cX0_isDraft 23 = .ok (.ireturn, 1) := by decide +kernel
theorem dX0_loseSignatures_0 : decode cX0_loseSignatures 0 = .ok (.aload_n 0, 1) := by decide +kernel
theorem dX0_loseSignatures_1 : decode cX0_loseSignatures 1 = .ok (.getfield 22, 3) := by decide +kernel
theorem dX0_loseSignatures_4 : decode cX0_loseSignatures 4 = .ok (.iconst 0, 1) := by decide +kernel
theorem dX0_loseSignatures_5 : decode cX0_loseSignatures 5 = .ok (.iconst 0, 1) := by decide +kernel
theorem dX0_loseSignatures_6 : decode cX0_loseSignatures 6 = .ok (.bastore, 1) := by decide +kernel
theorem dX0_loseSignatures_7 : decode cX0_loseSignatures 7 = .ok (.aload_n 0, 1) := by decide +kernel
theorem dX0_loseSignatures_8 : decode cX0_loseSignatures 8 = .ok (.getfield 22, 3) := by decide +kernel
theorem dX0_loseSignatures_11 : decode cX0_loseSignatures 11 = .ok (.iconst 1, 1) := by decide +kernel
theorem dX0_loseSignatures_12 : decode cX0_loseSignatures 12 = .ok (.iconst 0, 1) := by decide +kernel
theorem dX0_loseSignatures_13 : decode cX0_loseSignatures 13 = .ok (.bastore, 1) := by decide +kernel
theorem dX0_loseSignatures_14 : decode cX0_loseSignatures 14 = .ok (.return_, 1) := by decide +kernel
set_option maxRecDepth 20000 in
theorem ggX0_bringIn_X0_loseSignatures : GoodIn wsX0_bringIn wsX0_loseSignatures := goodIn_r _ [7, 8, 9, 10, 11, 12, 13] (by decide +kernel) (by decide +kernel)
set_option maxRecDepth 20000 in
theorem gX0_bringIn_X0_loseSignatures : GoodIn wsX0_bringIn (wsV RX0 33 RX0 yX0_loseSignatures wsX0_loseSignatures) := goodIn_app (goodIn_of _ (by decide +kernel)) ggX0_bringIn_X0_loseSignatures
theorem dX0_bringIn_0 : decode cX0_bringIn 0 = .ok (.aload_n 0, 1) := by decide +kernel
theorem dX0_bringIn_1 : decode cX0_bringIn 1 = .ok (.getfield 11, 3) := by decide +kernel
theorem dX0_bringIn_4 : decode cX0_bringIn 4 = .ok (.iload_n 2, 1) := by decide +kernel
theorem dX0_bringIn_5 : decode cX0_bringIn 5 = .ok (.aload_n 1, 1) := by decide +kernel
theorem dX0_bringIn_6 : decode cX0_bringIn 6 = .ok (.aastore, 1) := by decide +kernel
theorem dX0_bringIn_7 : decode cX0_bringIn 7 = .ok (.aload_n 0, 1) := by decide +kernel
theorem dX0_bringIn_8 : decode cX0_bringIn 8 = .ok (.getfield 19, 3) := by decide +kernel
theorem dX0_bringIn_11 : decode cX0_bringIn 11 = .ok (.iload_n 3, 1) := by decide +kernel
theorem dX0_bringIn_12 : decode cX0_bringIn 12 = .ok (.aaload, 1) := by decide +kernel
theorem dX0_bringIn_13 : decode cX0_bringIn 13 = .ok (.iload_n 2, 1) := by decide +kernel
theorem dX0_bringIn_14 : decode cX0_bringIn 14 = .ok (.iconst 1, 1) := by decide +kernel
theorem dX0_bringIn_15 : decode cX0_bringIn 15 = .ok (.iastore, 1) := by decide +kernel
theorem dX0_bringIn_16 : decode cX0_bringIn 16 = .ok (.aload_n 0, 1) := by decide +kernel
theorem dX0_bringIn_17 : decode cX0_bringIn 17 = .ok (.getfield 19, 3) := by decide +kernel
theorem dX0_bringIn_20 : decode cX0_bringIn 20 = .ok (.iconst 1, 1) := by decide +kernel
theorem dX0_bringIn_21 : decode cX0_bringIn 21 = .ok (.iload_n 3, 1) := by decide +kernel
theorem dX0_bringIn_22 : decode cX0_bringIn 22 = .ok (.isub, 1) := by decide +kernel
theorem dX0_bringIn_23 : decode cX0_bringIn 23 = .ok (.aaload, 1) := by decide +kernel
theorem dX0_bringIn_24 : decode cX0_bringIn 24 = .ok (.iload_n 2, 1) := by decide +kernel
theorem dX0_bringIn_25 : decode cX0_bringIn 25 = .ok (.iconst 0, 1) := by decide +kernel
theorem dX0_bringIn_26 : decode cX0_bringIn 26 = .ok (.iastore, 1) := by decide +kernel
theorem dX0_bringIn_27 : decode cX0_bringIn 27 = .ok (.aload_n 0, 1) := by decide +kernel
theorem dX0_bringIn_28 : decode cX0_bringIn 28 = .ok (.invokevirtual 33, 3) := by decide +kernel
theorem dX0_bringIn_31 : decode cX0_bringIn 31 = .ok (.return_, 1) := by decide +kernel
set_option maxRecDepth 20000 in
theorem ggX0_changeMark_X0_loseSignatures : GoodIn wsX0_changeMark wsX0_loseSignatures := goodIn_r _ [7, 8, 9, 10, 11, 12, 13] (by decide +kernel) (by decide +kernel)
set_option maxRecDepth 20000 in
theorem gX0_changeMark_X0_loseSignatures : GoodIn wsX0_changeMark (wsV RX0 33 RX0 yX0_loseSignatures wsX0_loseSignatures) := goodIn_app (goodIn_of _ (by decide +kernel)) ggX0_changeMark_X0_loseSignatures
theorem dX0_changeMark_0 : decode cX0_changeMark 0 = .ok (.aload_n 0, 1) := by decide +kernel
theorem dX0_changeMark_1 : decode cX0_changeMark 1 = .ok (.getfield 19, 3) := by decide +kernel
theorem dX0_changeMark_4 : decode cX0_changeMark 4 = .ok (.iload_n 1, 1) := by decide +kernel
theorem dX0_changeMark_5 : decode cX0_changeMark 5 = .ok (.aaload, 1) := by decide +kernel
theorem dX0_changeMark_6 : decode cX0_changeMark 6 = .ok (.iload_n 2, 1) := by decide +kernel
theorem dX0_changeMark_7 : decode cX0_changeMark 7 = .ok (.iaload, 1) := by decide +kernel
theorem dX0_changeMark_8 : decode cX0_changeMark 8 = .ok (.iload_n 3, 1) := by decide +kernel
theorem dX0_changeMark_9 : decode cX0_changeMark 9 = .ok (.if_icmp .ne 4, 3) := by decide +kernel
theorem dX0_changeMark_12 : decode cX0_changeMark 12 = .ok (.return_, 1) := by decide +kernel
theorem dX0_changeMark_13 : decode cX0_changeMark 13 = .ok (.aload_n 0, 1) := by decide +kernel
theorem dX0_changeMark_14 : decode cX0_changeMark 14 = .ok (.getfield 19, 3) := by decide +kernel
theorem dX0_changeMark_17 : decode cX0_changeMark 17 = .ok (.iload_n 1, 1) := by decide +kernel
theorem dX0_changeMark_18 : decode cX0_changeMark 18 = .ok (.aaload, 1) := by decide +kernel
theorem dX0_changeMark_19 : decode cX0_changeMark 19 = .ok (.iload_n 2, 1) := by decide +kernel
theorem dX0_changeMark_20 : decode cX0_changeMark 20 = .ok (.iload_n 3, 1) := by decide +kernel
theorem dX0_changeMark_21 : decode cX0_changeMark 21 = .ok (.iastore, 1) := by decide +kernel
theorem dX0_changeMark_22 : decode cX0_changeMark 22 = .ok (.aload_n 0, 1) := by decide +kernel
theorem dX0_changeMark_23 : decode cX0_changeMark 23 = .ok (.invokevirtual 33, 3) := by decide +kernel
theorem dX0_changeMark_26 : decode cX0_changeMark 26 = .ok (.aload_n 0, 1) := by decide +kernel
theorem dX0_changeMark_27 : decode cX0_changeMark 27 = .ok (.getfield 19, 3) := by decide +kernel
theorem dX0_changeMark_30 : decode cX0_changeMark 30 = .ok (.iconst 0, 1) := by decide +kernel
theorem dX0_changeMark_31 : decode cX0_changeMark 31 = .ok (.aaload, 1) := by decide +kernel
theorem dX0_changeMark_32 : decode cX0_changeMark 32 = .ok (.iload_n 2, 1) := by decide +kernel
theorem dX0_changeMark_33 : decode cX0_changeMark 33 = .ok (.iaload, 1) := by decide +kernel
theorem dX0_changeMark_34 : decode cX0_changeMark 34 = .ok (.iconst 1, 1) := by decide +kernel
theorem dX0_changeMark_35 : decode cX0_changeMark 35 = .ok (.if_icmp .eq 22, 3) := by decide +kernel
theorem dX0_changeMark_38 : decode cX0_changeMark 38 = .ok (.aload_n 0, 1) := by decide +kernel
theorem dX0_changeMark_39 : decode cX0_changeMark 39 = .ok (.getfield 19, 3) := by decide +kernel
theorem dX0_changeMark_42 : decode cX0_changeMark 42 = .ok (.iconst 1, 1) := by decide +kernel
theorem dX0_changeMark_43 : decode cX0_changeMark 43 = .ok (.aaload, 1) := by decide +kernel
theorem dX0_changeMark_44 : decode cX0_changeMark 44 = .ok (.iload_n 2, 1) := by decide +kernel
theorem dX0_changeMark_45 : decode cX0_changeMark 45 = .ok (.iaload, 1) := by decide +kernel
theorem dX0_changeMark_46 : decode cX0_changeMark 46 = .ok (.iconst 1, 1) := by decide +kernel
theorem dX0_changeMark_47 : decode cX0_changeMark 47 = .ok (.if_icmp .eq 10, 3) := by decide +kernel
theorem dX0_changeMark_50 : decode cX0_changeMark 50 = .ok (.aload_n 0, 1) := by decide +kernel
theorem dX0_changeMark_51 : decode cX0_changeMark 51 = .ok (.getfield 11, 3) := by decide +kernel
theorem dX0_changeMark_54 : decode cX0_changeMark 54 = .ok (.iload_n 2, 1) := by decide +kernel
theorem dX0_changeMark_55 : decode cX0_changeMark 55 = .ok (.aconst_null, 1) := by decide +kernel
theorem dX0_changeMark_56 : decode cX0_changeMark 56 = .ok (.aastore, 1) := by decide +kernel
theorem dX0_changeMark_57 : decode cX0_changeMark 57 = .ok (.return_, 1) := by decide +kernel
theorem dX0_clauseSet_0 : decode cX0_clauseSet 0 = .ok (.iconst 0, 1) := by decide +kernel
theorem dX0_clauseSet_1 : decode cX0_clauseSet 1 = .ok (.istore_n 1, 1) := by decide +kernel
theorem dX0_clauseSet_2 : decode cX0_clauseSet 2 = .ok (.iconst 0, 1) := by decide +kernel
theorem dX0_clauseSet_3 : decode cX0_clauseSet 3 = .ok (.istore_n 2, 1) := by decide +kernel
theorem dX0_clauseSet_4 : decode cX0_clauseSet 4 = .ok (.iload_n 2, 1) := by decide +kernel
theorem dX0_clauseSet_5 : decode cX0_clauseSet 5 = .ok (.bipush 10, 2) := by decide +kernel
theorem dX0_clauseSet_7 : decode cX0_clauseSet 7 = .ok (.if_icmp .ge 24, 3) := by decide +kernel
theorem dX0_clauseSet_10 : decode cX0_clauseSet 10 = .ok (.aload_n 0, 1) := by decide +kernel
theorem dX0_clauseSet_11 : decode cX0_clauseSet 11 = .ok (.getfield 11, 3) := by decide +kernel
theorem dX0_clauseSet_14 : decode cX0_clauseSet 14 = .ok (.iload_n 2, 1) := by decide +kernel
theorem dX0_clauseSet_15 : decode cX0_clauseSet 15 = .ok (.aaload, 1) := by decide +kernel
theorem dX0_clauseSet_16 : decode cX0_clauseSet 16 = .ok (.ifnull 9, 3) := by decide +kernel
theorem dX0_clauseSet_19 : decode cX0_clauseSet 19 = .ok (.iload_n 1, 1) := by decide +kernel
theorem dX0_clauseSet_20 : decode cX0_clauseSet 20 = .ok (.iconst 1, 1) := by decide +kernel
theorem dX0_clauseSet_21 : decode cX0_clauseSet 21 = .ok (.iload_n 2, 1) := by decide +kernel
theorem dX0_clauseSet_22 : decode cX0_clauseSet 22 = .ok (.ishl, 1) := by decide +kernel
theorem dX0_clauseSet_23 : decode cX0_clauseSet 23 = .ok (.ior, 1) := by decide +kernel
theorem dX0_clauseSet_24 : decode cX0_clauseSet 24 = .ok (.istore_n 1, 1) := by decide +kernel
theorem dX0_clauseSet_25 : decode cX0_clauseSet 25 = .ok (.iinc 2 1, 3) := by decide +kernel
theorem dX0_clauseSet_28 : decode cX0_clauseSet 28 = .ok (.goto (-24), 3) := by decide +kernel
theorem dX0_clauseSet_31 : decode cX0_clauseSet 31 = .ok (.iload_n 1, 1) := by decide +kernel
theorem dX0_clauseSet_32 : decode cX0_clauseSet 32 = .ok (.ireturn, 1) := by decide +kernel
theorem dX0_isAgreed_0 : decode cX0_isAgreed 0 = .ok (.iconst 0, 1) := by decide +kernel
theorem dX0_isAgreed_1 : decode cX0_isAgreed 1 = .ok (.istore_n 1, 1) := by decide +kernel
theorem dX0_isAgreed_2 : decode cX0_isAgreed 2 = .ok (.iload_n 1, 1) := by decide +kernel
theorem dX0_isAgreed_3 : decode cX0_isAgreed 3 = .ok (.bipush 10, 2) := by decide +kernel
theorem dX0_isAgreed_5 : decode cX0_isAgreed 5 = .ok (.if_icmp .ge 44, 3) := by decide +kernel
theorem dX0_isAgreed_8 : decode cX0_isAgreed 8 = .ok (.aload_n 0, 1) := by decide +kernel
theorem dX0_isAgreed_9 : decode cX0_isAgreed 9 = .ok (.getfield 11, 3) := by decide +kernel
theorem dX0_isAgreed_12 : decode cX0_isAgreed 12 = .ok (.iload_n 1, 1) := by decide +kernel
theorem dX0_isAgreed_13 : decode cX0_isAgreed 13 = .ok (.aaload, 1) := by decide +kernel
theorem dX0_isAgreed_14 : decode cX0_isAgreed 14 = .ok (.ifnull 29, 3) := by decide +kernel
theorem dX0_isAgreed_17 : decode cX0_isAgreed 17 = .ok (.aload_n 0, 1) := by decide +kernel
theorem dX0_isAgreed_18 : decode cX0_isAgreed 18 = .ok (.getfield 19, 3) := by decide +kernel
theorem dX0_isAgreed_21 : decode cX0_isAgreed 21 = .ok (.iconst 0, 1) := by decide +kernel
theorem dX0_isAgreed_22 : decode cX0_isAgreed 22 = .ok (.aaload, 1) := by decide +kernel
theorem dX0_isAgreed_23 : decode cX0_isAgreed 23 = .ok (.iload_n 1, 1) := by decide +kernel
theorem dX0_isAgreed_24 : decode cX0_isAgreed 24 = .ok (.iaload, 1) := by decide +kernel
theorem dX0_isAgreed_25 : decode cX0_isAgreed 25 = .ok (.iconst 1, 1) := by decide +kernel
theorem dX0_isAgreed_26 : decode cX0_isAgreed 26 = .ok (.if_icmp .ne 15, 3) := by decide +kernel
theorem dX0_isAgreed_29 : decode cX0_isAgreed 29 = .ok (.aload_n 0, 1) := by decide +kernel
theorem dX0_isAgreed_30 : decode cX0_isAgreed 30 = .ok (.getfield 19, 3) := by decide +kernel
theorem dX0_isAgreed_33 : decode cX0_isAgreed 33 = .ok (.iconst 1, 1) := by decide +kernel
theorem dX0_isAgreed_34 : decode cX0_isAgreed 34 = .ok (.aaload, 1) := by decide +kernel
theorem dX0_isAgreed_35 : decode cX0_isAgreed 35 = .ok (.iload_n 1, 1) := by decide +kernel
theorem dX0_isAgreed_36 : decode cX0_isAgreed 36 = .ok (.iaload, 1) := by decide +kernel
theorem dX0_isAgreed_37 : decode cX0_isAgreed 37 = .ok (.iconst 1, 1) := by decide +kernel
theorem dX0_isAgreed_38 : decode cX0_isAgreed 38 = .ok (.if_icmp .eq 5, 3) := by decide +kernel
theorem dX0_isAgreed_41 : decode cX0_isAgreed 41 = .ok (.iconst 0, 1) := by decide +kernel
theorem dX0_isAgreed_42 : decode cX0_isAgreed 42 = .ok (.ireturn, 1) := by decide +kernel
theorem dX0_isAgreed_43 : decode cX0_isAgreed 43 = .ok (.iinc 1 1, 3) := by decide +kernel
theorem dX0_isAgreed_46 : decode cX0_isAgreed 46 = .ok (.goto (-44), 3) := by decide +kernel
theorem dX0_isAgreed_49 : decode cX0_isAgreed 49 = .ok (.iconst 1, 1) := by decide +kernel
theorem dX0_isAgreed_50 : decode cX0_isAgreed 50 = .ok (.ireturn, 1) := by decide +kernel
theorem dX1_init_0 : decode cX1_init 0 = .ok (.aload_n 0, 1) := by decide +kernel
theorem dX1_init_1 : decode cX1_init 1 = .ok (.invokespecial 3, 3) := by decide +kernel
theorem dX1_init_4 : decode cX1_init 4 = .ok (.aload_n 0, 1) := by decide +kernel
theorem dX1_init_5 : decode cX1_init 5 = .ok (.iconst 0, 1) := by decide +kernel
theorem dX1_init_6 : decode cX1_init 6 = .ok (.putfield 9, 3) := by decide +kernel
theorem dX1_init_9 : decode cX1_init 9 = .ok (.aload_n 0, 1) := by decide +kernel
theorem dX1_init_10 : decode cX1_init 10 = .ok (.aload_n 1, 1) := by decide +kernel
theorem dX1_init_11 : decode cX1_init 11 = .ok (.putfield 15, 3) := by decide +kernel
theorem dX1_init_14 : decode cX1_init 14 = .ok (.aload_n 0, 1) := by decide +kernel
theorem dX1_init_15 : decode cX1_init 15 = .ok (.aload_n 2, 1) := by decide +kernel
theorem dX1_init_16 : decode cX1_init 16 = .ok (.putfield 19, 3) := by decide +kernel
theorem dX1_init_19 : decode cX1_init 19 = .ok (.aload_n 0, 1) := by decide +kernel
theorem dX1_init_20 : decode cX1_init 20 = .ok (.iload_n 3, 1) := by decide +kernel
theorem dX1_init_21 : decode cX1_init 21 = .ok (.putfield 23, 3) := by decide +kernel
theorem dX1_init_24 : decode cX1_init 24 = .ok (.return_, 1) := by decide +kernel
theorem dX1_canBeDone_0 : decode cX1_canBeDone 0 = .ok (.aload_n 0, 1) := by decide +kernel
theorem dX1_canBeDone_1 : decode cX1_canBeDone 1 = .ok (.getfield 9, 3) := by decide +kernel
theorem dX1_canBeDone_4 : decode cX1_canBeDone 4 = .ok (.ifCond .eq 11, 3) := by decide +kernel
theorem dX1_canBeDone_7 : decode cX1_canBeDone 7 = .ok (.aload_n 0, 1) := by decide +kernel
theorem dX1_canBeDone_8 : decode cX1_canBeDone 8 = .ok (.getfield 9, 3) := by decide +kernel
theorem dX1_canBeDone_11 : decode cX1_canBeDone 11 = .ok (.iconst 2, 1) := by decide +kernel
theorem dX1_canBeDone_12 : decode cX1_canBeDone 12 = .ok (.if_icmp .ne 7, 3) := by decide +kernel
theorem dX1_canBeDone_15 : decode cX1_canBeDone 15 = .ok (.iconst 1, 1) := by decide +kernel
theorem dX1_canBeDone_16 : decode cX1_canBeDone 16 = .ok (.goto 4, 3) := by decide +kernel
theorem dX1_canBeDone_19 : decode cX1_canBeDone 19 = .ok (.iconst 0, 1) := by decide +kernel
theorem dX1_canBeDone_20 : decode cX1_canBeDone 20 = .ok (.ireturn, 1) := by decide +kernel
set_option maxRecDepth 20000 in
theorem ggX1_isHeldUp_X1_canBeDone : GoodIn wsX1_isHeldUp wsX1_canBeDone := goodIn_r _ [9, 10, 11, 12, 13, 14] (by decide +kernel) (by decide +kernel)
set_option maxRecDepth 20000 in
theorem gX1_isHeldUp_X1_canBeDone : GoodIn wsX1_isHeldUp (wsV RX1 26 RX1 yX1_canBeDone wsX1_canBeDone) := goodIn_app (goodIn_of _ (by decide +kernel)) ggX1_isHeldUp_X1_canBeDone
theorem dX1_isHeldUp_0 : decode cX1_isHeldUp 0 = .ok (.aload_n 0, 1) := by decide +kernel
theorem dX1_isHeldUp_1 : decode cX1_isHeldUp 1 = .ok (.invokevirtual 26, 3) := by decide +kernel
theorem dX1_isHeldUp_4 : decode cX1_isHeldUp 4 = .ok (.ifCond .eq 27, 3) := by decide +kernel
theorem dX1_isHeldUp_7 : decode cX1_isHeldUp 7 = .ok (.aload_n 0, 1) := by decide +kernel
theorem dX1_isHeldUp_8 : decode cX1_isHeldUp 8 = .ok (.getfield 15, 3) := by decide +kernel
theorem dX1_isHeldUp_11 : decode cX1_isHeldUp 11 = .ok (.getfield 30, 3) := by decide +kernel
theorem dX1_isHeldUp_14 : decode cX1_isHeldUp 14 = .ok (.iconst 1, 1) := by decide +kernel
theorem dX1_isHeldUp_15 : decode cX1_isHeldUp 15 = .ok (.aload_n 0, 1) := by decide +kernel
theorem dX1_isHeldUp_16 : decode cX1_isHeldUp 16 = .ok (.getfield 19, 3) := by decide +kernel
theorem dX1_isHeldUp_19 : decode cX1_isHeldUp 19 = .ok (.getfield 36, 3) := by decide +kernel
theorem dX1_isHeldUp_22 : decode cX1_isHeldUp 22 = .ok (.isub, 1) := by decide +kernel
theorem dX1_isHeldUp_23 : decode cX1_isHeldUp 23 = .ok (.iaload, 1) := by decide +kernel
theorem dX1_isHeldUp_24 : decode cX1_isHeldUp 24 = .ok (.ifCond .le 7, 3) := by decide +kernel
theorem dX1_isHeldUp_27 : decode cX1_isHeldUp 27 = .ok (.iconst 1, 1) := by decide +kernel
theorem dX1_isHeldUp_28 : decode cX1_isHeldUp 28 = .ok (.goto 4, 3) := by decide +kernel
theorem dX1_isHeldUp_31 : decode cX1_isHeldUp 31 = .ok (.iconst 0, 1) := by decide +kernel
theorem dX1_isHeldUp_32 : decode cX1_isHeldUp 32 = .ok (.ireturn, 1) := by decide +kernel
theorem dX1_move_0 : decode cX1_move 0 = .ok (.aload_n 0, 1) := by decide +kernel
theorem dX1_move_1 : decode cX1_move 1 = .ok (.iload_n 1, 1) := by decide +kernel
theorem dX1_move_2 : decode cX1_move 2 = .ok (.putfield 9, 3) := by decide +kernel
theorem dX1_move_5 : decode cX1_move 5 = .ok (.aload_n 0, 1) := by decide +kernel
theorem dX1_move_6 : decode cX1_move 6 = .ok (.iload_n 2, 1) := by decide +kernel
theorem dX1_move_7 : decode cX1_move 7 = .ok (.putfield 23, 3) := by decide +kernel
theorem dX1_move_10 : decode cX1_move 10 = .ok (.return_, 1) := by decide +kernel
theorem dX1_countBreach_0 : decode cX1_countBreach 0 = .ok (.aload_n 0, 1) := by decide +kernel
theorem dX1_countBreach_1 : decode cX1_countBreach 1 = .ok (.getfield 15, 3) := by decide +kernel
theorem dX1_countBreach_4 : decode cX1_countBreach 4 = .ok (.getfield 30, 3) := by decide +kernel
theorem dX1_countBreach_7 : decode cX1_countBreach 7 = .ok (.aload_n 0, 1) := by decide +kernel
theorem dX1_countBreach_8 : decode cX1_countBreach 8 = .ok (.getfield 19, 3) := by decide +kernel
theorem dX1_countBreach_11 : decode cX1_countBreach 11 = .ok (.getfield 36, 3) := by decide +kernel
theorem dX1_countBreach_14 : decode cX1_countBreach 14 = .ok (.dup2, 1) := by decide +kernel
theorem dX1_countBreach_15 : decode cX1_countBreach 15 = .ok (.iaload, 1) := by decide +kernel
theorem dX1_countBreach_16 : decode cX1_countBreach 16 = .ok (.iload_n 1, 1) := by decide +kernel
theorem dX1_countBreach_17 : decode cX1_countBreach 17 = .ok (.iadd, 1) := by decide +kernel
theorem dX1_countBreach_18 : decode cX1_countBreach 18 = .ok (.iastore, 1) := by decide +kernel
theorem dX1_countBreach_19 : decode cX1_countBreach 19 = .ok (.aload_n 0, 1) := by decide +kernel
theorem dX1_countBreach_20 : decode cX1_countBreach 20 = .ok (.getfield 15, 3) := by decide +kernel
theorem dX1_countBreach_23 : decode cX1_countBreach 23 = .ok (.getfield 41, 3) := by decide +kernel
theorem dX1_countBreach_26 : decode cX1_countBreach 26 = .ok (.aload_n 0, 1) := by decide +kernel
theorem dX1_countBreach_27 : decode cX1_countBreach 27 = .ok (.getfield 19, 3) := by decide +kernel
theorem dX1_countBreach_30 : decode cX1_countBreach 30 = .ok (.getfield 36, 3) := by decide +kernel
theorem dX1_countBreach_33 : decode cX1_countBreach 33 = .ok (.dup2, 1) := by decide +kernel
theorem dX1_countBreach_34 : decode cX1_countBreach 34 = .ok (.iaload, 1) := by decide +kernel
theorem dX1_countBreach_35 : decode cX1_countBreach 35 = .ok (.iload_n 1, 1) := by decide +kernel
theorem dX1_countBreach_36 : decode cX1_countBreach 36 = .ok (.aload_n 0, 1) := by decide +kernel
theorem dX1_countBreach_37 : decode cX1_countBreach 37 = .ok (.getfield 19, 3) := by decide +kernel
theorem dX1_countBreach_40 : decode cX1_countBreach 40 = .ok (.getfield 44, 3) := by decide +kernel
theorem dX1_countBreach_43 : decode cX1_countBreach 43 = .ok (.imul, 1) := by decide +kernel
theorem dX1_countBreach_44 : decode cX1_countBreach 44 = .ok (.iadd, 1) := by decide +kernel
theorem dX1_countBreach_45 : decode cX1_countBreach 45 = .ok (.iastore, 1) := by decide +kernel
theorem dX1_countBreach_46 : decode cX1_countBreach 46 = .ok (.return_, 1) := by decide +kernel
theorem dX2_init_0 : decode cX2_init 0 = .ok (.aload_n 0, 1) := by decide +kernel
theorem dX2_init_1 : decode cX2_init 1 = .ok (.invokespecial 1, 3) := by decide +kernel
theorem dX2_init_4 : decode cX2_init 4 = .ok (.aload_n 0, 1) := by decide +kernel
theorem dX2_init_5 : decode cX2_init 5 = .ok (.iload_n 1, 1) := by decide +kernel
theorem dX2_init_6 : decode cX2_init 6 = .ok (.putfield 7, 3) := by decide +kernel
theorem dX2_init_9 : decode cX2_init 9 = .ok (.aload_n 0, 1) := by decide +kernel
theorem dX2_init_10 : decode cX2_init 10 = .ok (.iload_n 2, 1) := by decide +kernel
theorem dX2_init_11 : decode cX2_init 11 = .ok (.putfield 13, 3) := by decide +kernel
theorem dX2_init_14 : decode cX2_init 14 = .ok (.aload_n 0, 1) := by decide +kernel
theorem dX2_init_15 : decode cX2_init 15 = .ok (.iload_n 3, 1) := by decide +kernel
theorem dX2_init_16 : decode cX2_init 16 = .ok (.putfield 16, 3) := by decide +kernel
theorem dX2_init_19 : decode cX2_init 19 = .ok (.aload_n 0, 1) := by decide +kernel
theorem dX2_init_20 : decode cX2_init 20 = .ok (.iload 4, 2) := by decide +kernel
theorem dX2_init_22 : decode cX2_init 22 = .ok (.putfield 19, 3) := by decide +kernel
theorem dX2_init_25 : decode cX2_init 25 = .ok (.aload_n 0, 1) := by decide +kernel
theorem dX2_init_26 : decode cX2_init 26 = .ok (.iload 5, 2) := by decide +kernel
theorem dX2_init_28 : decode cX2_init 28 = .ok (.putfield 22, 3) := by decide +kernel
theorem dX2_init_31 : decode cX2_init 31 = .ok (.return_, 1) := by decide +kernel
set_option maxRecDepth 20000 in
theorem ggX3_init_Jx4a65c_init_da8c8 : GoodIn wsX3_init wsJx4a65c_init_da8c8 := goodIn_r _ [17, 18, 19, 20, 21, 22, 23, 24, 25, 26, 27, 28, 29, 2, 3, 36, 37, 38] (by decide +kernel) (by decide +kernel)
set_option maxRecDepth 20000 in
theorem gX3_init_Jx4a65c_init_da8c8 : GoodIn wsX3_init (wsJx4a65c_init_da8c8) := ggX3_init_Jx4a65c_init_da8c8
theorem dX3_init_0 : decode cX3_init 0 = .ok (.aload_n 0, 1) := by decide +kernel
theorem dX3_init_1 : decode cX3_init 1 = .ok (.invokespecial 3, 3) := by decide +kernel
theorem dX3_init_4 : decode cX3_init 4 = .ok (.aload_n 0, 1) := by decide +kernel
theorem dX3_init_5 : decode cX3_init 5 = .ok (.bipush 10, 2) := by decide +kernel
theorem dX3_init_7 : decode cX3_init 7 = .ok (.anewarray 9, 3) := by decide +kernel
theorem dX3_init_10 : decode cX3_init 10 = .ok (.putfield 11, 3) := by decide +kernel
theorem dX3_init_13 : decode cX3_init 13 = .ok (.aload_n 0, 1) := by decide +kernel
theorem dX3_init_14 : decode cX3_init 14 = .ok (.bipush 10, 2) := by decide +kernel
theorem dX3_init_16 : decode cX3_init 16 = .ok (.newarray .int, 2) := by decide +kernel
theorem dX3_init_18 : decode cX3_init 18 = .ok (.putfield 15, 3) := by decide +kernel
theorem dX3_init_21 : decode cX3_init 21 = .ok (.aload_n 0, 1) := by decide +kernel
theorem dX3_init_22 : decode cX3_init 22 = .ok (.bipush 10, 2) := by decide +kernel
theorem dX3_init_24 : decode cX3_init 24 = .ok (.newarray .int, 2) := by decide +kernel
theorem dX3_init_26 : decode cX3_init 26 = .ok (.putfield 19, 3) := by decide +kernel
theorem dX3_init_29 : decode cX3_init 29 = .ok (.aload_n 0, 1) := by decide +kernel
theorem dX3_init_30 : decode cX3_init 30 = .ok (.new 22, 3) := by decide +kernel
theorem dX3_init_33 : decode cX3_init 33 = .ok (.dup, 1) := by decide +kernel
theorem dX3_init_34 : decode cX3_init 34 = .ok (.invokespecial 24, 3) := by decide +kernel
theorem dX3_init_37 : decode cX3_init 37 = .ok (.putfield 25, 3) := by decide +kernel
theorem dX3_init_40 : decode cX3_init 40 = .ok (.aload_n 0, 1) := by decide +kernel
theorem dX3_init_41 : decode cX3_init 41 = .ok (.new 22, 3) := by decide +kernel
theorem dX3_init_44 : decode cX3_init 44 = .ok (.dup, 1) := by decide +kernel
theorem dX3_init_45 : decode cX3_init 45 = .ok (.invokespecial 24, 3) := by decide +kernel
theorem dX3_init_48 : decode cX3_init 48 = .ok (.putfield 29, 3) := by decide +kernel
theorem dX3_init_51 : decode cX3_init 51 = .ok (.aload_n 0, 1) := by decide +kernel
theorem dX3_init_52 : decode cX3_init 52 = .ok (.iconst 0, 1) := by decide +kernel
theorem dX3_init_53 : decode cX3_init 53 = .ok (.putfield 32, 3) := by decide +kernel
theorem dX3_init_56 : decode cX3_init 56 = .ok (.return_, 1) := by decide +kernel
set_option maxRecDepth 20000 in
theorem ggX3_issue_X3_checkClause : GoodIn wsX3_issue wsX3_checkClause := goodIn_ca (goodIn_r _ [12, 1, 2, 13, 14, 11, 15] (by decide +kernel) (by decide +kernel)) (goodIn_sub (fun _ h => List.mem_cons_of_mem _ (List.mem_append_left _ (List.mem_append_right _ h))) (by decide +kernel))
set_option maxRecDepth 20000 in
theorem gX3_issue_X3_checkClause : GoodIn wsX3_issue (va_wsS RX3 36 yX3_checkClause wsX3_checkClause) := goodIn_app (goodIn_of _ (by decide +kernel)) ggX3_issue_X3_checkClause
set_option maxRecDepth 20000 in
theorem ggX3_issue_X3_checkSide : GoodIn wsX3_issue wsX3_checkSide := goodIn_ca (goodIn_r _ [18, 1, 2, 13, 14, 11, 15] (by decide +kernel) (by decide +kernel)) (goodIn_sub (fun _ h => List.mem_cons_of_mem _ (List.mem_append_left _ (List.mem_append_right _ h))) (by decide +kernel))
set_option maxRecDepth 20000 in
theorem gX3_issue_X3_checkSide : GoodIn wsX3_issue (va_wsS RX3 40 yX3_checkSide wsX3_checkSide) := goodIn_app (goodIn_of _ (by decide +kernel)) ggX3_issue_X3_checkSide
set_option maxRecDepth 20000 in
theorem ggX3_issue_X3_isWithin : GoodIn wsX3_issue wsX3_isWithin := goodIn_r _ [15] (by decide +kernel) (by decide +kernel)
set_option maxRecDepth 20000 in
theorem gX3_issue_X3_isWithin : GoodIn wsX3_issue (va_wsS RX3 43 yX3_isWithin wsX3_isWithin) := goodIn_app (goodIn_of _ (by decide +kernel)) ggX3_issue_X3_isWithin
set_option maxRecDepth 20000 in
theorem ggX3_issue_X3_newestNumber : GoodIn wsX3_issue wsX3_newestNumber := goodIn_r _ [22, 5, 23, 24, 11, 25, 26, 38, 39, 40, 41, 42, 43, 44, 45, 46, 47, 48] (by decide +kernel) (by decide +kernel)
set_option maxRecDepth 20000 in
theorem gX3_issue_X3_newestNumber : GoodIn wsX3_issue (wsV RX3 54 RX3 yX3_newestNumber wsX3_newestNumber) := goodIn_app (goodIn_of _ (by decide +kernel)) ggX3_issue_X3_newestNumber
set_option maxRecDepth 20000 in
theorem ggX3_issue_X2_init : GoodIn wsX3_issue wsX2_init := goodIn_r _ [29, 30, 31, 32, 33, 34, 35, 36, 37, 44, 45, 46, 47, 48] (by decide +kernel) (by decide +kernel)
set_option maxRecDepth 20000 in
theorem gX3_issue_X2_init : GoodIn wsX3_issue (wsX2_init) := ggX3_issue_X2_init
theorem dX3_issue_0 : decode cX3_issue 0 = .ok (.iload_n 1, 1) := by decide +kernel
theorem dX3_issue_1 : decode cX3_issue 1 = .ok (.invokestatic 36, 3) := by decide +kernel
theorem dX3_issue_4 : decode cX3_issue 4 = .ok (.iload_n 2, 1) := by decide +kernel
theorem dX3_issue_5 : decode cX3_issue 5 = .ok (.invokestatic 40, 3) := by decide +kernel
theorem dX3_issue_8 : decode cX3_issue 8 = .ok (.iload_n 3, 1) := by decide +kernel
theorem dX3_issue_9 : decode cX3_issue 9 = .ok (.iconst 0, 1) := by decide +kernel
theorem dX3_issue_10 : decode cX3_issue 10 = .ok (.bipush 100, 2) := by decide +kernel
theorem dX3_issue_12 : decode cX3_issue 12 = .ok (.invokestatic 43, 3) := by decide +kernel
theorem dX3_issue_15 : decode cX3_issue 15 = .ok (.ifCond .eq 26, 3) := by decide +kernel
theorem dX3_issue_18 : decode cX3_issue 18 = .ok (.iload 4, 2) := by decide +kernel
theorem dX3_issue_20 : decode cX3_issue 20 = .ok (.iconst 0, 1) := by decide +kernel
theorem dX3_issue_21 : decode cX3_issue 21 = .ok (.bipush 50, 2) := by decide +kernel
theorem dX3_issue_23 : decode cX3_issue 23 = .ok (.invokestatic 43, 3) := by decide +kernel
theorem dX3_issue_26 : decode cX3_issue 26 = .ok (.ifCond .eq 15, 3) := by decide +kernel
theorem dX3_issue_29 : decode cX3_issue 29 = .ok (.iload 5, 2) := by decide +kernel
theorem dX3_issue_31 : decode cX3_issue 31 = .ok (.iconst 0, 1) := by decide +kernel
theorem dX3_issue_32 : decode cX3_issue 32 = .ok (.sipush 1000, 3) := by decide +kernel
theorem dX3_issue_35 : decode cX3_issue 35 = .ok (.invokestatic 43, 3) := by decide +kernel
theorem dX3_issue_38 : decode cX3_issue 38 = .ok (.ifCond .ne 13, 3) := by decide +kernel
theorem dX3_issue_41 : decode cX3_issue 41 = .ok (.new 47, 3) := by decide +kernel
theorem dX3_issue_44 : decode cX3_issue 44 = .ok (.dup, 1) := by decide +kernel
theorem dX3_issue_45 : decode cX3_issue 45 = .ok (.ldc 49, 2) := by decide +kernel
theorem dX3_issue_47 : decode cX3_issue 47 = .ok (.invokespecial 51, 3) := by decide +kernel
theorem dX3_issue_50 : decode cX3_issue 50 = .ok (.athrow, 1) := by decide +kernel
theorem dX3_issue_51 : decode cX3_issue 51 = .ok (.aload_n 0, 1) := by decide +kernel
theorem dX3_issue_52 : decode cX3_issue 52 = .ok (.iload_n 1, 1) := by decide +kernel
theorem dX3_issue_53 : decode cX3_issue 53 = .ok (.invokevirtual 54, 3) := by decide +kernel
theorem dX3_issue_56 : decode cX3_issue 56 = .ok (.iconst 1, 1) := by decide +kernel
theorem dX3_issue_57 : decode cX3_issue 57 = .ok (.iadd, 1) := by decide +kernel
theorem dX3_issue_58 : decode cX3_issue 58 = .ok (.istore 6, 2) := by decide +kernel
theorem dX3_issue_60 : decode cX3_issue 60 = .ok (.iload 6, 2) := by decide +kernel
theorem dX3_issue_62 : decode cX3_issue 62 = .ok (.bipush 9, 2) := by decide +kernel
theorem dX3_issue_64 : decode cX3_issue 64 = .ok (.if_icmp .le 13, 3) := by decide +kernel
theorem dX3_issue_67 : decode cX3_issue 67 = .ok (.new 58, 3) := by decide +kernel
theorem dX3_issue_70 : decode cX3_issue 70 = .ok (.dup, 1) := by decide +kernel
theorem dX3_issue_71 : decode cX3_issue 71 = .ok (.ldc 60, 2) := by decide +kernel
theorem dX3_issue_73 : decode cX3_issue 73 = .ok (.invokespecial 62, 3) := by decide +kernel
theorem dX3_issue_76 : decode cX3_issue 76 = .ok (.athrow, 1) := by decide +kernel
theorem dX3_issue_77 : decode cX3_issue 77 = .ok (.aload_n 0, 1) := by decide +kernel
theorem dX3_issue_78 : decode cX3_issue 78 = .ok (.getfield 11, 3) := by decide +kernel
theorem dX3_issue_81 : decode cX3_issue 81 = .ok (.iload_n 1, 1) := by decide +kernel
theorem dX3_issue_82 : decode cX3_issue 82 = .ok (.new 9, 3) := by decide +kernel
theorem dX3_issue_85 : decode cX3_issue 85 = .ok (.dup, 1) := by decide +kernel
theorem dX3_issue_86 : decode cX3_issue 86 = .ok (.iload 6, 2) := by decide +kernel
theorem dX3_issue_88 : decode cX3_issue 88 = .ok (.iload_n 2, 1) := by decide +kernel
theorem dX3_issue_89 : decode cX3_issue 89 = .ok (.iload_n 3, 1) := by decide +kernel
theorem dX3_issue_90 : decode cX3_issue 90 = .ok (.iload 4, 2) := by decide +kernel
theorem dX3_issue_92 : decode cX3_issue 92 = .ok (.iload 5, 2) := by decide +kernel
theorem dX3_issue_94 : decode cX3_issue 94 = .ok (.invokespecial 63, 3) := by decide +kernel
theorem dX3_issue_97 : decode cX3_issue 97 = .ok (.aastore, 1) := by decide +kernel
theorem dX3_issue_98 : decode cX3_issue 98 = .ok (.iload 6, 2) := by decide +kernel
theorem dX3_issue_100 : decode cX3_issue 100 = .ok (.ireturn, 1) := by decide +kernel
set_option maxRecDepth 20000 in
theorem ggX3_relate_X3_checkClause : GoodIn wsX3_relate wsX3_checkClause := goodIn_ca (goodIn_r _ [6, 7, 8, 9, 10, 5, 11] (by decide +kernel) (by decide +kernel)) (goodIn_sub (fun _ h => List.mem_cons_of_mem _ (List.mem_append_right _ h)) (by decide +kernel))
set_option maxRecDepth 20000 in
theorem gX3_relate_X3_checkClause : GoodIn wsX3_relate (va_wsS RX3 36 yX3_checkClause wsX3_checkClause) := goodIn_app (goodIn_of _ (by decide +kernel)) ggX3_relate_X3_checkClause
set_option maxRecDepth 20000 in
theorem ggX3_relate_X3_checkOtherClauses : GoodIn wsX3_relate wsX3_checkOtherClauses := goodIn_ca (goodIn_r _ [14, 7, 8, 9, 10, 5, 11] (by decide +kernel) (by decide +kernel)) (goodIn_sub (fun _ h => List.mem_cons_of_mem _ (List.mem_append_right _ h)) (by decide +kernel))
set_option maxRecDepth 20000 in
theorem gX3_relate_X3_checkOtherClauses : GoodIn wsX3_relate (va_wsS RX3 66 yX3_checkOtherClauses wsX3_checkOtherClauses) := goodIn_app (goodIn_of _ (by decide +kernel)) ggX3_relate_X3_checkOtherClauses
theorem dX3_relate_0 : decode cX3_relate 0 = .ok (.iload_n 1, 1) := by decide +kernel
theorem dX3_relate_1 : decode cX3_relate 1 = .ok (.invokestatic 36, 3) := by decide +kernel
theorem dX3_relate_4 : decode cX3_relate 4 = .ok (.iload_n 1, 1) := by decide +kernel
theorem dX3_relate_5 : decode cX3_relate 5 = .ok (.iload_n 2, 1) := by decide +kernel
theorem dX3_relate_6 : decode cX3_relate 6 = .ok (.invokestatic 66, 3) := by decide +kernel
theorem dX3_relate_9 : decode cX3_relate 9 = .ok (.iload_n 1, 1) := by decide +kernel
theorem dX3_relate_10 : decode cX3_relate 10 = .ok (.iload_n 3, 1) := by decide +kernel
theorem dX3_relate_11 : decode cX3_relate 11 = .ok (.invokestatic 66, 3) := by decide +kernel
theorem dX3_relate_14 : decode cX3_relate 14 = .ok (.aload_n 0, 1) := by decide +kernel
theorem dX3_relate_15 : decode cX3_relate 15 = .ok (.getfield 15, 3) := by decide +kernel
theorem dX3_relate_18 : decode cX3_relate 18 = .ok (.iload_n 1, 1) := by decide +kernel
theorem dX3_relate_19 : decode cX3_relate 19 = .ok (.iload_n 2, 1) := by decide +kernel
theorem dX3_relate_20 : decode cX3_relate 20 = .ok (.iastore, 1) := by decide +kernel
theorem dX3_relate_21 : decode cX3_relate 21 = .ok (.aload_n 0, 1) := by decide +kernel
theorem dX3_relate_22 : decode cX3_relate 22 = .ok (.getfield 19, 3) := by decide +kernel
theorem dX3_relate_25 : decode cX3_relate 25 = .ok (.iload_n 1, 1) := by decide +kernel
theorem dX3_relate_26 : decode cX3_relate 26 = .ok (.iload_n 3, 1) := by decide +kernel
theorem dX3_relate_27 : decode cX3_relate 27 = .ok (.iastore, 1) := by decide +kernel
theorem dX3_relate_28 : decode cX3_relate 28 = .ok (.return_, 1) := by decide +kernel
set_option maxRecDepth 20000 in
theorem ggX3_latest_X3_checkClause : GoodIn wsX3_latest wsX3_checkClause := goodIn_ca (goodIn_r _ [4, 5, 6, 7, 8, 3, 9] (by decide +kernel) (by decide +kernel)) (goodIn_sub (fun _ h => List.mem_cons_of_mem _ (List.mem_append_right _ h)) (by decide +kernel))
set_option maxRecDepth 20000 in
theorem gX3_latest_X3_checkClause : GoodIn wsX3_latest (va_wsS RX3 36 yX3_checkClause wsX3_checkClause) := goodIn_app (goodIn_of _ (by decide +kernel)) ggX3_latest_X3_checkClause
set_option maxRecDepth 20000 in
theorem ggX3_latest_X3_newestNumber : GoodIn wsX3_latest wsX3_newestNumber := goodIn_r _ [13, 14, 15, 16, 3, 17, 18, 19, 20, 21, 22, 23, 24, 25, 26, 27, 28, 29] (by decide +kernel) (by decide +kernel)
set_option maxRecDepth 20000 in
theorem gX3_latest_X3_newestNumber : GoodIn wsX3_latest (wsV RX3 54 RX3 yX3_newestNumber wsX3_newestNumber) := goodIn_app (goodIn_of _ (by decide +kernel)) ggX3_latest_X3_newestNumber
theorem dX3_latest_0 : decode cX3_latest 0 = .ok (.iload_n 1, 1) := by decide +kernel
theorem dX3_latest_1 : decode cX3_latest 1 = .ok (.invokestatic 36, 3) := by decide +kernel
theorem dX3_latest_4 : decode cX3_latest 4 = .ok (.aload_n 0, 1) := by decide +kernel
theorem dX3_latest_5 : decode cX3_latest 5 = .ok (.iload_n 1, 1) := by decide +kernel
theorem dX3_latest_6 : decode cX3_latest 6 = .ok (.invokevirtual 54, 3) := by decide +kernel
theorem dX3_latest_9 : decode cX3_latest 9 = .ok (.ireturn, 1) := by decide +kernel
set_option maxRecDepth 20000 in
theorem ggX3_begin_Jx4a65c_size_8abf5 : GoodIn wsX3_begin wsJx4a65c_size_8abf5 := goodIn_r _ [11, 12, 92, 93, 94] (by decide +kernel) (by decide +kernel)
set_option maxRecDepth 20000 in
theorem gX3_begin_Jx4a65c_size_8abf5 : GoodIn wsX3_begin (wsV RX3 70 RJx4a65c yJx4a65c_size_8abf5 wsJx4a65c_size_8abf5) := goodIn_app (goodIn_of _ (by decide +kernel)) ggX3_begin_Jx4a65c_size_8abf5
set_option maxRecDepth 20000 in
theorem ggX3_begin_X0_init : GoodIn wsX3_begin wsX0_init := goodIn_r _ [14, 15, 16, 17, 18, 19, 20, 21, 22, 23, 24, 25, 26, 87, 88, 89, 90, 91] (by decide +kernel) (by decide +kernel)
set_option maxRecDepth 20000 in
theorem gX3_begin_X0_init_n78 : GoodIn wsX3_begin (wsX0_init) := ggX3_begin_X0_init
set_option maxRecDepth 20000 in
theorem ggX3_begin_Jx4a65c_add_9ea2d : GoodIn wsX3_begin wsJx4a65c_add_9ea2d := goodIn_r _ [30, 31, 32, 33, 12, 34, 35, 36, 10, 37, 38, 39, 40, 41, 42, 43, 44, 45, 46, 47, 48, 49, 50, 51, 52, 53, 54, 55, 56, 57, 58, 59, 60, 61, 62, 63, 64, 65, 66, 67, 68, 69, 70, 71, 72, 73, 74, 75, 76, 77, 78, 79, 80, 92, 93, 94] (by decide +kernel) (by decide +kernel)
set_option maxRecDepth 20000 in
theorem gX3_begin_Jx4a65c_add_9ea2d : GoodIn wsX3_begin (wsV RX3 79 RJx4a65c yJx4a65c_add_9ea2d wsJx4a65c_add_9ea2d) := goodIn_app (goodIn_of _ (by decide +kernel)) ggX3_begin_Jx4a65c_add_9ea2d
theorem dX3_begin_0 : decode cX3_begin 0 = .ok (.aload_n 0, 1) := by decide +kernel
theorem dX3_begin_1 : decode cX3_begin 1 = .ok (.getfield 25, 3) := by decide +kernel
theorem dX3_begin_4 : decode cX3_begin 4 = .ok (.invokevirtual 70, 3) := by decide +kernel
theorem dX3_begin_7 : decode cX3_begin 7 = .ok (.istore_n 1, 1) := by decide +kernel
theorem dX3_begin_8 : decode cX3_begin 8 = .ok (.iload_n 1, 1) := by decide +kernel
theorem dX3_begin_9 : decode cX3_begin 9 = .ok (.bipush 10, 2) := by decide +kernel
theorem dX3_begin_11 : decode cX3_begin 11 = .ok (.if_icmp .lt 13, 3) := by decide +kernel
theorem dX3_begin_14 : decode cX3_begin 14 = .ok (.new 58, 3) := by decide +kernel
theorem dX3_begin_17 : decode cX3_begin 17 = .ok (.dup, 1) := by decide +kernel
theorem dX3_begin_18 : decode cX3_begin 18 = .ok (.ldc 74, 2) := by decide +kernel
theorem dX3_begin_20 : decode cX3_begin 20 = .ok (.invokespecial 62, 3) := by decide +kernel
theorem dX3_begin_23 : decode cX3_begin 23 = .ok (.athrow, 1) := by decide +kernel
theorem dX3_begin_24 : decode cX3_begin 24 = .ok (.aload_n 0, 1) := by decide +kernel
theorem dX3_begin_25 : decode cX3_begin 25 = .ok (.getfield 25, 3) := by decide +kernel
theorem dX3_begin_28 : decode cX3_begin 28 = .ok (.new 76, 3) := by decide +kernel
theorem dX3_begin_31 : decode cX3_begin 31 = .ok (.dup, 1) := by decide +kernel
theorem dX3_begin_32 : decode cX3_begin 32 = .ok (.invokespecial 78, 3) := by decide +kernel
theorem dX3_begin_35 : decode cX3_begin 35 = .ok (.invokevirtual 79, 3) := by decide +kernel
theorem dX3_begin_38 : decode cX3_begin 38 = .ok (.pop, 1) := by decide +kernel
theorem dX3_begin_39 : decode cX3_begin 39 = .ok (.iload_n 1, 1) := by decide +kernel
theorem dX3_begin_40 : decode cX3_begin 40 = .ok (.ireturn, 1) := by decide +kernel
set_option maxRecDepth 20000 in
theorem ggX3_mark_X3_contractAt : GoodIn wsX3_mark wsX3_contractAt := goodIn_ca (goodIn_r _ [12, 13, 14, 15, 16, 17, 18, 19, 20, 21, 22, 23, 24, 11, 25, 26, 27, 28, 29, 30, 31, 32, 33, 34, 35, 36, 37, 38, 39, 40, 41, 42, 77, 78, 79, 80, 81, 82, 83, 84, 85] (by decide +kernel) (by decide +kernel)) (goodIn_sub (fun _ h => List.mem_cons_of_mem _ (List.mem_append_right _ h)) (by decide +kernel))
set_option maxRecDepth 20000 in
theorem gX3_mark_X3_contractAt : GoodIn wsX3_mark (wsV RX3 83 RX3 yX3_contractAt wsX3_contractAt) := goodIn_app (goodIn_of _ (by decide +kernel)) ggX3_mark_X3_contractAt
set_option maxRecDepth 20000 in
theorem ggX3_mark_X3_checkSide : GoodIn wsX3_mark wsX3_checkSide := goodIn_ca (goodIn_r _ [45, 1, 2, 23, 24, 11, 25] (by decide +kernel) (by decide +kernel)) (goodIn_sub (fun _ h => List.mem_cons_of_mem _ (List.mem_append_left _ (List.mem_append_left _ (List.mem_append_right _ h)))) (by decide +kernel))
set_option maxRecDepth 20000 in
theorem gX3_mark_X3_checkSide : GoodIn wsX3_mark (va_wsS RX3 40 yX3_checkSide wsX3_checkSide) := goodIn_app (goodIn_of _ (by decide +kernel)) ggX3_mark_X3_checkSide
set_option maxRecDepth 20000 in
theorem ggX3_mark_X3_checkClause : GoodIn wsX3_mark wsX3_checkClause := goodIn_ca (goodIn_r _ [48, 1, 2, 23, 24, 11, 25] (by decide +kernel) (by decide +kernel)) (goodIn_sub (fun _ h => List.mem_cons_of_mem _ (List.mem_append_left _ (List.mem_append_left _ (List.mem_append_right _ h)))) (by decide +kernel))
set_option maxRecDepth 20000 in
theorem gX3_mark_X3_checkClause : GoodIn wsX3_mark (va_wsS RX3 36 yX3_checkClause wsX3_checkClause) := goodIn_app (goodIn_of _ (by decide +kernel)) ggX3_mark_X3_checkClause
set_option maxRecDepth 20000 in
theorem ggX3_mark_X3_isWithin : GoodIn wsX3_mark wsX3_isWithin := goodIn_r _ [25] (by decide +kernel) (by decide +kernel)
set_option maxRecDepth 20000 in
theorem gX3_mark_X3_isWithin : GoodIn wsX3_mark (va_wsS RX3 43 yX3_isWithin wsX3_isWithin) := goodIn_app (goodIn_of _ (by decide +kernel)) ggX3_mark_X3_isWithin
set_option maxRecDepth 20000 in
theorem ggX3_mark_X3_checkDraft : GoodIn wsX3_mark wsX3_checkDraft := goodIn_ca (goodIn_r _ [51, 3, 4, 52, 53, 54, 55, 56, 57, 72, 73, 74, 75, 76] (by decide +kernel) (by decide +kernel)) (goodIn_sub (fun _ h => List.mem_cons_of_mem _ (List.mem_append_left _ (List.mem_append_right _ h))) (by decide +kernel))
set_option maxRecDepth 20000 in
theorem gX3_mark_X3_checkDraft : GoodIn wsX3_mark (va_wsS RX3 89 yX3_checkDraft wsX3_checkDraft) := goodIn_app (goodIn_of _ (by decide +kernel)) ggX3_mark_X3_checkDraft
set_option maxRecDepth 20000 in
theorem ggX3_mark_X0_bringIn : GoodIn wsX3_mark wsX0_bringIn := goodIn_r _ [61, 62, 63, 64, 65, 66, 55, 67, 57, 72, 73, 74, 75, 76] (by decide +kernel) (by decide +kernel)
set_option maxRecDepth 20000 in
theorem gX3_mark_X0_bringIn : GoodIn wsX3_mark (wsV RX3 98 RX0 yX0_bringIn wsX0_bringIn) := goodIn_app (goodIn_of _ (by decide +kernel)) ggX3_mark_X0_bringIn
set_option maxRecDepth 20000 in
theorem ggX3_mark_X0_changeMark : GoodIn wsX3_mark wsX0_changeMark := goodIn_r _ [71, 63, 62, 64, 65, 66, 55, 67, 57, 72, 73, 74, 75, 76] (by decide +kernel) (by decide +kernel)
set_option maxRecDepth 20000 in
theorem gX3_mark_X0_changeMark : GoodIn wsX3_mark (wsV RX3 106 RX0 yX0_changeMark wsX0_changeMark) := goodIn_app (goodIn_of _ (by decide +kernel)) ggX3_mark_X0_changeMark
theorem dX3_mark_0 : decode cX3_mark 0 = .ok (.aload_n 0, 1) := by decide +kernel
theorem dX3_mark_1 : decode cX3_mark 1 = .ok (.iload_n 1, 1) := by decide +kernel
theorem dX3_mark_2 : decode cX3_mark 2 = .ok (.invokevirtual 83, 3) := by decide +kernel
theorem dX3_mark_5 : decode cX3_mark 5 = .ok (.astore 5, 2) := by decide +kernel
theorem dX3_mark_7 : decode cX3_mark 7 = .ok (.iload_n 2, 1) := by decide +kernel
theorem dX3_mark_8 : decode cX3_mark 8 = .ok (.invokestatic 40, 3) := by decide +kernel
theorem dX3_mark_11 : decode cX3_mark 11 = .ok (.iload_n 3, 1) := by decide +kernel
theorem dX3_mark_12 : decode cX3_mark 12 = .ok (.invokestatic 36, 3) := by decide +kernel
theorem dX3_mark_15 : decode cX3_mark 15 = .ok (.iload 4, 2) := by decide +kernel
theorem dX3_mark_17 : decode cX3_mark 17 = .ok (.iconst 1, 1) := by decide +kernel
theorem dX3_mark_18 : decode cX3_mark 18 = .ok (.iconst 2, 1) := by decide +kernel
theorem dX3_mark_19 : decode cX3_mark 19 = .ok (.invokestatic 43, 3) := by decide +kernel
theorem dX3_mark_22 : decode cX3_mark 22 = .ok (.ifCond .ne 13, 3) := by decide +kernel
theorem dX3_mark_25 : decode cX3_mark 25 = .ok (.new 47, 3) := by decide +kernel
theorem dX3_mark_28 : decode cX3_mark 28 = .ok (.dup, 1) := by decide +kernel
theorem dX3_mark_29 : decode cX3_mark 29 = .ok (.ldc 87, 2) := by decide +kernel
theorem dX3_mark_31 : decode cX3_mark 31 = .ok (.invokespecial 51, 3) := by decide +kernel
theorem dX3_mark_34 : decode cX3_mark 34 = .ok (.athrow, 1) := by decide +kernel
theorem dX3_mark_35 : decode cX3_mark 35 = .ok (.aload 5, 2) := by decide +kernel
theorem dX3_mark_37 : decode cX3_mark 37 = .ok (.invokestatic 89, 3) := by decide +kernel
theorem dX3_mark_40 : decode cX3_mark 40 = .ok (.aload 5, 2) := by decide +kernel
theorem dX3_mark_42 : decode cX3_mark 42 = .ok (.getfield 93, 3) := by decide +kernel
theorem dX3_mark_45 : decode cX3_mark 45 = .ok (.iload_n 3, 1) := by decide +kernel
theorem dX3_mark_46 : decode cX3_mark 46 = .ok (.aaload, 1) := by decide +kernel
theorem dX3_mark_47 : decode cX3_mark 47 = .ok (.ifnonnull 43, 3) := by decide +kernel
theorem dX3_mark_50 : decode cX3_mark 50 = .ok (.iload 4, 2) := by decide +kernel
theorem dX3_mark_52 : decode cX3_mark 52 = .ok (.iconst 2, 1) := by decide +kernel
theorem dX3_mark_53 : decode cX3_mark 53 = .ok (.if_icmp .eq 12, 3) := by decide +kernel
theorem dX3_mark_56 : decode cX3_mark 56 = .ok (.aload_n 0, 1) := by decide +kernel
theorem dX3_mark_57 : decode cX3_mark 57 = .ok (.getfield 11, 3) := by decide +kernel
theorem dX3_mark_60 : decode cX3_mark 60 = .ok (.iload_n 3, 1) := by decide +kernel
theorem dX3_mark_61 : decode cX3_mark 61 = .ok (.aaload, 1) := by decide +kernel
theorem dX3_mark_62 : decode cX3_mark 62 = .ok (.ifnonnull 13, 3) := by decide +kernel
theorem dX3_mark_65 : decode cX3_mark 65 = .ok (.new 58, 3) := by decide +kernel
theorem dX3_mark_68 : decode cX3_mark 68 = .ok (.dup, 1) := by decide +kernel
theorem dX3_mark_69 : decode cX3_mark 69 = .ok (.ldc 96, 2) := by decide +kernel
theorem dX3_mark_71 : decode cX3_mark 71 = .ok (.invokespecial 62, 3) := by decide +kernel
theorem dX3_mark_74 : decode cX3_mark 74 = .ok (.athrow, 1) := by decide +kernel
theorem dX3_mark_75 : decode cX3_mark 75 = .ok (.aload 5, 2) := by decide +kernel
theorem dX3_mark_77 : decode cX3_mark 77 = .ok (.aload_n 0, 1) := by decide +kernel
theorem dX3_mark_78 : decode cX3_mark 78 = .ok (.getfield 11, 3) := by decide +kernel
theorem dX3_mark_81 : decode cX3_mark 81 = .ok (.iload_n 3, 1) := by decide +kernel
theorem dX3_mark_82 : decode cX3_mark 82 = .ok (.aaload, 1) := by decide +kernel
theorem dX3_mark_83 : decode cX3_mark 83 = .ok (.iload_n 3, 1) := by decide +kernel
theorem dX3_mark_84 : decode cX3_mark 84 = .ok (.iload_n 2, 1) := by decide +kernel
theorem dX3_mark_85 : decode cX3_mark 85 = .ok (.invokevirtual 98, 3) := by decide +kernel
theorem dX3_mark_88 : decode cX3_mark 88 = .ok (.iconst 0, 1) := by decide +kernel
theorem dX3_mark_89 : decode cX3_mark 89 = .ok (.ireturn, 1) := by decide +kernel
theorem dX3_mark_90 : decode cX3_mark 90 = .ok (.aload 5, 2) := by decide +kernel
theorem dX3_mark_92 : decode cX3_mark 92 = .ok (.getfield 102, 3) := by decide +kernel
theorem dX3_mark_95 : decode cX3_mark 95 = .ok (.iload_n 2, 1) := by decide +kernel
theorem dX3_mark_96 : decode cX3_mark 96 = .ok (.aaload, 1) := by decide +kernel
theorem dX3_mark_97 : decode cX3_mark 97 = .ok (.iload_n 3, 1) := by decide +kernel
theorem dX3_mark_98 : decode cX3_mark 98 = .ok (.iaload, 1) := by decide +kernel
theorem dX3_mark_99 : decode cX3_mark 99 = .ok (.istore 6, 2) := by decide +kernel
theorem dX3_mark_101 : decode cX3_mark 101 = .ok (.aload 5, 2) := by decide +kernel
theorem dX3_mark_103 : decode cX3_mark 103 = .ok (.iload_n 2, 1) := by decide +kernel
theorem dX3_mark_104 : decode cX3_mark 104 = .ok (.iload_n 3, 1) := by decide +kernel
theorem dX3_mark_105 : decode cX3_mark 105 = .ok (.iload 4, 2) := by decide +kernel
theorem dX3_mark_107 : decode cX3_mark 107 = .ok (.invokevirtual 106, 3) := by decide +kernel
theorem dX3_mark_110 : decode cX3_mark 110 = .ok (.iload 6, 2) := by decide +kernel
theorem dX3_mark_112 : decode cX3_mark 112 = .ok (.ireturn, 1) := by decide +kernel
set_option maxRecDepth 20000 in
theorem ggX3_renew_X3_contractAt : GoodIn wsX3_renew wsX3_contractAt := goodIn_ca (goodIn_r _ [8, 9, 10, 11, 12, 13, 14, 15, 16, 17, 18, 19, 20, 7, 21, 22, 23, 24, 25, 26, 27, 28, 29, 30, 31, 32, 33, 34, 35, 36, 37, 38, 82, 83, 84, 85, 86, 87, 88, 89, 90] (by decide +kernel) (by decide +kernel)) (goodIn_sub (fun _ h => List.mem_cons_of_mem _ (List.mem_append_left _ (List.mem_append_right _ h))) (by decide +kernel))
set_option maxRecDepth 20000 in
theorem gX3_renew_X3_contractAt : GoodIn wsX3_renew (wsV RX3 83 RX3 yX3_contractAt wsX3_contractAt) := goodIn_app (goodIn_of _ (by decide +kernel)) ggX3_renew_X3_contractAt
set_option maxRecDepth 20000 in
theorem ggX3_renew_X3_checkSide : GoodIn wsX3_renew wsX3_checkSide := goodIn_ca (goodIn_r _ [41, 42, 43, 19, 20, 7, 21] (by decide +kernel) (by decide +kernel)) (goodIn_sub (fun _ h => List.mem_cons_of_mem _ (List.mem_append_right _ h)) (by decide +kernel))
set_option maxRecDepth 20000 in
theorem gX3_renew_X3_checkSide : GoodIn wsX3_renew (va_wsS RX3 40 yX3_checkSide wsX3_checkSide) := goodIn_app (goodIn_of _ (by decide +kernel)) ggX3_renew_X3_checkSide
set_option maxRecDepth 20000 in
theorem ggX3_renew_X3_checkClause : GoodIn wsX3_renew wsX3_checkClause := goodIn_ca (goodIn_r _ [46, 42, 43, 19, 20, 7, 21] (by decide +kernel) (by decide +kernel)) (goodIn_sub (fun _ h => List.mem_cons_of_mem _ (List.mem_append_right _ h)) (by decide +kernel))
set_option maxRecDepth 20000 in
theorem gX3_renew_X3_checkClause : GoodIn wsX3_renew (va_wsS RX3 36 yX3_checkClause wsX3_checkClause) := goodIn_app (goodIn_of _ (by decide +kernel)) ggX3_renew_X3_checkClause
set_option maxRecDepth 20000 in
theorem ggX3_renew_X3_checkDraft : GoodIn wsX3_renew wsX3_checkDraft := goodIn_ca (goodIn_r _ [49, 1, 2, 50, 51, 52, 53, 54, 55, 91, 92, 93, 94, 95] (by decide +kernel) (by decide +kernel)) (goodIn_sub (fun _ h => List.mem_cons_of_mem _ (List.mem_append_left _ (List.mem_append_left _ (List.mem_append_right _ h)))) (by decide +kernel))
set_option maxRecDepth 20000 in
theorem gX3_renew_X3_checkDraft : GoodIn wsX3_renew (va_wsS RX3 89 yX3_checkDraft wsX3_checkDraft) := goodIn_app (goodIn_of _ (by decide +kernel)) ggX3_renew_X3_checkDraft
set_option maxRecDepth 20000 in
theorem ggX3_renew_X3_hasLaterVersion : GoodIn wsX3_renew wsX3_hasLaterVersion := goodIn_r _ [59, 60, 61, 62, 7, 63, 64, 65, 66, 67, 68, 69, 70, 71, 3, 91, 92, 93, 94, 95, 96, 97, 98, 99, 100, 82, 83, 84, 85, 86, 87] (by decide +kernel) (by decide +kernel)
set_option maxRecDepth 20000 in
theorem gX3_renew_X3_hasLaterVersion : GoodIn wsX3_renew (wsV RX3 110 RX3 yX3_hasLaterVersion wsX3_hasLaterVersion) := goodIn_app (goodIn_of _ (by decide +kernel)) ggX3_renew_X3_hasLaterVersion
set_option maxRecDepth 20000 in
theorem ggX3_renew_X3_itemNumber : GoodIn wsX3_renew wsX3_itemNumber := goodIn_r _ [63, 60, 64, 65, 7, 66, 67, 91, 92, 93, 94, 95, 96, 97, 98, 99, 100] (by decide +kernel) (by decide +kernel)
set_option maxRecDepth 20000 in
theorem gX3_renew_X3_itemNumber : GoodIn wsX3_renew (va_wsS RX3 116 yX3_itemNumber wsX3_itemNumber) := goodIn_app (goodIn_of _ (by decide +kernel)) ggX3_renew_X3_itemNumber
set_option maxRecDepth 20000 in
theorem ggX3_renew_X0_bringIn : GoodIn wsX3_renew wsX0_bringIn := goodIn_r _ [75, 76, 77, 78, 79, 80, 53, 81, 55, 91, 92, 93, 94, 95] (by decide +kernel) (by decide +kernel)
set_option maxRecDepth 20000 in
theorem gX3_renew_X0_bringIn : GoodIn wsX3_renew (wsV RX3 98 RX0 yX0_bringIn wsX0_bringIn) := goodIn_app (goodIn_of _ (by decide +kernel)) ggX3_renew_X0_bringIn
theorem dX3_renew_0 : decode cX3_renew 0 = .ok (.aload_n 0, 1) := by decide +kernel
theorem dX3_renew_1 : decode cX3_renew 1 = .ok (.iload_n 1, 1) := by decide +kernel
theorem dX3_renew_2 : decode cX3_renew 2 = .ok (.invokevirtual 83, 3) := by decide +kernel
theorem dX3_renew_5 : decode cX3_renew 5 = .ok (.astore 4, 2) := by decide +kernel
theorem dX3_renew_7 : decode cX3_renew 7 = .ok (.iload_n 2, 1) := by decide +kernel
theorem dX3_renew_8 : decode cX3_renew 8 = .ok (.invokestatic 40, 3) := by decide +kernel
theorem dX3_renew_11 : decode cX3_renew 11 = .ok (.iload_n 3, 1) := by decide +kernel
theorem dX3_renew_12 : decode cX3_renew 12 = .ok (.invokestatic 36, 3) := by decide +kernel
theorem dX3_renew_15 : decode cX3_renew 15 = .ok (.aload 4, 2) := by decide +kernel
theorem dX3_renew_17 : decode cX3_renew 17 = .ok (.invokestatic 89, 3) := by decide +kernel
theorem dX3_renew_20 : decode cX3_renew 20 = .ok (.aload_n 0, 1) := by decide +kernel
theorem dX3_renew_21 : decode cX3_renew 21 = .ok (.aload 4, 2) := by decide +kernel
theorem dX3_renew_23 : decode cX3_renew 23 = .ok (.iload_n 3, 1) := by decide +kernel
theorem dX3_renew_24 : decode cX3_renew 24 = .ok (.invokevirtual 110, 3) := by decide +kernel
theorem dX3_renew_27 : decode cX3_renew 27 = .ok (.ifCond .ne 13, 3) := by decide +kernel
theorem dX3_renew_30 : decode cX3_renew 30 = .ok (.new 58, 3) := by decide +kernel
theorem dX3_renew_33 : decode cX3_renew 33 = .ok (.dup, 1) := by decide +kernel
theorem dX3_renew_34 : decode cX3_renew 34 = .ok (.ldc 114, 2) := by decide +kernel
theorem dX3_renew_36 : decode cX3_renew 36 = .ok (.invokespecial 62, 3) := by decide +kernel
theorem dX3_renew_39 : decode cX3_renew 39 = .ok (.athrow, 1) := by decide +kernel
theorem dX3_renew_40 : decode cX3_renew 40 = .ok (.aload 4, 2) := by decide +kernel
theorem dX3_renew_42 : decode cX3_renew 42 = .ok (.iload_n 3, 1) := by decide +kernel
theorem dX3_renew_43 : decode cX3_renew 43 = .ok (.invokestatic 116, 3) := by decide +kernel
theorem dX3_renew_46 : decode cX3_renew 46 = .ok (.istore 5, 2) := by decide +kernel
theorem dX3_renew_48 : decode cX3_renew 48 = .ok (.aload 4, 2) := by decide +kernel
theorem dX3_renew_50 : decode cX3_renew 50 = .ok (.aload_n 0, 1) := by decide +kernel
theorem dX3_renew_51 : decode cX3_renew 51 = .ok (.getfield 11, 3) := by decide +kernel
theorem dX3_renew_54 : decode cX3_renew 54 = .ok (.iload_n 3, 1) := by decide +kernel
theorem dX3_renew_55 : decode cX3_renew 55 = .ok (.aaload, 1) := by decide +kernel
theorem dX3_renew_56 : decode cX3_renew 56 = .ok (.iload_n 3, 1) := by decide +kernel
theorem dX3_renew_57 : decode cX3_renew 57 = .ok (.iload_n 2, 1) := by decide +kernel
theorem dX3_renew_58 : decode cX3_renew 58 = .ok (.invokevirtual 98, 3) := by decide +kernel
theorem dX3_renew_61 : decode cX3_renew 61 = .ok (.iload 5, 2) := by decide +kernel
theorem dX3_renew_63 : decode cX3_renew 63 = .ok (.ireturn, 1) := by decide +kernel
set_option maxRecDepth 20000 in
theorem ggX3_version_X3_contractAt : GoodIn wsX3_version wsX3_contractAt := goodIn_ca (goodIn_r _ [5, 6, 7, 8, 9, 10, 11, 12, 13, 14, 15, 16, 17, 4, 18, 19, 20, 21, 22, 23, 24, 25, 26, 27, 28, 29, 30, 31, 32, 33, 34, 35, 49, 50, 51, 52, 53, 54, 55, 56, 57] (by decide +kernel) (by decide +kernel)) (goodIn_sub (fun _ h => List.mem_cons_of_mem _ (List.mem_append_left _ (List.mem_append_right _ h))) (by decide +kernel))
set_option maxRecDepth 20000 in
theorem gX3_version_X3_contractAt : GoodIn wsX3_version (wsV RX3 83 RX3 yX3_contractAt wsX3_contractAt) := goodIn_app (goodIn_of _ (by decide +kernel)) ggX3_version_X3_contractAt
set_option maxRecDepth 20000 in
theorem ggX3_version_X3_checkClause : GoodIn wsX3_version wsX3_checkClause := goodIn_ca (goodIn_r _ [38, 39, 40, 16, 17, 4, 18] (by decide +kernel) (by decide +kernel)) (goodIn_sub (fun _ h => List.mem_cons_of_mem _ (List.mem_append_right _ h)) (by decide +kernel))
set_option maxRecDepth 20000 in
theorem gX3_version_X3_checkClause : GoodIn wsX3_version (va_wsS RX3 36 yX3_checkClause wsX3_checkClause) := goodIn_app (goodIn_of _ (by decide +kernel)) ggX3_version_X3_checkClause
set_option maxRecDepth 20000 in
theorem ggX3_version_X3_itemNumber : GoodIn wsX3_version wsX3_itemNumber := goodIn_r _ [43, 44, 45, 46, 4, 47, 48, 58, 59, 60, 61, 62, 63, 64, 65, 66, 67] (by decide +kernel) (by decide +kernel)
set_option maxRecDepth 20000 in
theorem gX3_version_X3_itemNumber : GoodIn wsX3_version (va_wsS RX3 116 yX3_itemNumber wsX3_itemNumber) := goodIn_app (goodIn_of _ (by decide +kernel)) ggX3_version_X3_itemNumber
theorem dX3_version_0 : decode cX3_version 0 = .ok (.aload_n 0, 1) := by decide +kernel
theorem dX3_version_1 : decode cX3_version 1 = .ok (.iload_n 1, 1) := by decide +kernel
theorem dX3_version_2 : decode cX3_version 2 = .ok (.invokevirtual 83, 3) := by decide +kernel
theorem dX3_version_5 : decode cX3_version 5 = .ok (.astore_n 3, 1) := by decide +kernel
theorem dX3_version_6 : decode cX3_version 6 = .ok (.iload_n 2, 1) := by decide +kernel
theorem dX3_version_7 : decode cX3_version 7 = .ok (.invokestatic 36, 3) := by decide +kernel
theorem dX3_version_10 : decode cX3_version 10 = .ok (.aload_n 3, 1) := by decide +kernel
theorem dX3_version_11 : decode cX3_version 11 = .ok (.iload_n 2, 1) := by decide +kernel
theorem dX3_version_12 : decode cX3_version 12 = .ok (.invokestatic 116, 3) := by decide +kernel
theorem dX3_version_15 : decode cX3_version 15 = .ok (.ireturn, 1) := by decide +kernel
set_option maxRecDepth 20000 in
theorem ggX3_offered_X3_contractAt : GoodIn wsX3_offered wsX3_contractAt := goodIn_ca (goodIn_r _ [5, 6, 7, 8, 9, 10, 11, 12, 13, 14, 15, 16, 17, 4, 18, 19, 20, 21, 22, 23, 24, 25, 26, 27, 28, 29, 30, 31, 32, 33, 34, 35, 59, 60, 61, 62, 63, 64, 65, 66, 67] (by decide +kernel) (by decide +kernel)) (goodIn_sub (fun _ h => List.mem_cons_of_mem _ (List.mem_append_right _ h)) (by decide +kernel))
set_option maxRecDepth 20000 in
theorem gX3_offered_X3_contractAt : GoodIn wsX3_offered (wsV RX3 83 RX3 yX3_contractAt wsX3_contractAt) := goodIn_app (goodIn_of _ (by decide +kernel)) ggX3_offered_X3_contractAt
set_option maxRecDepth 20000 in
theorem ggX3_offered_X0_isDraft : GoodIn wsX3_offered wsX0_isDraft := goodIn_r _ [40, 41, 68, 69, 70, 71, 72] (by decide +kernel) (by decide +kernel)
set_option maxRecDepth 20000 in
theorem gX3_offered_X0_isDraft : GoodIn wsX3_offered (wsV RX3 120 RX0 yX0_isDraft wsX0_isDraft) := goodIn_app (goodIn_of _ (by decide +kernel)) ggX3_offered_X0_isDraft
set_option maxRecDepth 20000 in
theorem ggX3_offered_X3_hasLaterVersion : GoodIn wsX3_offered wsX3_hasLaterVersion := goodIn_r _ [45, 46, 47, 48, 4, 49, 50, 51, 52, 53, 54, 55, 56, 57, 58, 68, 69, 70, 71, 72, 73, 74, 75, 76, 77, 59, 60, 61, 62, 63, 64] (by decide +kernel) (by decide +kernel)
set_option maxRecDepth 20000 in
theorem gX3_offered_X3_hasLaterVersion : GoodIn wsX3_offered (wsV RX3 110 RX3 yX3_hasLaterVersion wsX3_hasLaterVersion) := goodIn_app (goodIn_of _ (by decide +kernel)) ggX3_offered_X3_hasLaterVersion
theorem dX3_offered_0 : decode cX3_offered 0 = .ok (.aload_n 0, 1) := by decide +kernel
theorem dX3_offered_1 : decode cX3_offered 1 = .ok (.iload_n 1, 1) := by decide +kernel
theorem dX3_offered_2 : decode cX3_offered 2 = .ok (.invokevirtual 83, 3) := by decide +kernel
theorem dX3_offered_5 : decode cX3_offered 5 = .ok (.astore_n 2, 1) := by decide +kernel
theorem dX3_offered_6 : decode cX3_offered 6 = .ok (.aload_n 2, 1) := by decide +kernel
theorem dX3_offered_7 : decode cX3_offered 7 = .ok (.invokevirtual 120, 3) := by decide +kernel
theorem dX3_offered_10 : decode cX3_offered 10 = .ok (.ifCond .ne 5, 3) := by decide +kernel
theorem dX3_offered_13 : decode cX3_offered 13 = .ok (.iconst 0, 1) := by decide +kernel
theorem dX3_offered_14 : decode cX3_offered 14 = .ok (.ireturn, 1) := by decide +kernel
theorem dX3_offered_15 : decode cX3_offered 15 = .ok (.iconst 0, 1) := by decide +kernel
theorem dX3_offered_16 : decode cX3_offered 16 = .ok (.istore_n 3, 1) := by decide +kernel
theorem dX3_offered_17 : decode cX3_offered 17 = .ok (.iconst 0, 1) := by decide +kernel
theorem dX3_offered_18 : decode cX3_offered 18 = .ok (.istore 4, 2) := by decide +kernel
theorem dX3_offered_20 : decode cX3_offered 20 = .ok (.iload 4, 2) := by decide +kernel
theorem dX3_offered_22 : decode cX3_offered 22 = .ok (.bipush 10, 2) := by decide +kernel
theorem dX3_offered_24 : decode cX3_offered 24 = .ok (.if_icmp .ge 22, 3) := by decide +kernel
theorem dX3_offered_27 : decode cX3_offered 27 = .ok (.aload_n 0, 1) := by decide +kernel
theorem dX3_offered_28 : decode cX3_offered 28 = .ok (.aload_n 2, 1) := by decide +kernel
theorem dX3_offered_29 : decode cX3_offered 29 = .ok (.iload 4, 2) := by decide +kernel
theorem dX3_offered_31 : decode cX3_offered 31 = .ok (.invokevirtual 110, 3) := by decide +kernel
theorem dX3_offered_34 : decode cX3_offered 34 = .ok (.ifCond .eq 6, 3) := by decide +kernel
theorem dX3_offered_37 : decode cX3_offered 37 = .ok (.iinc 3 1, 3) := by decide +kernel
theorem dX3_offered_40 : decode cX3_offered 40 = .ok (.iinc 4 1, 3) := by decide +kernel
theorem dX3_offered_43 : decode cX3_offered 43 = .ok (.goto (-23), 3) := by decide +kernel
theorem dX3_offered_46 : decode cX3_offered 46 = .ok (.iload_n 3, 1) := by decide +kernel
theorem dX3_offered_47 : decode cX3_offered 47 = .ok (.ireturn, 1) := by decide +kernel
set_option maxRecDepth 20000 in
theorem ggX3_whyNot_X3_contractAt : GoodIn wsX3_whyNot wsX3_contractAt := goodIn_ca (goodIn_r _ [5, 6, 7, 8, 9, 10, 11, 12, 13, 14, 15, 16, 17, 4, 18, 19, 20, 21, 22, 23, 24, 25, 26, 27, 28, 29, 30, 31, 32, 33, 34, 35, 61, 62, 63, 64, 65, 66, 67, 68, 69] (by decide +kernel) (by decide +kernel)) (goodIn_sub (fun _ h => List.mem_cons_of_mem _ (List.mem_append_right _ h)) (by decide +kernel))
set_option maxRecDepth 20000 in
theorem gX3_whyNot_X3_contractAt : GoodIn wsX3_whyNot (wsV RX3 83 RX3 yX3_contractAt wsX3_contractAt) := goodIn_app (goodIn_of _ (by decide +kernel)) ggX3_whyNot_X3_contractAt
set_option maxRecDepth 20000 in
theorem ggX3_whyNot_X3_obstacle : GoodIn wsX3_whyNot wsX3_obstacle := goodIn_r _ [39, 40, 41, 42, 43, 44, 45, 46, 47, 48, 49, 50, 51, 52, 53, 54, 55, 56, 57, 58, 59, 4, 60, 61, 62, 63, 64, 65, 66, 70, 71, 72, 73, 74] (by decide +kernel) (by decide +kernel)
set_option maxRecDepth 20000 in
theorem gX3_whyNot_X3_obstacle : GoodIn wsX3_whyNot (wsV RX3 124 RX3 yX3_obstacle wsX3_obstacle) := goodIn_app (goodIn_of _ (by decide +kernel)) ggX3_whyNot_X3_obstacle
theorem dX3_whyNot_0 : decode cX3_whyNot 0 = .ok (.aload_n 0, 1) := by decide +kernel
theorem dX3_whyNot_1 : decode cX3_whyNot 1 = .ok (.aload_n 0, 1) := by decide +kernel
theorem dX3_whyNot_2 : decode cX3_whyNot 2 = .ok (.iload_n 1, 1) := by decide +kernel
theorem dX3_whyNot_3 : decode cX3_whyNot 3 = .ok (.invokevirtual 83, 3) := by decide +kernel
theorem dX3_whyNot_6 : decode cX3_whyNot 6 = .ok (.invokevirtual 124, 3) := by decide +kernel
theorem dX3_whyNot_9 : decode cX3_whyNot 9 = .ok (.ireturn, 1) := by decide +kernel
set_option maxRecDepth 20000 in
theorem ggX3_sign_X3_contractAt : GoodIn wsX3_sign wsX3_contractAt := goodIn_ca (goodIn_r _ [8, 9, 10, 11, 12, 13, 14, 15, 16, 17, 18, 19, 20, 7, 21, 22, 23, 24, 25, 26, 27, 28, 29, 30, 31, 32, 33, 34, 35, 36, 37, 38, 148, 149, 150, 151, 152, 153, 154, 155, 156] (by decide +kernel) (by decide +kernel)) (goodIn_sub (fun _ h => List.mem_cons_of_mem _ (List.mem_append_left _ (List.mem_append_right _ h))) (by decide +kernel))
set_option maxRecDepth 20000 in
theorem gX3_sign_X3_contractAt : GoodIn wsX3_sign (wsV RX3 83 RX3 yX3_contractAt wsX3_contractAt) := goodIn_app (goodIn_of _ (by decide +kernel)) ggX3_sign_X3_contractAt
set_option maxRecDepth 20000 in
theorem ggX3_sign_X3_checkSide : GoodIn wsX3_sign wsX3_checkSide := goodIn_ca (goodIn_r _ [41, 42, 43, 19, 20, 7, 21] (by decide +kernel) (by decide +kernel)) (goodIn_sub (fun _ h => List.mem_cons_of_mem _ (List.mem_append_right _ h)) (by decide +kernel))
set_option maxRecDepth 20000 in
theorem gX3_sign_X3_checkSide : GoodIn wsX3_sign (va_wsS RX3 40 yX3_checkSide wsX3_checkSide) := goodIn_app (goodIn_of _ (by decide +kernel)) ggX3_sign_X3_checkSide
set_option maxRecDepth 20000 in
theorem ggX3_sign_X3_obstacle : GoodIn wsX3_sign wsX3_obstacle := goodIn_r _ [47, 48, 49, 50, 51, 52, 53, 54, 55, 56, 57, 58, 59, 60, 61, 62, 63, 64, 65, 66, 67, 7, 68, 148, 149, 150, 151, 152, 153, 143, 144, 145, 146, 147] (by decide +kernel) (by decide +kernel)
set_option maxRecDepth 20000 in
theorem gX3_sign_X3_obstacle : GoodIn wsX3_sign (wsV RX3 124 RX3 yX3_obstacle wsX3_obstacle) := goodIn_app (goodIn_of _ (by decide +kernel)) ggX3_sign_X3_obstacle
set_option maxRecDepth 20000 in
theorem ggX3_sign_X0_isDraft : GoodIn wsX3_sign wsX0_isDraft := goodIn_r _ [59, 60, 143, 144, 145, 146, 147] (by decide +kernel) (by decide +kernel)
set_option maxRecDepth 20000 in
theorem gX3_sign_X0_isDraft : GoodIn wsX3_sign (wsV RX3 120 RX0 yX0_isDraft wsX0_isDraft) := goodIn_app (goodIn_of _ (by decide +kernel)) ggX3_sign_X0_isDraft
set_option maxRecDepth 20000 in
theorem ggX3_sign_X3_makeDuties : GoodIn wsX3_sign wsX3_makeDuties := goodIn_r _ [72, 73, 74, 75, 76, 77, 78, 79, 80, 81, 82, 83, 84, 85, 86, 87, 88, 89, 90, 91, 92, 16, 93, 94, 95, 38, 18, 96, 97, 98, 99, 100, 101, 102, 103, 104, 105, 106, 107, 108, 109, 110, 111, 112, 113, 114, 115, 116, 117, 118, 119, 120, 121, 122, 123, 124, 125, 126, 127, 128, 129, 130, 131, 132, 133, 134, 135, 136, 137, 138, 139, 140, 141, 142, 143, 144, 145, 146, 147, 148, 149, 150, 151, 152, 153, 157, 158, 159, 160, 161, 162, 163, 164, 165, 154, 155, 156] (by decide +kernel) (by decide +kernel)
set_option maxRecDepth 20000 in
theorem gX3_sign_X3_makeDuties : GoodIn wsX3_sign (wsV RX3 134 RX3 yX3_makeDuties wsX3_makeDuties) := goodIn_app (goodIn_of _ (by decide +kernel)) ggX3_sign_X3_makeDuties
theorem dX3_sign_0 : decode cX3_sign 0 = .ok (.aload_n 0, 1) := by decide +kernel
theorem dX3_sign_1 : decode cX3_sign 1 = .ok (.iload_n 1, 1) := by decide +kernel
theorem dX3_sign_2 : decode cX3_sign 2 = .ok (.invokevirtual 83, 3) := by decide +kernel
theorem dX3_sign_5 : decode cX3_sign 5 = .ok (.astore_n 3, 1) := by decide +kernel
theorem dX3_sign_6 : decode cX3_sign 6 = .ok (.iload_n 2, 1) := by decide +kernel
theorem dX3_sign_7 : decode cX3_sign 7 = .ok (.invokestatic 40, 3) := by decide +kernel
theorem dX3_sign_10 : decode cX3_sign 10 = .ok (.aload_n 0, 1) := by decide +kernel
theorem dX3_sign_11 : decode cX3_sign 11 = .ok (.aload_n 3, 1) := by decide +kernel
theorem dX3_sign_12 : decode cX3_sign 12 = .ok (.invokevirtual 124, 3) := by decide +kernel
theorem dX3_sign_15 : decode cX3_sign 15 = .ok (.ifCond .ne 12, 3) := by decide +kernel
theorem dX3_sign_18 : decode cX3_sign 18 = .ok (.aload_n 3, 1) := by decide +kernel
theorem dX3_sign_19 : decode cX3_sign 19 = .ok (.getfield 128, 3) := by decide +kernel
theorem dX3_sign_22 : decode cX3_sign 22 = .ok (.iload_n 2, 1) := by decide +kernel
theorem dX3_sign_23 : decode cX3_sign 23 = .ok (.baload, 1) := by decide +kernel
theorem dX3_sign_24 : decode cX3_sign 24 = .ok (.ifCond .eq 13, 3) := by decide +kernel
theorem dX3_sign_27 : decode cX3_sign 27 = .ok (.new 58, 3) := by decide +kernel
theorem dX3_sign_30 : decode cX3_sign 30 = .ok (.dup, 1) := by decide +kernel
theorem dX3_sign_31 : decode cX3_sign 31 = .ok (.ldc 132, 2) := by decide +kernel
theorem dX3_sign_33 : decode cX3_sign 33 = .ok (.invokespecial 62, 3) := by decide +kernel
theorem dX3_sign_36 : decode cX3_sign 36 = .ok (.athrow, 1) := by decide +kernel
theorem dX3_sign_37 : decode cX3_sign 37 = .ok (.aload_n 3, 1) := by decide +kernel
theorem dX3_sign_38 : decode cX3_sign 38 = .ok (.getfield 128, 3) := by decide +kernel
theorem dX3_sign_41 : decode cX3_sign 41 = .ok (.iload_n 2, 1) := by decide +kernel
theorem dX3_sign_42 : decode cX3_sign 42 = .ok (.iconst 1, 1) := by decide +kernel
theorem dX3_sign_43 : decode cX3_sign 43 = .ok (.bastore, 1) := by decide +kernel
theorem dX3_sign_44 : decode cX3_sign 44 = .ok (.aload_n 3, 1) := by decide +kernel
theorem dX3_sign_45 : decode cX3_sign 45 = .ok (.invokevirtual 120, 3) := by decide +kernel
theorem dX3_sign_48 : decode cX3_sign 48 = .ok (.ifCond .eq 7, 3) := by decide +kernel
theorem dX3_sign_51 : decode cX3_sign 51 = .ok (.iconst 0, 1) := by decide +kernel
theorem dX3_sign_52 : decode cX3_sign 52 = .ok (.goto 8, 3) := by decide +kernel
theorem dX3_sign_55 : decode cX3_sign 55 = .ok (.aload_n 0, 1) := by decide +kernel
theorem dX3_sign_56 : decode cX3_sign 56 = .ok (.aload_n 3, 1) := by decide +kernel
theorem dX3_sign_57 : decode cX3_sign 57 = .ok (.invokevirtual 134, 3) := by decide +kernel
theorem dX3_sign_60 : decode cX3_sign 60 = .ok (.ireturn, 1) := by decide +kernel
set_option maxRecDepth 20000 in
theorem ggX3_pass_X3_isWithin : GoodIn wsX3_pass wsX3_isWithin := goodIn_r _ [9] (by decide +kernel) (by decide +kernel)
set_option maxRecDepth 20000 in
theorem gX3_pass_X3_isWithin : GoodIn wsX3_pass (va_wsS RX3 43 yX3_isWithin wsX3_isWithin) := goodIn_app (goodIn_of _ (by decide +kernel)) ggX3_pass_X3_isWithin
set_option maxRecDepth 20000 in
theorem ggX3_pass_X3_putOffHeldUpDuties : GoodIn wsX3_pass wsX3_putOffHeldUpDuties := goodIn_r _ [13, 14, 15, 16, 17, 18, 19, 20, 21, 22, 23, 24, 25, 26, 27, 28, 29, 30, 31, 32, 33, 34, 35, 36, 37, 38, 39, 40, 41, 42, 43, 44, 45, 46, 47, 48, 49, 50, 51, 52, 53, 70, 71, 72, 73, 74, 75, 76, 77, 78, 79, 80, 81, 82, 83, 84, 85, 86, 87, 88, 89, 90, 91, 92] (by decide +kernel) (by decide +kernel)
set_option maxRecDepth 20000 in
theorem gX3_pass_X3_putOffHeldUpDuties : GoodIn wsX3_pass (wsV RX3 141 RX3 yX3_putOffHeldUpDuties wsX3_putOffHeldUpDuties) := goodIn_app (goodIn_of _ (by decide +kernel)) ggX3_pass_X3_putOffHeldUpDuties
set_option maxRecDepth 20000 in
theorem ggX3_pass_X3_breachUncuredDuties : GoodIn wsX3_pass wsX3_breachUncuredDuties := goodIn_r _ [57, 14, 15, 58, 5, 16, 17, 18, 19, 20, 21, 22, 23, 24, 25, 26, 27, 28, 29, 30, 31, 32, 33, 34, 35, 36, 37, 38, 39, 59, 60, 61, 43, 62, 53, 63, 64, 65, 66, 67, 45, 46, 47, 48, 68, 69, 70, 71, 72, 73, 74, 75, 76, 77, 78, 79, 80, 81, 82, 83, 84, 85, 86, 87, 88, 89, 90, 91, 92] (by decide +kernel) (by decide +kernel)
set_option maxRecDepth 20000 in
theorem gX3_pass_X3_breachUncuredDuties : GoodIn wsX3_pass (wsV RX3 144 RX3 yX3_breachUncuredDuties wsX3_breachUncuredDuties) := goodIn_app (goodIn_of _ (by decide +kernel)) ggX3_pass_X3_breachUncuredDuties
theorem dX3_pass_0 : decode cX3_pass 0 = .ok (.iload_n 1, 1) := by decide +kernel
theorem dX3_pass_1 : decode cX3_pass 1 = .ok (.iconst 1, 1) := by decide +kernel
theorem dX3_pass_2 : decode cX3_pass 2 = .ok (.bipush 100, 2) := by decide +kernel
theorem dX3_pass_4 : decode cX3_pass 4 = .ok (.invokestatic 43, 3) := by decide +kernel
theorem dX3_pass_7 : decode cX3_pass 7 = .ok (.ifCond .ne 13, 3) := by decide +kernel
theorem dX3_pass_10 : decode cX3_pass 10 = .ok (.new 47, 3) := by decide +kernel
theorem dX3_pass_13 : decode cX3_pass 13 = .ok (.dup, 1) := by decide +kernel
theorem dX3_pass_14 : decode cX3_pass 14 = .ok (.ldc 137, 2) := by decide +kernel
theorem dX3_pass_16 : decode cX3_pass 16 = .ok (.invokespecial 51, 3) := by decide +kernel
theorem dX3_pass_19 : decode cX3_pass 19 = .ok (.athrow, 1) := by decide +kernel
theorem dX3_pass_20 : decode cX3_pass 20 = .ok (.aload_n 0, 1) := by decide +kernel
theorem dX3_pass_21 : decode cX3_pass 21 = .ok (.getfield 32, 3) := by decide +kernel
theorem dX3_pass_24 : decode cX3_pass 24 = .ok (.iload_n 1, 1) := by decide +kernel
theorem dX3_pass_25 : decode cX3_pass 25 = .ok (.iadd, 1) := by decide +kernel
theorem dX3_pass_26 : decode cX3_pass 26 = .ok (.sipush 9999, 3) := by decide +kernel
theorem dX3_pass_29 : decode cX3_pass 29 = .ok (.if_icmp .le 13, 3) := by decide +kernel
theorem dX3_pass_32 : decode cX3_pass 32 = .ok (.new 58, 3) := by decide +kernel
theorem dX3_pass_35 : decode cX3_pass 35 = .ok (.dup, 1) := by decide +kernel
theorem dX3_pass_36 : decode cX3_pass 36 = .ok (.ldc 139, 2) := by decide +kernel
theorem dX3_pass_38 : decode cX3_pass 38 = .ok (.invokespecial 62, 3) := by decide +kernel
theorem dX3_pass_41 : decode cX3_pass 41 = .ok (.athrow, 1) := by decide +kernel
theorem dX3_pass_42 : decode cX3_pass 42 = .ok (.iconst 0, 1) := by decide +kernel
theorem dX3_pass_43 : decode cX3_pass 43 = .ok (.istore_n 2, 1) := by decide +kernel
theorem dX3_pass_44 : decode cX3_pass 44 = .ok (.iconst 0, 1) := by decide +kernel
theorem dX3_pass_45 : decode cX3_pass 45 = .ok (.istore_n 3, 1) := by decide +kernel
theorem dX3_pass_46 : decode cX3_pass 46 = .ok (.iload_n 3, 1) := by decide +kernel
theorem dX3_pass_47 : decode cX3_pass 47 = .ok (.iload_n 1, 1) := by decide +kernel
theorem dX3_pass_48 : decode cX3_pass 48 = .ok (.if_icmp .ge 30, 3) := by decide +kernel
theorem dX3_pass_51 : decode cX3_pass 51 = .ok (.aload_n 0, 1) := by decide +kernel
theorem dX3_pass_52 : decode cX3_pass 52 = .ok (.dup, 1) := by decide +kernel
theorem dX3_pass_53 : decode cX3_pass 53 = .ok (.getfield 32, 3) := by decide +kernel
theorem dX3_pass_56 : decode cX3_pass 56 = .ok (.iconst 1, 1) := by decide +kernel
theorem dX3_pass_57 : decode cX3_pass 57 = .ok (.iadd, 1) := by decide +kernel
theorem dX3_pass_58 : decode cX3_pass 58 = .ok (.putfield 32, 3) := by decide +kernel
theorem dX3_pass_61 : decode cX3_pass 61 = .ok (.aload_n 0, 1) := by decide +kernel
theorem dX3_pass_62 : decode cX3_pass 62 = .ok (.invokevirtual 141, 3) := by decide +kernel
theorem dX3_pass_65 : decode cX3_pass 65 = .ok (.iload_n 2, 1) := by decide +kernel
theorem dX3_pass_66 : decode cX3_pass 66 = .ok (.aload_n 0, 1) := by decide +kernel
theorem dX3_pass_67 : decode cX3_pass 67 = .ok (.invokevirtual 144, 3) := by decide +kernel
theorem dX3_pass_70 : decode cX3_pass 70 = .ok (.iadd, 1) := by decide +kernel
theorem dX3_pass_71 : decode cX3_pass 71 = .ok (.istore_n 2, 1) := by decide +kernel
theorem dX3_pass_72 : decode cX3_pass 72 = .ok (.iinc 3 1, 3) := by decide +kernel
theorem dX3_pass_75 : decode cX3_pass 75 = .ok (.goto (-29), 3) := by decide +kernel
theorem dX3_pass_78 : decode cX3_pass 78 = .ok (.iload_n 2, 1) := by decide +kernel
theorem dX3_pass_79 : decode cX3_pass 79 = .ok (.ireturn, 1) := by decide +kernel
set_option maxRecDepth 20000 in
theorem ggX3_duties_Jx4a65c_size_8abf5 : GoodIn wsX3_duties wsJx4a65c_size_8abf5 := goodIn_r _ [6, 7, 14, 15, 16] (by decide +kernel) (by decide +kernel)
set_option maxRecDepth 20000 in
theorem gX3_duties_Jx4a65c_size_8abf5 : GoodIn wsX3_duties (wsV RX3 70 RJx4a65c yJx4a65c_size_8abf5 wsJx4a65c_size_8abf5) := goodIn_app (goodIn_of _ (by decide +kernel)) ggX3_duties_Jx4a65c_size_8abf5
theorem dX3_duties_0 : decode cX3_duties 0 = .ok (.aload_n 0, 1) := by decide +kernel
theorem dX3_duties_1 : decode cX3_duties 1 = .ok (.getfield 29, 3) := by decide +kernel
theorem dX3_duties_4 : decode cX3_duties 4 = .ok (.invokevirtual 70, 3) := by decide +kernel
theorem dX3_duties_7 : decode cX3_duties 7 = .ok (.ireturn, 1) := by decide +kernel
set_option maxRecDepth 20000 in
theorem ggX3_state_X3_dutyAt : GoodIn wsX3_state wsX3_dutyAt := goodIn_ca (goodIn_r _ [6, 7, 8, 9, 10, 11, 12, 13, 14, 15, 16, 17, 18, 5, 19, 20, 21, 22, 23, 24, 25, 26, 27, 28, 29, 30, 31, 32, 33, 34, 35, 36, 41, 42, 43, 44, 45, 46, 47, 48, 49] (by decide +kernel) (by decide +kernel)) (goodIn_sub (fun _ h => List.mem_cons_of_mem _ (List.mem_append_right _ h)) (by decide +kernel))
set_option maxRecDepth 20000 in
theorem gX3_state_X3_dutyAt : GoodIn wsX3_state (wsV RX3 147 RX3 yX3_dutyAt wsX3_dutyAt) := goodIn_app (goodIn_of _ (by decide +kernel)) ggX3_state_X3_dutyAt
theorem dX3_state_0 : decode cX3_state 0 = .ok (.aload_n 0, 1) := by decide +kernel
theorem dX3_state_1 : decode cX3_state 1 = .ok (.iload_n 1, 1) := by decide +kernel
theorem dX3_state_2 : decode cX3_state 2 = .ok (.invokevirtual 147, 3) := by decide +kernel
theorem dX3_state_5 : decode cX3_state 5 = .ok (.getfield 151, 3) := by decide +kernel
theorem dX3_state_8 : decode cX3_state 8 = .ok (.ireturn, 1) := by decide +kernel
set_option maxRecDepth 20000 in
theorem ggX3_day_X3_dutyAt : GoodIn wsX3_day wsX3_dutyAt := goodIn_ca (goodIn_r _ [6, 7, 8, 9, 10, 11, 12, 13, 14, 15, 16, 17, 18, 5, 19, 20, 21, 22, 23, 24, 25, 26, 27, 28, 29, 30, 31, 32, 33, 34, 35, 36, 41, 42, 43, 44, 45, 46, 47, 48, 49] (by decide +kernel) (by decide +kernel)) (goodIn_sub (fun _ h => List.mem_cons_of_mem _ (List.mem_append_right _ h)) (by decide +kernel))
set_option maxRecDepth 20000 in
theorem gX3_day_X3_dutyAt : GoodIn wsX3_day (wsV RX3 147 RX3 yX3_dutyAt wsX3_dutyAt) := goodIn_app (goodIn_of _ (by decide +kernel)) ggX3_day_X3_dutyAt
theorem dX3_day_0 : decode cX3_day 0 = .ok (.aload_n 0, 1) := by decide +kernel
theorem dX3_day_1 : decode cX3_day 1 = .ok (.iload_n 1, 1) := by decide +kernel
theorem dX3_day_2 : decode cX3_day 2 = .ok (.invokevirtual 147, 3) := by decide +kernel
theorem dX3_day_5 : decode cX3_day 5 = .ok (.getfield 156, 3) := by decide +kernel
theorem dX3_day_8 : decode cX3_day 8 = .ok (.ireturn, 1) := by decide +kernel
set_option maxRecDepth 20000 in
theorem ggX3_isSuspended_X3_dutyAt : GoodIn wsX3_isSuspended wsX3_dutyAt := goodIn_ca (goodIn_r _ [5, 6, 7, 8, 9, 10, 11, 12, 13, 14, 15, 16, 17, 4, 18, 19, 20, 21, 22, 23, 24, 25, 26, 27, 28, 29, 30, 31, 32, 33, 34, 35, 50, 51, 52, 53, 54, 55, 56, 57, 58] (by decide +kernel) (by decide +kernel)) (goodIn_sub (fun _ h => List.mem_cons_of_mem _ (List.mem_append_right _ h)) (by decide +kernel))
set_option maxRecDepth 20000 in
theorem gX3_isSuspended_X3_dutyAt : GoodIn wsX3_isSuspended (wsV RX3 147 RX3 yX3_dutyAt wsX3_dutyAt) := goodIn_app (goodIn_of _ (by decide +kernel)) ggX3_isSuspended_X3_dutyAt
set_option maxRecDepth 20000 in
theorem ggX3_isSuspended_X1_isHeldUp : GoodIn wsX3_isSuspended wsX1_isHeldUp := goodIn_r _ [40, 41, 42, 43, 44, 45, 46, 47, 39, 48, 49, 59, 60, 61, 62, 63, 64, 65, 66, 67, 68, 69, 70, 71, 72] (by decide +kernel) (by decide +kernel)
set_option maxRecDepth 20000 in
theorem gX3_isSuspended_X1_isHeldUp : GoodIn wsX3_isSuspended (wsV RX3 159 RX1 yX1_isHeldUp wsX1_isHeldUp) := goodIn_app (goodIn_of _ (by decide +kernel)) ggX3_isSuspended_X1_isHeldUp
theorem dX3_isSuspended_0 : decode cX3_isSuspended 0 = .ok (.aload_n 0, 1) := by decide +kernel
theorem dX3_isSuspended_1 : decode cX3_isSuspended 1 = .ok (.iload_n 1, 1) := by decide +kernel
theorem dX3_isSuspended_2 : decode cX3_isSuspended 2 = .ok (.invokevirtual 147, 3) := by decide +kernel
theorem dX3_isSuspended_5 : decode cX3_isSuspended 5 = .ok (.invokevirtual 159, 3) := by decide +kernel
theorem dX3_isSuspended_8 : decode cX3_isSuspended 8 = .ok (.ireturn, 1) := by decide +kernel
set_option maxRecDepth 20000 in
theorem ggX3_perform_X3_dutyAt : GoodIn wsX3_perform wsX3_dutyAt := goodIn_ca (goodIn_r _ [10, 11, 12, 13, 14, 15, 16, 17, 18, 19, 20, 21, 22, 9, 23, 24, 25, 26, 27, 28, 29, 30, 31, 32, 33, 34, 35, 36, 37, 38, 39, 40, 56, 57, 58, 59, 60, 61, 62, 63, 64] (by decide +kernel) (by decide +kernel)) (goodIn_sub (fun _ h => List.mem_cons_of_mem _ (List.mem_append_right _ h)) (by decide +kernel))
set_option maxRecDepth 20000 in
theorem gX3_perform_X3_dutyAt : GoodIn wsX3_perform (wsV RX3 147 RX3 yX3_dutyAt wsX3_dutyAt) := goodIn_app (goodIn_of _ (by decide +kernel)) ggX3_perform_X3_dutyAt
set_option maxRecDepth 20000 in
theorem ggX3_perform_X1_canBeDone : GoodIn wsX3_perform wsX1_canBeDone := goodIn_r _ [45, 46, 52, 53, 54, 55] (by decide +kernel) (by decide +kernel)
set_option maxRecDepth 20000 in
theorem gX3_perform_X1_canBeDone : GoodIn wsX3_perform (wsV RX3 162 RX1 yX1_canBeDone wsX1_canBeDone) := goodIn_app (goodIn_of _ (by decide +kernel)) ggX3_perform_X1_canBeDone
set_option maxRecDepth 20000 in
theorem ggX3_perform_X1_move : GoodIn wsX3_perform wsX1_move := goodIn_r _ [50, 46, 51, 52, 53, 54, 55] (by decide +kernel) (by decide +kernel)
set_option maxRecDepth 20000 in
theorem gX3_perform_X1_move : GoodIn wsX3_perform (wsV RX3 167 RX1 yX1_move wsX1_move) := goodIn_app (goodIn_of _ (by decide +kernel)) ggX3_perform_X1_move
theorem dX3_perform_0 : decode cX3_perform 0 = .ok (.aload_n 0, 1) := by decide +kernel
theorem dX3_perform_1 : decode cX3_perform 1 = .ok (.iload_n 1, 1) := by decide +kernel
theorem dX3_perform_2 : decode cX3_perform 2 = .ok (.invokevirtual 147, 3) := by decide +kernel
theorem dX3_perform_5 : decode cX3_perform 5 = .ok (.astore_n 2, 1) := by decide +kernel
theorem dX3_perform_6 : decode cX3_perform 6 = .ok (.aload_n 2, 1) := by decide +kernel
theorem dX3_perform_7 : decode cX3_perform 7 = .ok (.invokevirtual 162, 3) := by decide +kernel
theorem dX3_perform_10 : decode cX3_perform 10 = .ok (.ifCond .ne 13, 3) := by decide +kernel
theorem dX3_perform_13 : decode cX3_perform 13 = .ok (.new 58, 3) := by decide +kernel
theorem dX3_perform_16 : decode cX3_perform 16 = .ok (.dup, 1) := by decide +kernel
theorem dX3_perform_17 : decode cX3_perform 17 = .ok (.ldc 165, 2) := by decide +kernel
theorem dX3_perform_19 : decode cX3_perform 19 = .ok (.invokespecial 62, 3) := by decide +kernel
theorem dX3_perform_22 : decode cX3_perform 22 = .ok (.athrow, 1) := by decide +kernel
theorem dX3_perform_23 : decode cX3_perform 23 = .ok (.aload_n 2, 1) := by decide +kernel
theorem dX3_perform_24 : decode cX3_perform 24 = .ok (.getfield 151, 3) := by decide +kernel
theorem dX3_perform_27 : decode cX3_perform 27 = .ok (.iconst 2, 1) := by decide +kernel
theorem dX3_perform_28 : decode cX3_perform 28 = .ok (.if_icmp .eq 14, 3) := by decide +kernel
theorem dX3_perform_31 : decode cX3_perform 31 = .ok (.aload_n 0, 1) := by decide +kernel
theorem dX3_perform_32 : decode cX3_perform 32 = .ok (.getfield 32, 3) := by decide +kernel
theorem dX3_perform_35 : decode cX3_perform 35 = .ok (.aload_n 2, 1) := by decide +kernel
theorem dX3_perform_36 : decode cX3_perform 36 = .ok (.getfield 156, 3) := by decide +kernel
theorem dX3_perform_39 : decode cX3_perform 39 = .ok (.if_icmp .le 7, 3) := by decide +kernel
theorem dX3_perform_42 : decode cX3_perform 42 = .ok (.iconst 1, 1) := by decide +kernel
theorem dX3_perform_43 : decode cX3_perform 43 = .ok (.goto 4, 3) := by decide +kernel
theorem dX3_perform_46 : decode cX3_perform 46 = .ok (.iconst 0, 1) := by decide +kernel
theorem dX3_perform_47 : decode cX3_perform 47 = .ok (.istore_n 3, 1) := by decide +kernel
theorem dX3_perform_48 : decode cX3_perform 48 = .ok (.aload_n 2, 1) := by decide +kernel
theorem dX3_perform_49 : decode cX3_perform 49 = .ok (.iconst 1, 1) := by decide +kernel
theorem dX3_perform_50 : decode cX3_perform 50 = .ok (.aload_n 0, 1) := by decide +kernel
theorem dX3_perform_51 : decode cX3_perform 51 = .ok (.getfield 32, 3) := by decide +kernel
theorem dX3_perform_54 : decode cX3_perform 54 = .ok (.invokevirtual 167, 3) := by decide +kernel
theorem dX3_perform_57 : decode cX3_perform 57 = .ok (.iload_n 3, 1) := by decide +kernel
theorem dX3_perform_58 : decode cX3_perform 58 = .ok (.ireturn, 1) := by decide +kernel
set_option maxRecDepth 20000 in
theorem ggX3_notice_X3_dutyAt : GoodIn wsX3_notice wsX3_dutyAt := goodIn_ca (goodIn_r _ [12, 13, 14, 15, 16, 17, 18, 19, 20, 21, 22, 23, 24, 11, 25, 26, 27, 28, 29, 30, 31, 32, 33, 34, 35, 36, 37, 38, 39, 40, 41, 42, 54, 55, 56, 57, 58, 59, 65, 66, 67] (by decide +kernel) (by decide +kernel)) (goodIn_sub (fun _ h => List.mem_cons_of_mem _ (List.mem_append_right _ h)) (by decide +kernel))
set_option maxRecDepth 20000 in
theorem gX3_notice_X3_dutyAt : GoodIn wsX3_notice (wsV RX3 147 RX3 yX3_dutyAt wsX3_dutyAt) := goodIn_app (goodIn_of _ (by decide +kernel)) ggX3_notice_X3_dutyAt
set_option maxRecDepth 20000 in
theorem ggX3_notice_X1_move : GoodIn wsX3_notice wsX1_move := goodIn_r _ [47, 48, 49, 50, 51, 52, 53] (by decide +kernel) (by decide +kernel)
set_option maxRecDepth 20000 in
theorem gX3_notice_X1_move : GoodIn wsX3_notice (wsV RX3 167 RX1 yX1_move wsX1_move) := goodIn_app (goodIn_of _ (by decide +kernel)) ggX3_notice_X1_move
theorem dX3_notice_0 : decode cX3_notice 0 = .ok (.aload_n 0, 1) := by decide +kernel
theorem dX3_notice_1 : decode cX3_notice 1 = .ok (.iload_n 1, 1) := by decide +kernel
theorem dX3_notice_2 : decode cX3_notice 2 = .ok (.invokevirtual 147, 3) := by decide +kernel
theorem dX3_notice_5 : decode cX3_notice 5 = .ok (.astore_n 2, 1) := by decide +kernel
theorem dX3_notice_6 : decode cX3_notice 6 = .ok (.aload_n 2, 1) := by decide +kernel
theorem dX3_notice_7 : decode cX3_notice 7 = .ok (.getfield 151, 3) := by decide +kernel
theorem dX3_notice_10 : decode cX3_notice 10 = .ok (.ifCond .ne 14, 3) := by decide +kernel
theorem dX3_notice_13 : decode cX3_notice 13 = .ok (.aload_n 0, 1) := by decide +kernel
theorem dX3_notice_14 : decode cX3_notice 14 = .ok (.getfield 32, 3) := by decide +kernel
theorem dX3_notice_17 : decode cX3_notice 17 = .ok (.aload_n 2, 1) := by decide +kernel
theorem dX3_notice_18 : decode cX3_notice 18 = .ok (.getfield 156, 3) := by decide +kernel
theorem dX3_notice_21 : decode cX3_notice 21 = .ok (.if_icmp .gt 13, 3) := by decide +kernel
theorem dX3_notice_24 : decode cX3_notice 24 = .ok (.new 58, 3) := by decide +kernel
theorem dX3_notice_27 : decode cX3_notice 27 = .ok (.dup, 1) := by decide +kernel
theorem dX3_notice_28 : decode cX3_notice 28 = .ok (.ldc 170, 2) := by decide +kernel
theorem dX3_notice_30 : decode cX3_notice 30 = .ok (.invokespecial 62, 3) := by decide +kernel
theorem dX3_notice_33 : decode cX3_notice 33 = .ok (.athrow, 1) := by decide +kernel
theorem dX3_notice_34 : decode cX3_notice 34 = .ok (.aload_n 2, 1) := by decide +kernel
theorem dX3_notice_35 : decode cX3_notice 35 = .ok (.iconst 2, 1) := by decide +kernel
theorem dX3_notice_36 : decode cX3_notice 36 = .ok (.aload_n 0, 1) := by decide +kernel
theorem dX3_notice_37 : decode cX3_notice 37 = .ok (.getfield 32, 3) := by decide +kernel
theorem dX3_notice_40 : decode cX3_notice 40 = .ok (.aload_n 2, 1) := by decide +kernel
theorem dX3_notice_41 : decode cX3_notice 41 = .ok (.getfield 172, 3) := by decide +kernel
theorem dX3_notice_44 : decode cX3_notice 44 = .ok (.getfield 176, 3) := by decide +kernel
theorem dX3_notice_47 : decode cX3_notice 47 = .ok (.iadd, 1) := by decide +kernel
theorem dX3_notice_48 : decode cX3_notice 48 = .ok (.invokevirtual 167, 3) := by decide +kernel
theorem dX3_notice_51 : decode cX3_notice 51 = .ok (.aload_n 2, 1) := by decide +kernel
theorem dX3_notice_52 : decode cX3_notice 52 = .ok (.getfield 156, 3) := by decide +kernel
theorem dX3_notice_55 : decode cX3_notice 55 = .ok (.ireturn, 1) := by decide +kernel
set_option maxRecDepth 20000 in
theorem ggX3_settle_X3_dutyAt : GoodIn wsX3_settle wsX3_dutyAt := goodIn_ca (goodIn_r _ [11, 12, 13, 14, 15, 16, 17, 18, 19, 20, 21, 22, 23, 10, 24, 25, 26, 27, 28, 29, 30, 31, 32, 33, 34, 35, 36, 37, 38, 39, 40, 41, 63, 64, 65, 66, 67, 68, 74, 75, 76] (by decide +kernel) (by decide +kernel)) (goodIn_sub (fun _ h => List.mem_cons_of_mem _ (List.mem_append_right _ h)) (by decide +kernel))
set_option maxRecDepth 20000 in
theorem gX3_settle_X3_dutyAt : GoodIn wsX3_settle (wsV RX3 147 RX3 yX3_dutyAt wsX3_dutyAt) := goodIn_app (goodIn_of _ (by decide +kernel)) ggX3_settle_X3_dutyAt
set_option maxRecDepth 20000 in
theorem ggX3_settle_X1_move : GoodIn wsX3_settle wsX1_move := goodIn_r _ [46, 47, 48, 59, 60, 61, 62] (by decide +kernel) (by decide +kernel)
set_option maxRecDepth 20000 in
theorem gX3_settle_X1_move : GoodIn wsX3_settle (wsV RX3 167 RX1 yX1_move wsX1_move) := goodIn_app (goodIn_of _ (by decide +kernel)) ggX3_settle_X1_move
set_option maxRecDepth 20000 in
theorem ggX3_settle_X1_countBreach : GoodIn wsX3_settle wsX1_countBreach := goodIn_r _ [52, 53, 54, 55, 56, 57, 58, 59, 60, 61, 62, 77, 78, 79, 80, 81, 69, 70, 71, 72, 73] (by decide +kernel) (by decide +kernel)
set_option maxRecDepth 20000 in
theorem gX3_settle_X1_countBreach : GoodIn wsX3_settle (wsV RX3 181 RX1 yX1_countBreach wsX1_countBreach) := goodIn_app (goodIn_of _ (by decide +kernel)) ggX3_settle_X1_countBreach
theorem dX3_settle_0 : decode cX3_settle 0 = .ok (.aload_n 0, 1) := by decide +kernel
theorem dX3_settle_1 : decode cX3_settle 1 = .ok (.iload_n 1, 1) := by decide +kernel
theorem dX3_settle_2 : decode cX3_settle 2 = .ok (.invokevirtual 147, 3) := by decide +kernel
theorem dX3_settle_5 : decode cX3_settle 5 = .ok (.astore_n 2, 1) := by decide +kernel
theorem dX3_settle_6 : decode cX3_settle 6 = .ok (.aload_n 2, 1) := by decide +kernel
theorem dX3_settle_7 : decode cX3_settle 7 = .ok (.getfield 151, 3) := by decide +kernel
theorem dX3_settle_10 : decode cX3_settle 10 = .ok (.iconst 3, 1) := by decide +kernel
theorem dX3_settle_11 : decode cX3_settle 11 = .ok (.if_icmp .eq 13, 3) := by decide +kernel
theorem dX3_settle_14 : decode cX3_settle 14 = .ok (.new 58, 3) := by decide +kernel
theorem dX3_settle_17 : decode cX3_settle 17 = .ok (.dup, 1) := by decide +kernel
theorem dX3_settle_18 : decode cX3_settle 18 = .ok (.ldc 179, 2) := by decide +kernel
theorem dX3_settle_20 : decode cX3_settle 20 = .ok (.invokespecial 62, 3) := by decide +kernel
theorem dX3_settle_23 : decode cX3_settle 23 = .ok (.athrow, 1) := by decide +kernel
theorem dX3_settle_24 : decode cX3_settle 24 = .ok (.aload_n 2, 1) := by decide +kernel
theorem dX3_settle_25 : decode cX3_settle 25 = .ok (.iconst 4, 1) := by decide +kernel
theorem dX3_settle_26 : decode cX3_settle 26 = .ok (.aload_n 0, 1) := by decide +kernel
theorem dX3_settle_27 : decode cX3_settle 27 = .ok (.getfield 32, 3) := by decide +kernel
theorem dX3_settle_30 : decode cX3_settle 30 = .ok (.invokevirtual 167, 3) := by decide +kernel
theorem dX3_settle_33 : decode cX3_settle 33 = .ok (.aload_n 2, 1) := by decide +kernel
theorem dX3_settle_34 : decode cX3_settle 34 = .ok (.iconst (-1), 1) := by decide +kernel
theorem dX3_settle_35 : decode cX3_settle 35 = .ok (.invokevirtual 181, 3) := by decide +kernel
theorem dX3_settle_38 : decode cX3_settle 38 = .ok (.aload_n 2, 1) := by decide +kernel
theorem dX3_settle_39 : decode cX3_settle 39 = .ok (.getfield 172, 3) := by decide +kernel
theorem dX3_settle_42 : decode cX3_settle 42 = .ok (.getfield 184, 3) := by decide +kernel
theorem dX3_settle_45 : decode cX3_settle 45 = .ok (.ireturn, 1) := by decide +kernel
set_option maxRecDepth 20000 in
theorem ggX3_owes_X3_contractAt : GoodIn wsX3_owes wsX3_contractAt := goodIn_ca (goodIn_r _ [10, 11, 12, 13, 14, 15, 16, 17, 18, 19, 20, 21, 22, 9, 23, 24, 25, 26, 27, 28, 29, 30, 31, 32, 33, 34, 35, 36, 37, 38, 39, 40, 51, 52, 53, 54, 55, 56, 57, 58, 59] (by decide +kernel) (by decide +kernel)) (goodIn_sub (fun _ h => List.mem_cons_of_mem _ (List.mem_append_left _ (List.mem_append_right _ h))) (by decide +kernel))
set_option maxRecDepth 20000 in
theorem gX3_owes_X3_contractAt : GoodIn wsX3_owes (wsV RX3 83 RX3 yX3_contractAt wsX3_contractAt) := goodIn_app (goodIn_of _ (by decide +kernel)) ggX3_owes_X3_contractAt
set_option maxRecDepth 20000 in
theorem ggX3_owes_X3_checkSide : GoodIn wsX3_owes wsX3_checkSide := goodIn_ca (goodIn_r _ [43, 44, 45, 21, 22, 9, 23] (by decide +kernel) (by decide +kernel)) (goodIn_sub (fun _ h => List.mem_cons_of_mem _ (List.mem_append_right _ h)) (by decide +kernel))
set_option maxRecDepth 20000 in
theorem gX3_owes_X3_checkSide : GoodIn wsX3_owes (va_wsS RX3 40 yX3_checkSide wsX3_checkSide) := goodIn_app (goodIn_of _ (by decide +kernel)) ggX3_owes_X3_checkSide
theorem dX3_owes_0 : decode cX3_owes 0 = .ok (.aload_n 0, 1) := by decide +kernel
theorem dX3_owes_1 : decode cX3_owes 1 = .ok (.iload_n 1, 1) := by decide +kernel
theorem dX3_owes_2 : decode cX3_owes 2 = .ok (.invokevirtual 83, 3) := by decide +kernel
theorem dX3_owes_5 : decode cX3_owes 5 = .ok (.astore_n 3, 1) := by decide +kernel
theorem dX3_owes_6 : decode cX3_owes 6 = .ok (.iload_n 2, 1) := by decide +kernel
theorem dX3_owes_7 : decode cX3_owes 7 = .ok (.invokestatic 40, 3) := by decide +kernel
theorem dX3_owes_10 : decode cX3_owes 10 = .ok (.iconst 0, 1) := by decide +kernel
theorem dX3_owes_11 : decode cX3_owes 11 = .ok (.aload_n 3, 1) := by decide +kernel
theorem dX3_owes_12 : decode cX3_owes 12 = .ok (.getfield 187, 3) := by decide +kernel
theorem dX3_owes_15 : decode cX3_owes 15 = .ok (.iload_n 2, 1) := by decide +kernel
theorem dX3_owes_16 : decode cX3_owes 16 = .ok (.iaload, 1) := by decide +kernel
theorem dX3_owes_17 : decode cX3_owes 17 = .ok (.aload_n 3, 1) := by decide +kernel
theorem dX3_owes_18 : decode cX3_owes 18 = .ok (.getfield 187, 3) := by decide +kernel
theorem dX3_owes_21 : decode cX3_owes 21 = .ok (.iconst 1, 1) := by decide +kernel
theorem dX3_owes_22 : decode cX3_owes 22 = .ok (.iload_n 2, 1) := by decide +kernel
theorem dX3_owes_23 : decode cX3_owes 23 = .ok (.isub, 1) := by decide +kernel
theorem dX3_owes_24 : decode cX3_owes 24 = .ok (.iaload, 1) := by decide +kernel
theorem dX3_owes_25 : decode cX3_owes 25 = .ok (.isub, 1) := by decide +kernel
theorem dX3_owes_26 : decode cX3_owes 26 = .ok (.invokestatic 190, 3) := by decide +kernel
theorem dX3_owes_29 : decode cX3_owes 29 = .ok (.ireturn, 1) := by decide +kernel
theorem dX3_isWithin_0 : decode cX3_isWithin 0 = .ok (.iload_n 0, 1) := by decide +kernel
theorem dX3_isWithin_1 : decode cX3_isWithin 1 = .ok (.iload_n 1, 1) := by decide +kernel
theorem dX3_isWithin_2 : decode cX3_isWithin 2 = .ok (.if_icmp .lt 12, 3) := by decide +kernel
theorem dX3_isWithin_5 : decode cX3_isWithin 5 = .ok (.iload_n 0, 1) := by decide +kernel
theorem dX3_isWithin_6 : decode cX3_isWithin 6 = .ok (.iload_n 2, 1) := by decide +kernel
theorem dX3_isWithin_7 : decode cX3_isWithin 7 = .ok (.if_icmp .gt 7, 3) := by decide +kernel
theorem dX3_isWithin_10 : decode cX3_isWithin 10 = .ok (.iconst 1, 1) := by decide +kernel
theorem dX3_isWithin_11 : decode cX3_isWithin 11 = .ok (.goto 4, 3) := by decide +kernel
theorem dX3_isWithin_14 : decode cX3_isWithin 14 = .ok (.iconst 0, 1) := by decide +kernel
theorem dX3_isWithin_15 : decode cX3_isWithin 15 = .ok (.ireturn, 1) := by decide +kernel
set_option maxRecDepth 20000 in
theorem ggX3_checkClause_X3_isWithin : GoodIn wsX3_checkClause wsX3_isWithin := goodIn_r _ [6] (by decide +kernel) (by decide +kernel)
set_option maxRecDepth 20000 in
theorem gX3_checkClause_X3_isWithin : GoodIn wsX3_checkClause (va_wsS RX3 43 yX3_isWithin wsX3_isWithin) := goodIn_app (goodIn_of _ (by decide +kernel)) ggX3_checkClause_X3_isWithin
theorem dX3_checkClause_0 : decode cX3_checkClause 0 = .ok (.iload_n 0, 1) := by decide +kernel
theorem dX3_checkClause_1 : decode cX3_checkClause 1 = .ok (.iconst 0, 1) := by decide +kernel
theorem dX3_checkClause_2 : decode cX3_checkClause 2 = .ok (.bipush 9, 2) := by decide +kernel
theorem dX3_checkClause_4 : decode cX3_checkClause 4 = .ok (.invokestatic 43, 3) := by decide +kernel
theorem dX3_checkClause_7 : decode cX3_checkClause 7 = .ok (.ifCond .ne 13, 3) := by decide +kernel
theorem dX3_checkClause_10 : decode cX3_checkClause 10 = .ok (.new 47, 3) := by decide +kernel
theorem dX3_checkClause_13 : decode cX3_checkClause 13 = .ok (.dup, 1) := by decide +kernel
theorem dX3_checkClause_14 : decode cX3_checkClause 14 = .ok (.ldc 196, 2) := by decide +kernel
theorem dX3_checkClause_16 : decode cX3_checkClause 16 = .ok (.invokespecial 51, 3) := by decide +kernel
theorem dX3_checkClause_19 : decode cX3_checkClause 19 = .ok (.athrow, 1) := by decide +kernel
theorem dX3_checkClause_20 : decode cX3_checkClause 20 = .ok (.return_, 1) := by decide +kernel
set_option maxRecDepth 20000 in
theorem ggX3_checkSide_X3_isWithin : GoodIn wsX3_checkSide wsX3_isWithin := goodIn_r _ [6] (by decide +kernel) (by decide +kernel)
set_option maxRecDepth 20000 in
theorem gX3_checkSide_X3_isWithin : GoodIn wsX3_checkSide (va_wsS RX3 43 yX3_isWithin wsX3_isWithin) := goodIn_app (goodIn_of _ (by decide +kernel)) ggX3_checkSide_X3_isWithin
theorem dX3_checkSide_0 : decode cX3_checkSide 0 = .ok (.iload_n 0, 1) := by decide +kernel
theorem dX3_checkSide_1 : decode cX3_checkSide 1 = .ok (.iconst 0, 1) := by decide +kernel
theorem dX3_checkSide_2 : decode cX3_checkSide 2 = .ok (.iconst 1, 1) := by decide +kernel
theorem dX3_checkSide_3 : decode cX3_checkSide 3 = .ok (.invokestatic 43, 3) := by decide +kernel
theorem dX3_checkSide_6 : decode cX3_checkSide 6 = .ok (.ifCond .ne 13, 3) := by decide +kernel
theorem dX3_checkSide_9 : decode cX3_checkSide 9 = .ok (.new 47, 3) := by decide +kernel
theorem dX3_checkSide_12 : decode cX3_checkSide 12 = .ok (.dup, 1) := by decide +kernel
theorem dX3_checkSide_13 : decode cX3_checkSide 13 = .ok (.ldc 198, 2) := by decide +kernel
theorem dX3_checkSide_15 : decode cX3_checkSide 15 = .ok (.invokespecial 51, 3) := by decide +kernel
theorem dX3_checkSide_18 : decode cX3_checkSide 18 = .ok (.athrow, 1) := by decide +kernel
theorem dX3_checkSide_19 : decode cX3_checkSide 19 = .ok (.return_, 1) := by decide +kernel
set_option maxRecDepth 20000 in
theorem ggX3_checkOtherClauses_X3_isWithin : GoodIn wsX3_checkOtherClauses wsX3_isWithin := goodIn_r _ [6] (by decide +kernel) (by decide +kernel)
set_option maxRecDepth 20000 in
theorem gX3_checkOtherClauses_X3_isWithin : GoodIn wsX3_checkOtherClauses (va_wsS RX3 43 yX3_isWithin wsX3_isWithin) := goodIn_app (goodIn_of _ (by decide +kernel)) ggX3_checkOtherClauses_X3_isWithin
theorem dX3_checkOtherClauses_0 : decode cX3_checkOtherClauses 0 = .ok (.iload_n 1, 1) := by decide +kernel
theorem dX3_checkOtherClauses_1 : decode cX3_checkOtherClauses 1 = .ok (.iconst 0, 1) := by decide +kernel
theorem dX3_checkOtherClauses_2 : decode cX3_checkOtherClauses 2 = .ok (.sipush 1023, 3) := by decide +kernel
theorem dX3_checkOtherClauses_5 : decode cX3_checkOtherClauses 5 = .ok (.invokestatic 43, 3) := by decide +kernel
theorem dX3_checkOtherClauses_8 : decode cX3_checkOtherClauses 8 = .ok (.ifCond .eq 11, 3) := by decide +kernel
theorem dX3_checkOtherClauses_11 : decode cX3_checkOtherClauses 11 = .ok (.iload_n 1, 1) := by decide +kernel
theorem dX3_checkOtherClauses_12 : decode cX3_checkOtherClauses 12 = .ok (.iconst 1, 1) := by decide +kernel
theorem dX3_checkOtherClauses_13 : decode cX3_checkOtherClauses 13 = .ok (.iload_n 0, 1) := by decide +kernel
theorem dX3_checkOtherClauses_14 : decode cX3_checkOtherClauses 14 = .ok (.ishl, 1) := by decide +kernel
theorem dX3_checkOtherClauses_15 : decode cX3_checkOtherClauses 15 = .ok (.iand, 1) := by decide +kernel
theorem dX3_checkOtherClauses_16 : decode cX3_checkOtherClauses 16 = .ok (.ifCond .eq 13, 3) := by decide +kernel
theorem dX3_checkOtherClauses_19 : decode cX3_checkOtherClauses 19 = .ok (.new 47, 3) := by decide +kernel
theorem dX3_checkOtherClauses_22 : decode cX3_checkOtherClauses 22 = .ok (.dup, 1) := by decide +kernel
theorem dX3_checkOtherClauses_23 : decode cX3_checkOtherClauses 23 = .ok (.ldc 200, 2) := by decide +kernel
theorem dX3_checkOtherClauses_25 : decode cX3_checkOtherClauses 25 = .ok (.invokespecial 51, 3) := by decide +kernel
theorem dX3_checkOtherClauses_28 : decode cX3_checkOtherClauses 28 = .ok (.athrow, 1) := by decide +kernel
theorem dX3_checkOtherClauses_29 : decode cX3_checkOtherClauses 29 = .ok (.return_, 1) := by decide +kernel
set_option maxRecDepth 20000 in
theorem ggX3_checkDraft_X0_isDraft : GoodIn wsX3_checkDraft wsX0_isDraft := goodIn_r _ [7, 8, 9, 10, 11, 12, 13] (by decide +kernel) (by decide +kernel)
set_option maxRecDepth 20000 in
theorem gX3_checkDraft_X0_isDraft : GoodIn wsX3_checkDraft (wsV RX3 120 RX0 yX0_isDraft wsX0_isDraft) := goodIn_app (goodIn_of _ (by decide +kernel)) ggX3_checkDraft_X0_isDraft
theorem dX3_checkDraft_0 : decode cX3_checkDraft 0 = .ok (.aload_n 0, 1) := by decide +kernel
theorem dX3_checkDraft_1 : decode cX3_checkDraft 1 = .ok (.invokevirtual 120, 3) := by decide +kernel
theorem dX3_checkDraft_4 : decode cX3_checkDraft 4 = .ok (.ifCond .ne 13, 3) := by decide +kernel
theorem dX3_checkDraft_7 : decode cX3_checkDraft 7 = .ok (.new 58, 3) := by decide +kernel
theorem dX3_checkDraft_10 : decode cX3_checkDraft 10 = .ok (.dup, 1) := by decide +kernel
theorem dX3_checkDraft_11 : decode cX3_checkDraft 11 = .ok (.ldc 202, 2) := by decide +kernel
theorem dX3_checkDraft_13 : decode cX3_checkDraft 13 = .ok (.invokespecial 62, 3) := by decide +kernel
theorem dX3_checkDraft_16 : decode cX3_checkDraft 16 = .ok (.athrow, 1) := by decide +kernel
theorem dX3_checkDraft_17 : decode cX3_checkDraft 17 = .ok (.return_, 1) := by decide +kernel
set_option maxRecDepth 20000 in
theorem ggX3_contractAt_Jx4a65c_size_8abf5 : GoodIn wsX3_contractAt wsJx4a65c_size_8abf5 := goodIn_r _ [9, 10, 38, 39, 40] (by decide +kernel) (by decide +kernel)
set_option maxRecDepth 20000 in
theorem gX3_contractAt_Jx4a65c_size_8abf5 : GoodIn wsX3_contractAt (wsV RX3 70 RJx4a65c yJx4a65c_size_8abf5 wsJx4a65c_size_8abf5) := goodIn_app (goodIn_of _ (by decide +kernel)) ggX3_contractAt_Jx4a65c_size_8abf5
set_option maxRecDepth 20000 in
theorem ggX3_contractAt_X3_isWithin : GoodIn wsX3_contractAt wsX3_isWithin := goodIn_r _ [14] (by decide +kernel) (by decide +kernel)
set_option maxRecDepth 20000 in
theorem gX3_contractAt_X3_isWithin : GoodIn wsX3_contractAt (va_wsS RX3 43 yX3_isWithin wsX3_isWithin) := goodIn_app (goodIn_of _ (by decide +kernel)) ggX3_contractAt_X3_isWithin
set_option maxRecDepth 20000 in
theorem ggX3_contractAt_Jx4a65c_get_915e3 : GoodIn wsX3_contractAt wsJx4a65c_get_915e3 := goodIn_r _ [18, 10, 19, 20, 21, 22, 23, 24, 25, 26, 27, 28, 29, 8, 30, 31, 38, 39, 40] (by decide +kernel) (by decide +kernel)
set_option maxRecDepth 20000 in
theorem gX3_contractAt_Jx4a65c_get_915e3 : GoodIn wsX3_contractAt (wsV RX3 209 RJx4a65c yJx4a65c_get_915e3 wsJx4a65c_get_915e3) := goodIn_app (goodIn_of _ (by decide +kernel)) ggX3_contractAt_Jx4a65c_get_915e3
theorem dX3_contractAt_0 : decode cX3_contractAt 0 = .ok (.iload_n 1, 1) := by decide +kernel
theorem dX3_contractAt_1 : decode cX3_contractAt 1 = .ok (.iconst 0, 1) := by decide +kernel
theorem dX3_contractAt_2 : decode cX3_contractAt 2 = .ok (.aload_n 0, 1) := by decide +kernel
theorem dX3_contractAt_3 : decode cX3_contractAt 3 = .ok (.getfield 25, 3) := by decide +kernel
theorem dX3_contractAt_6 : decode cX3_contractAt 6 = .ok (.invokevirtual 70, 3) := by decide +kernel
theorem dX3_contractAt_9 : decode cX3_contractAt 9 = .ok (.iconst 1, 1) := by decide +kernel
theorem dX3_contractAt_10 : decode cX3_contractAt 10 = .ok (.isub, 1) := by decide +kernel
theorem dX3_contractAt_11 : decode cX3_contractAt 11 = .ok (.invokestatic 43, 3) := by decide +kernel
theorem dX3_contractAt_14 : decode cX3_contractAt 14 = .ok (.ifCond .ne 13, 3) := by decide +kernel
theorem dX3_contractAt_17 : decode cX3_contractAt 17 = .ok (.new 204, 3) := by decide +kernel
theorem dX3_contractAt_20 : decode cX3_contractAt 20 = .ok (.dup, 1) := by decide +kernel
theorem dX3_contractAt_21 : decode cX3_contractAt 21 = .ok (.ldc 206, 2) := by decide +kernel
theorem dX3_contractAt_23 : decode cX3_contractAt 23 = .ok (.invokespecial 208, 3) := by decide +kernel
theorem dX3_contractAt_26 : decode cX3_contractAt 26 = .ok (.athrow, 1) := by decide +kernel
theorem dX3_contractAt_27 : decode cX3_contractAt 27 = .ok (.aload_n 0, 1) := by decide +kernel
theorem dX3_contractAt_28 : decode cX3_contractAt 28 = .ok (.getfield 25, 3) := by decide +kernel
theorem dX3_contractAt_31 : decode cX3_contractAt 31 = .ok (.iload_n 1, 1) := by decide +kernel
theorem dX3_contractAt_32 : decode cX3_contractAt 32 = .ok (.invokevirtual 209, 3) := by decide +kernel
theorem dX3_contractAt_35 : decode cX3_contractAt 35 = .ok (.checkcast 76, 3) := by decide +kernel
theorem dX3_contractAt_38 : decode cX3_contractAt 38 = .ok (.areturn, 1) := by decide +kernel
set_option maxRecDepth 20000 in
theorem ggX3_dutyAt_Jx4a65c_size_8abf5 : GoodIn wsX3_dutyAt wsJx4a65c_size_8abf5 := goodIn_r _ [9, 10, 38, 39, 40] (by decide +kernel) (by decide +kernel)
set_option maxRecDepth 20000 in
theorem gX3_dutyAt_Jx4a65c_size_8abf5 : GoodIn wsX3_dutyAt (wsV RX3 70 RJx4a65c yJx4a65c_size_8abf5 wsJx4a65c_size_8abf5) := goodIn_app (goodIn_of _ (by decide +kernel)) ggX3_dutyAt_Jx4a65c_size_8abf5
set_option maxRecDepth 20000 in
theorem ggX3_dutyAt_X3_isWithin : GoodIn wsX3_dutyAt wsX3_isWithin := goodIn_r _ [14] (by decide +kernel) (by decide +kernel)
set_option maxRecDepth 20000 in
theorem gX3_dutyAt_X3_isWithin : GoodIn wsX3_dutyAt (va_wsS RX3 43 yX3_isWithin wsX3_isWithin) := goodIn_app (goodIn_of _ (by decide +kernel)) ggX3_dutyAt_X3_isWithin
set_option maxRecDepth 20000 in
theorem ggX3_dutyAt_Jx4a65c_get_915e3 : GoodIn wsX3_dutyAt wsJx4a65c_get_915e3 := goodIn_r _ [18, 10, 19, 20, 21, 22, 23, 24, 25, 26, 27, 28, 29, 8, 30, 31, 38, 39, 40] (by decide +kernel) (by decide +kernel)
set_option maxRecDepth 20000 in
theorem gX3_dutyAt_Jx4a65c_get_915e3 : GoodIn wsX3_dutyAt (wsV RX3 209 RJx4a65c yJx4a65c_get_915e3 wsJx4a65c_get_915e3) := goodIn_app (goodIn_of _ (by decide +kernel)) ggX3_dutyAt_Jx4a65c_get_915e3
theorem dX3_dutyAt_0 : decode cX3_dutyAt 0 = .ok (.iload_n 1, 1) := by decide +kernel
theorem dX3_dutyAt_1 : decode cX3_dutyAt 1 = .ok (.iconst 0, 1) := by decide +kernel
theorem dX3_dutyAt_2 : decode cX3_dutyAt 2 = .ok (.aload_n 0, 1) := by decide +kernel
theorem dX3_dutyAt_3 : decode cX3_dutyAt 3 = .ok (.getfield 29, 3) := by decide +kernel
theorem dX3_dutyAt_6 : decode cX3_dutyAt 6 = .ok (.invokevirtual 70, 3) := by decide +kernel
theorem dX3_dutyAt_9 : decode cX3_dutyAt 9 = .ok (.iconst 1, 1) := by decide +kernel
theorem dX3_dutyAt_10 : decode cX3_dutyAt 10 = .ok (.isub, 1) := by decide +kernel
theorem dX3_dutyAt_11 : decode cX3_dutyAt 11 = .ok (.invokestatic 43, 3) := by decide +kernel
theorem dX3_dutyAt_14 : decode cX3_dutyAt 14 = .ok (.ifCond .ne 13, 3) := by decide +kernel
theorem dX3_dutyAt_17 : decode cX3_dutyAt 17 = .ok (.new 204, 3) := by decide +kernel
theorem dX3_dutyAt_20 : decode cX3_dutyAt 20 = .ok (.dup, 1) := by decide +kernel
theorem dX3_dutyAt_21 : decode cX3_dutyAt 21 = .ok (.ldc 213, 2) := by decide +kernel
theorem dX3_dutyAt_23 : decode cX3_dutyAt 23 = .ok (.invokespecial 208, 3) := by decide +kernel
theorem dX3_dutyAt_26 : decode cX3_dutyAt 26 = .ok (.athrow, 1) := by decide +kernel
theorem dX3_dutyAt_27 : decode cX3_dutyAt 27 = .ok (.aload_n 0, 1) := by decide +kernel
theorem dX3_dutyAt_28 : decode cX3_dutyAt 28 = .ok (.getfield 29, 3) := by decide +kernel
theorem dX3_dutyAt_31 : decode cX3_dutyAt 31 = .ok (.iload_n 1, 1) := by decide +kernel
theorem dX3_dutyAt_32 : decode cX3_dutyAt 32 = .ok (.invokevirtual 209, 3) := by decide +kernel
theorem dX3_dutyAt_35 : decode cX3_dutyAt 35 = .ok (.checkcast 152, 3) := by decide +kernel
theorem dX3_dutyAt_38 : decode cX3_dutyAt 38 = .ok (.areturn, 1) := by decide +kernel
theorem dX3_numberOf_0 : decode cX3_numberOf 0 = .ok (.aload_n 0, 1) := by decide +kernel
end
section
theorem dX3_numberOf_1 : decode cX3_numberOf 1 = .ok (.ifnonnull 7, 3) := by decide +kernel
theorem dX3_numberOf_4 : decode cX3_numberOf 4 = .ok (.iconst 0, 1) := by decide +kernel
theorem dX3_numberOf_5 : decode cX3_numberOf 5 = .ok (.goto 7, 3) := by decide +kernel
theorem dX3_numberOf_8 : decode cX3_numberOf 8 = .ok (.aload_n 0, 1) := by decide +kernel
theorem dX3_numberOf_9 : decode cX3_numberOf 9 = .ok (.getfield 215, 3) := by decide +kernel
theorem dX3_numberOf_12 : decode cX3_numberOf 12 = .ok (.ireturn, 1) := by decide +kernel
set_option maxRecDepth 20000 in
theorem ggX3_newestNumber_X3_numberOf : GoodIn wsX3_newestNumber wsX3_numberOf := goodIn_r _ [5, 6, 13, 14, 15, 16, 17] (by decide +kernel) (by decide +kernel)
set_option maxRecDepth 20000 in
theorem gX3_newestNumber_X3_numberOf : GoodIn wsX3_newestNumber (va_wsS RX3 218 yX3_numberOf wsX3_numberOf) := goodIn_app (goodIn_of _ (by decide +kernel)) ggX3_newestNumber_X3_numberOf
theorem dX3_newestNumber_0 : decode cX3_newestNumber 0 = .ok (.aload_n 0, 1) := by decide +kernel
theorem dX3_newestNumber_1 : decode cX3_newestNumber 1 = .ok (.getfield 11, 3) := by decide +kernel
theorem dX3_newestNumber_4 : decode cX3_newestNumber 4 = .ok (.iload_n 1, 1) := by decide +kernel
theorem dX3_newestNumber_5 : decode cX3_newestNumber 5 = .ok (.aaload, 1) := by decide +kernel
theorem dX3_newestNumber_6 : decode cX3_newestNumber 6 = .ok (.invokestatic 218, 3) := by decide +kernel
theorem dX3_newestNumber_9 : decode cX3_newestNumber 9 = .ok (.ireturn, 1) := by decide +kernel
set_option maxRecDepth 20000 in
theorem ggX3_itemNumber_X3_numberOf : GoodIn wsX3_itemNumber wsX3_numberOf := goodIn_r _ [5, 6, 12, 13, 14, 15, 16] (by decide +kernel) (by decide +kernel)
set_option maxRecDepth 20000 in
theorem gX3_itemNumber_X3_numberOf : GoodIn wsX3_itemNumber (va_wsS RX3 218 yX3_numberOf wsX3_numberOf) := goodIn_app (goodIn_of _ (by decide +kernel)) ggX3_itemNumber_X3_numberOf
theorem dX3_itemNumber_0 : decode cX3_itemNumber 0 = .ok (.aload_n 0, 1) := by decide +kernel
theorem dX3_itemNumber_1 : decode cX3_itemNumber 1 = .ok (.getfield 93, 3) := by decide +kernel
theorem dX3_itemNumber_4 : decode cX3_itemNumber 4 = .ok (.iload_n 1, 1) := by decide +kernel
theorem dX3_itemNumber_5 : decode cX3_itemNumber 5 = .ok (.aaload, 1) := by decide +kernel
theorem dX3_itemNumber_6 : decode cX3_itemNumber 6 = .ok (.invokestatic 218, 3) := by decide +kernel
theorem dX3_itemNumber_9 : decode cX3_itemNumber 9 = .ok (.ireturn, 1) := by decide +kernel
set_option maxRecDepth 20000 in
theorem ggX3_hasLaterVersion_X3_itemNumber : GoodIn wsX3_hasLaterVersion wsX3_itemNumber := goodIn_r _ [5, 1, 6, 7, 4, 8, 9, 15, 16, 17, 18, 19, 20, 21, 22, 23, 24] (by decide +kernel) (by decide +kernel)
set_option maxRecDepth 20000 in
theorem gX3_hasLaterVersion_X3_itemNumber : GoodIn wsX3_hasLaterVersion (va_wsS RX3 116 yX3_itemNumber wsX3_itemNumber) := goodIn_app (goodIn_of _ (by decide +kernel)) ggX3_hasLaterVersion_X3_itemNumber
set_option maxRecDepth 20000 in
theorem ggX3_hasLaterVersion_X3_newestNumber : GoodIn wsX3_hasLaterVersion wsX3_newestNumber := goodIn_r _ [13, 14, 6, 7, 4, 8, 9, 25, 26, 27, 28, 29, 30, 20, 21, 22, 23, 24] (by decide +kernel) (by decide +kernel)
set_option maxRecDepth 20000 in
theorem gX3_hasLaterVersion_X3_newestNumber : GoodIn wsX3_hasLaterVersion (wsV RX3 54 RX3 yX3_newestNumber wsX3_newestNumber) := goodIn_app (goodIn_of _ (by decide +kernel)) ggX3_hasLaterVersion_X3_newestNumber
theorem dX3_hasLaterVersion_0 : decode cX3_hasLaterVersion 0 = .ok (.aload_n 1, 1) := by decide +kernel
theorem dX3_hasLaterVersion_1 : decode cX3_hasLaterVersion 1 = .ok (.getfield 93, 3) := by decide +kernel
theorem dX3_hasLaterVersion_4 : decode cX3_hasLaterVersion 4 = .ok (.iload_n 2, 1) := by decide +kernel
theorem dX3_hasLaterVersion_5 : decode cX3_hasLaterVersion 5 = .ok (.aaload, 1) := by decide +kernel
theorem dX3_hasLaterVersion_6 : decode cX3_hasLaterVersion 6 = .ok (.ifnull 20, 3) := by decide +kernel
theorem dX3_hasLaterVersion_9 : decode cX3_hasLaterVersion 9 = .ok (.aload_n 1, 1) := by decide +kernel
theorem dX3_hasLaterVersion_10 : decode cX3_hasLaterVersion 10 = .ok (.iload_n 2, 1) := by decide +kernel
theorem dX3_hasLaterVersion_11 : decode cX3_hasLaterVersion 11 = .ok (.invokestatic 116, 3) := by decide +kernel
theorem dX3_hasLaterVersion_14 : decode cX3_hasLaterVersion 14 = .ok (.aload_n 0, 1) := by decide +kernel
theorem dX3_hasLaterVersion_15 : decode cX3_hasLaterVersion 15 = .ok (.iload_n 2, 1) := by decide +kernel
theorem dX3_hasLaterVersion_16 : decode cX3_hasLaterVersion 16 = .ok (.invokevirtual 54, 3) := by decide +kernel
theorem dX3_hasLaterVersion_19 : decode cX3_hasLaterVersion 19 = .ok (.if_icmp .ge 7, 3) := by decide +kernel
theorem dX3_hasLaterVersion_22 : decode cX3_hasLaterVersion 22 = .ok (.iconst 1, 1) := by decide +kernel
theorem dX3_hasLaterVersion_23 : decode cX3_hasLaterVersion 23 = .ok (.goto 4, 3) := by decide +kernel
theorem dX3_hasLaterVersion_26 : decode cX3_hasLaterVersion 26 = .ok (.iconst 0, 1) := by decide +kernel
theorem dX3_hasLaterVersion_27 : decode cX3_hasLaterVersion 27 = .ok (.ireturn, 1) := by decide +kernel
set_option maxRecDepth 20000 in
theorem ggX3_obstacle_X0_clauseSet : GoodIn wsX3_obstacle wsX0_clauseSet := goodIn_r _ [7, 8, 29, 30, 31, 32, 33] (by decide +kernel) (by decide +kernel)
set_option maxRecDepth 20000 in
theorem gX3_obstacle_X0_clauseSet : GoodIn wsX3_obstacle (wsV RX3 222 RX0 yX0_clauseSet wsX0_clauseSet) := goodIn_app (goodIn_of _ (by decide +kernel)) ggX3_obstacle_X0_clauseSet
set_option maxRecDepth 20000 in
theorem ggX3_obstacle_X0_isDraft : GoodIn wsX3_obstacle wsX0_isDraft := goodIn_r _ [12, 13, 29, 30, 31, 32, 33] (by decide +kernel) (by decide +kernel)
set_option maxRecDepth 20000 in
theorem gX3_obstacle_X0_isDraft : GoodIn wsX3_obstacle (wsV RX3 120 RX0 yX0_isDraft wsX0_isDraft) := goodIn_app (goodIn_of _ (by decide +kernel)) ggX3_obstacle_X0_isDraft
set_option maxRecDepth 20000 in
theorem ggX3_obstacle_X0_isAgreed : GoodIn wsX3_obstacle wsX0_isAgreed := goodIn_r _ [17, 8, 18, 29, 30, 31, 32, 33] (by decide +kernel) (by decide +kernel)
set_option maxRecDepth 20000 in
theorem gX3_obstacle_X0_isAgreed : GoodIn wsX3_obstacle (wsV RX3 225 RX0 yX0_isAgreed wsX0_isAgreed) := goodIn_app (goodIn_of _ (by decide +kernel)) ggX3_obstacle_X0_isAgreed
set_option maxRecDepth 20000 in
theorem ggX3_obstacle_X3_unionOver : GoodIn wsX3_obstacle wsX3_unionOver := goodIn_r _ [22] (by decide +kernel) (by decide +kernel)
set_option maxRecDepth 20000 in
theorem gX3_obstacle_X3_unionOver : GoodIn wsX3_obstacle (va_wsS RX3 228 yX3_unionOver wsX3_unionOver) := goodIn_app (goodIn_of _ (by decide +kernel)) ggX3_obstacle_X3_unionOver
theorem dX3_obstacle_0 : decode cX3_obstacle 0 = .ok (.aload_n 1, 1) := by decide +kernel
theorem dX3_obstacle_1 : decode cX3_obstacle 1 = .ok (.invokevirtual 222, 3) := by decide +kernel
theorem dX3_obstacle_4 : decode cX3_obstacle 4 = .ok (.istore_n 2, 1) := by decide +kernel
theorem dX3_obstacle_5 : decode cX3_obstacle 5 = .ok (.aload_n 1, 1) := by decide +kernel
theorem dX3_obstacle_6 : decode cX3_obstacle 6 = .ok (.invokevirtual 120, 3) := by decide +kernel
theorem dX3_obstacle_9 : decode cX3_obstacle 9 = .ok (.ifCond .ne 5, 3) := by decide +kernel
theorem dX3_obstacle_12 : decode cX3_obstacle 12 = .ok (.iconst 1, 1) := by decide +kernel
theorem dX3_obstacle_13 : decode cX3_obstacle 13 = .ok (.ireturn, 1) := by decide +kernel
theorem dX3_obstacle_14 : decode cX3_obstacle 14 = .ok (.iload_n 2, 1) := by decide +kernel
theorem dX3_obstacle_15 : decode cX3_obstacle 15 = .ok (.ifCond .ne 5, 3) := by decide +kernel
theorem dX3_obstacle_18 : decode cX3_obstacle 18 = .ok (.iconst 2, 1) := by decide +kernel
theorem dX3_obstacle_19 : decode cX3_obstacle 19 = .ok (.ireturn, 1) := by decide +kernel
theorem dX3_obstacle_20 : decode cX3_obstacle 20 = .ok (.aload_n 1, 1) := by decide +kernel
theorem dX3_obstacle_21 : decode cX3_obstacle 21 = .ok (.invokevirtual 225, 3) := by decide +kernel
theorem dX3_obstacle_24 : decode cX3_obstacle 24 = .ok (.ifCond .ne 5, 3) := by decide +kernel
theorem dX3_obstacle_27 : decode cX3_obstacle 27 = .ok (.iconst 3, 1) := by decide +kernel
theorem dX3_obstacle_28 : decode cX3_obstacle 28 = .ok (.ireturn, 1) := by decide +kernel
theorem dX3_obstacle_29 : decode cX3_obstacle 29 = .ok (.iload_n 2, 1) := by decide +kernel
theorem dX3_obstacle_30 : decode cX3_obstacle 30 = .ok (.aload_n 0, 1) := by decide +kernel
theorem dX3_obstacle_31 : decode cX3_obstacle 31 = .ok (.getfield 15, 3) := by decide +kernel
theorem dX3_obstacle_34 : decode cX3_obstacle 34 = .ok (.invokestatic 228, 3) := by decide +kernel
theorem dX3_obstacle_37 : decode cX3_obstacle 37 = .ok (.iload_n 2, 1) := by decide +kernel
theorem dX3_obstacle_38 : decode cX3_obstacle 38 = .ok (.iconst (-1), 1) := by decide +kernel
theorem dX3_obstacle_39 : decode cX3_obstacle 39 = .ok (.ixor, 1) := by decide +kernel
theorem dX3_obstacle_40 : decode cX3_obstacle 40 = .ok (.iand, 1) := by decide +kernel
theorem dX3_obstacle_41 : decode cX3_obstacle 41 = .ok (.ifCond .eq 5, 3) := by decide +kernel
theorem dX3_obstacle_44 : decode cX3_obstacle 44 = .ok (.iconst 4, 1) := by decide +kernel
theorem dX3_obstacle_45 : decode cX3_obstacle 45 = .ok (.ireturn, 1) := by decide +kernel
theorem dX3_obstacle_46 : decode cX3_obstacle 46 = .ok (.iload_n 2, 1) := by decide +kernel
theorem dX3_obstacle_47 : decode cX3_obstacle 47 = .ok (.aload_n 0, 1) := by decide +kernel
theorem dX3_obstacle_48 : decode cX3_obstacle 48 = .ok (.getfield 19, 3) := by decide +kernel
theorem dX3_obstacle_51 : decode cX3_obstacle 51 = .ok (.invokestatic 228, 3) := by decide +kernel
theorem dX3_obstacle_54 : decode cX3_obstacle 54 = .ok (.iload_n 2, 1) := by decide +kernel
theorem dX3_obstacle_55 : decode cX3_obstacle 55 = .ok (.iand, 1) := by decide +kernel
theorem dX3_obstacle_56 : decode cX3_obstacle 56 = .ok (.ifCond .eq 7, 3) := by decide +kernel
theorem dX3_obstacle_59 : decode cX3_obstacle 59 = .ok (.iconst 5, 1) := by decide +kernel
theorem dX3_obstacle_60 : decode cX3_obstacle 60 = .ok (.goto 4, 3) := by decide +kernel
theorem dX3_obstacle_63 : decode cX3_obstacle 63 = .ok (.iconst 0, 1) := by decide +kernel
theorem dX3_obstacle_64 : decode cX3_obstacle 64 = .ok (.ireturn, 1) := by decide +kernel
theorem dX3_unionOver_0 : decode cX3_unionOver 0 = .ok (.iconst 0, 1) := by decide +kernel
theorem dX3_unionOver_1 : decode cX3_unionOver 1 = .ok (.istore_n 2, 1) := by decide +kernel
theorem dX3_unionOver_2 : decode cX3_unionOver 2 = .ok (.iconst 0, 1) := by decide +kernel
theorem dX3_unionOver_3 : decode cX3_unionOver 3 = .ok (.istore_n 3, 1) := by decide +kernel
theorem dX3_unionOver_4 : decode cX3_unionOver 4 = .ok (.iload_n 3, 1) := by decide +kernel
theorem dX3_unionOver_5 : decode cX3_unionOver 5 = .ok (.bipush 10, 2) := by decide +kernel
theorem dX3_unionOver_7 : decode cX3_unionOver 7 = .ok (.if_icmp .ge 23, 3) := by decide +kernel
theorem dX3_unionOver_10 : decode cX3_unionOver 10 = .ok (.iload_n 0, 1) := by decide +kernel
theorem dX3_unionOver_11 : decode cX3_unionOver 11 = .ok (.iconst 1, 1) := by decide +kernel
theorem dX3_unionOver_12 : decode cX3_unionOver 12 = .ok (.iload_n 3, 1) := by decide +kernel
theorem dX3_unionOver_13 : decode cX3_unionOver 13 = .ok (.ishl, 1) := by decide +kernel
theorem dX3_unionOver_14 : decode cX3_unionOver 14 = .ok (.iand, 1) := by decide +kernel
theorem dX3_unionOver_15 : decode cX3_unionOver 15 = .ok (.ifCond .eq 9, 3) := by decide +kernel
theorem dX3_unionOver_18 : decode cX3_unionOver 18 = .ok (.iload_n 2, 1) := by decide +kernel
theorem dX3_unionOver_19 : decode cX3_unionOver 19 = .ok (.aload_n 1, 1) := by decide +kernel
theorem dX3_unionOver_20 : decode cX3_unionOver 20 = .ok (.iload_n 3, 1) := by decide +kernel
theorem dX3_unionOver_21 : decode cX3_unionOver 21 = .ok (.iaload, 1) := by decide +kernel
theorem dX3_unionOver_22 : decode cX3_unionOver 22 = .ok (.ior, 1) := by decide +kernel
theorem dX3_unionOver_23 : decode cX3_unionOver 23 = .ok (.istore_n 2, 1) := by decide +kernel
theorem dX3_unionOver_24 : decode cX3_unionOver 24 = .ok (.iinc 3 1, 3) := by decide +kernel
theorem dX3_unionOver_27 : decode cX3_unionOver 27 = .ok (.goto (-23), 3) := by decide +kernel
theorem dX3_unionOver_30 : decode cX3_unionOver 30 = .ok (.iload_n 2, 1) := by decide +kernel
theorem dX3_unionOver_31 : decode cX3_unionOver 31 = .ok (.ireturn, 1) := by decide +kernel
set_option maxRecDepth 20000 in
theorem ggX3_makeDuties_X1_init : GoodIn wsX3_makeDuties wsX1_init := goodIn_r _ [10, 11, 12, 13, 14, 15, 16, 17, 85, 86, 87, 88] (by decide +kernel) (by decide +kernel)
set_option maxRecDepth 20000 in
theorem gX3_makeDuties_X1_init : GoodIn wsX3_makeDuties (wsX1_init) := ggX3_makeDuties_X1_init
set_option maxRecDepth 20000 in
theorem ggX3_makeDuties_Jx4a65c_add_9ea2d : GoodIn wsX3_makeDuties wsJx4a65c_add_9ea2d := goodIn_r _ [22, 23, 24, 25, 26, 27, 28, 29, 21, 30, 31, 32, 33, 34, 35, 36, 37, 38, 39, 40, 41, 42, 43, 44, 45, 46, 47, 48, 49, 50, 51, 52, 53, 54, 55, 56, 57, 58, 59, 60, 61, 62, 63, 64, 65, 66, 67, 68, 69, 70, 71, 72, 73, 94, 95, 96] (by decide +kernel) (by decide +kernel)
set_option maxRecDepth 20000 in
theorem gX3_makeDuties_Jx4a65c_add_9ea2d : GoodIn wsX3_makeDuties (wsV RX3 79 RJx4a65c yJx4a65c_add_9ea2d wsJx4a65c_add_9ea2d) := goodIn_app (goodIn_of _ (by decide +kernel)) ggX3_makeDuties_Jx4a65c_add_9ea2d
theorem dX3_makeDuties_0 : decode cX3_makeDuties 0 = .ok (.iconst 0, 1) := by decide +kernel
theorem dX3_makeDuties_1 : decode cX3_makeDuties 1 = .ok (.istore_n 2, 1) := by decide +kernel
theorem dX3_makeDuties_2 : decode cX3_makeDuties 2 = .ok (.iconst 0, 1) := by decide +kernel
theorem dX3_makeDuties_3 : decode cX3_makeDuties 3 = .ok (.istore_n 3, 1) := by decide +kernel
theorem dX3_makeDuties_4 : decode cX3_makeDuties 4 = .ok (.iload_n 3, 1) := by decide +kernel
theorem dX3_makeDuties_5 : decode cX3_makeDuties 5 = .ok (.bipush 10, 2) := by decide +kernel
theorem dX3_makeDuties_7 : decode cX3_makeDuties 7 = .ok (.if_icmp .ge 53, 3) := by decide +kernel
theorem dX3_makeDuties_10 : decode cX3_makeDuties 10 = .ok (.aload_n 1, 1) := by decide +kernel
theorem dX3_makeDuties_11 : decode cX3_makeDuties 11 = .ok (.getfield 93, 3) := by decide +kernel
theorem dX3_makeDuties_14 : decode cX3_makeDuties 14 = .ok (.iload_n 3, 1) := by decide +kernel
theorem dX3_makeDuties_15 : decode cX3_makeDuties 15 = .ok (.aaload, 1) := by decide +kernel
theorem dX3_makeDuties_16 : decode cX3_makeDuties 16 = .ok (.astore 4, 2) := by decide +kernel
theorem dX3_makeDuties_18 : decode cX3_makeDuties 18 = .ok (.aload 4, 2) := by decide +kernel
theorem dX3_makeDuties_20 : decode cX3_makeDuties 20 = .ok (.ifnull 34, 3) := by decide +kernel
theorem dX3_makeDuties_23 : decode cX3_makeDuties 23 = .ok (.aload_n 0, 1) := by decide +kernel
theorem dX3_makeDuties_24 : decode cX3_makeDuties 24 = .ok (.getfield 29, 3) := by decide +kernel
theorem dX3_makeDuties_27 : decode cX3_makeDuties 27 = .ok (.new 152, 3) := by decide +kernel
theorem dX3_makeDuties_30 : decode cX3_makeDuties 30 = .ok (.dup, 1) := by decide +kernel
theorem dX3_makeDuties_31 : decode cX3_makeDuties 31 = .ok (.aload_n 1, 1) := by decide +kernel
theorem dX3_makeDuties_32 : decode cX3_makeDuties 32 = .ok (.aload 4, 2) := by decide +kernel
theorem dX3_makeDuties_34 : decode cX3_makeDuties 34 = .ok (.aload_n 0, 1) := by decide +kernel
theorem dX3_makeDuties_35 : decode cX3_makeDuties 35 = .ok (.getfield 32, 3) := by decide +kernel
theorem dX3_makeDuties_38 : decode cX3_makeDuties 38 = .ok (.aload 4, 2) := by decide +kernel
theorem dX3_makeDuties_40 : decode cX3_makeDuties 40 = .ok (.getfield 232, 3) := by decide +kernel
theorem dX3_makeDuties_43 : decode cX3_makeDuties 43 = .ok (.iadd, 1) := by decide +kernel
theorem dX3_makeDuties_44 : decode cX3_makeDuties 44 = .ok (.invokespecial 235, 3) := by decide +kernel
theorem dX3_makeDuties_47 : decode cX3_makeDuties 47 = .ok (.invokevirtual 79, 3) := by decide +kernel
theorem dX3_makeDuties_50 : decode cX3_makeDuties 50 = .ok (.pop, 1) := by decide +kernel
theorem dX3_makeDuties_51 : decode cX3_makeDuties 51 = .ok (.iinc 2 1, 3) := by decide +kernel
theorem dX3_makeDuties_54 : decode cX3_makeDuties 54 = .ok (.iinc 3 1, 3) := by decide +kernel
theorem dX3_makeDuties_57 : decode cX3_makeDuties 57 = .ok (.goto (-53), 3) := by decide +kernel
theorem dX3_makeDuties_60 : decode cX3_makeDuties 60 = .ok (.iload_n 2, 1) := by decide +kernel
theorem dX3_makeDuties_61 : decode cX3_makeDuties 61 = .ok (.ireturn, 1) := by decide +kernel
set_option maxRecDepth 20000 in
theorem ggX3_putOffHeldUpDuties_Jx4a65c_size_8abf5 : GoodIn wsX3_putOffHeldUpDuties wsJx4a65c_size_8abf5 := goodIn_r _ [8, 9, 51, 52, 53] (by decide +kernel) (by decide +kernel)
set_option maxRecDepth 20000 in
theorem gX3_putOffHeldUpDuties_Jx4a65c_size_8abf5 : GoodIn wsX3_putOffHeldUpDuties (wsV RX3 70 RJx4a65c yJx4a65c_size_8abf5 wsJx4a65c_size_8abf5) := goodIn_app (goodIn_of _ (by decide +kernel)) ggX3_putOffHeldUpDuties_Jx4a65c_size_8abf5
set_option maxRecDepth 20000 in
theorem ggX3_putOffHeldUpDuties_Jx4a65c_get_915e3 : GoodIn wsX3_putOffHeldUpDuties wsJx4a65c_get_915e3 := goodIn_r _ [13, 9, 14, 15, 16, 17, 18, 19, 20, 21, 22, 23, 24, 7, 25, 26, 51, 52, 53] (by decide +kernel) (by decide +kernel)
set_option maxRecDepth 20000 in
theorem gX3_putOffHeldUpDuties_Jx4a65c_get_915e3 : GoodIn wsX3_putOffHeldUpDuties (wsV RX3 209 RJx4a65c yJx4a65c_get_915e3 wsJx4a65c_get_915e3) := goodIn_app (goodIn_of _ (by decide +kernel)) ggX3_putOffHeldUpDuties_Jx4a65c_get_915e3
set_option maxRecDepth 20000 in
theorem ggX3_putOffHeldUpDuties_X1_isHeldUp : GoodIn wsX3_putOffHeldUpDuties wsX1_isHeldUp := goodIn_r _ [31, 32, 33, 34, 35, 36, 37, 38, 30, 39, 40, 47, 48, 49, 50, 54, 55, 56, 57, 58, 59, 60, 61, 62, 63] (by decide +kernel) (by decide +kernel)
set_option maxRecDepth 20000 in
theorem gX3_putOffHeldUpDuties_X1_isHeldUp : GoodIn wsX3_putOffHeldUpDuties (wsV RX3 159 RX1 yX1_isHeldUp wsX1_isHeldUp) := goodIn_app (goodIn_of _ (by decide +kernel)) ggX3_putOffHeldUpDuties_X1_isHeldUp
theorem dX3_putOffHeldUpDuties_0 : decode cX3_putOffHeldUpDuties 0 = .ok (.iconst 0, 1) := by decide +kernel
theorem dX3_putOffHeldUpDuties_1 : decode cX3_putOffHeldUpDuties 1 = .ok (.istore_n 1, 1) := by decide +kernel
theorem dX3_putOffHeldUpDuties_2 : decode cX3_putOffHeldUpDuties 2 = .ok (.iload_n 1, 1) := by decide +kernel
theorem dX3_putOffHeldUpDuties_3 : decode cX3_putOffHeldUpDuties 3 = .ok (.aload_n 0, 1) := by decide +kernel
theorem dX3_putOffHeldUpDuties_4 : decode cX3_putOffHeldUpDuties 4 = .ok (.getfield 29, 3) := by decide +kernel
theorem dX3_putOffHeldUpDuties_7 : decode cX3_putOffHeldUpDuties 7 = .ok (.invokevirtual 70, 3) := by decide +kernel
theorem dX3_putOffHeldUpDuties_10 : decode cX3_putOffHeldUpDuties 10 = .ok (.if_icmp .ge 38, 3) := by decide +kernel
theorem dX3_putOffHeldUpDuties_13 : decode cX3_putOffHeldUpDuties 13 = .ok (.aload_n 0, 1) := by decide +kernel
theorem dX3_putOffHeldUpDuties_14 : decode cX3_putOffHeldUpDuties 14 = .ok (.getfield 29, 3) := by decide +kernel
theorem dX3_putOffHeldUpDuties_17 : decode cX3_putOffHeldUpDuties 17 = .ok (.iload_n 1, 1) := by decide +kernel
theorem dX3_putOffHeldUpDuties_18 : decode cX3_putOffHeldUpDuties 18 = .ok (.invokevirtual 209, 3) := by decide +kernel
theorem dX3_putOffHeldUpDuties_21 : decode cX3_putOffHeldUpDuties 21 = .ok (.checkcast 152, 3) := by decide +kernel
theorem dX3_putOffHeldUpDuties_24 : decode cX3_putOffHeldUpDuties 24 = .ok (.astore_n 2, 1) := by decide +kernel
theorem dX3_putOffHeldUpDuties_25 : decode cX3_putOffHeldUpDuties 25 = .ok (.aload_n 2, 1) := by decide +kernel
theorem dX3_putOffHeldUpDuties_26 : decode cX3_putOffHeldUpDuties 26 = .ok (.invokevirtual 159, 3) := by decide +kernel
theorem dX3_putOffHeldUpDuties_29 : decode cX3_putOffHeldUpDuties 29 = .ok (.ifCond .eq 13, 3) := by decide +kernel
theorem dX3_putOffHeldUpDuties_32 : decode cX3_putOffHeldUpDuties 32 = .ok (.aload_n 2, 1) := by decide +kernel
theorem dX3_putOffHeldUpDuties_33 : decode cX3_putOffHeldUpDuties 33 = .ok (.dup, 1) := by decide +kernel
theorem dX3_putOffHeldUpDuties_34 : decode cX3_putOffHeldUpDuties 34 = .ok (.getfield 156, 3) := by decide +kernel
theorem dX3_putOffHeldUpDuties_37 : decode cX3_putOffHeldUpDuties 37 = .ok (.iconst 1, 1) := by decide +kernel
theorem dX3_putOffHeldUpDuties_38 : decode cX3_putOffHeldUpDuties 38 = .ok (.iadd, 1) := by decide +kernel
theorem dX3_putOffHeldUpDuties_39 : decode cX3_putOffHeldUpDuties 39 = .ok (.putfield 156, 3) := by decide +kernel
theorem dX3_putOffHeldUpDuties_42 : decode cX3_putOffHeldUpDuties 42 = .ok (.iinc 1 1, 3) := by decide +kernel
theorem dX3_putOffHeldUpDuties_45 : decode cX3_putOffHeldUpDuties 45 = .ok (.goto (-43), 3) := by decide +kernel
theorem dX3_putOffHeldUpDuties_48 : decode cX3_putOffHeldUpDuties 48 = .ok (.return_, 1) := by decide +kernel
set_option maxRecDepth 20000 in
theorem ggX3_breachUncuredDuties_Jx4a65c_size_8abf5 : GoodIn wsX3_breachUncuredDuties wsJx4a65c_size_8abf5 := goodIn_r _ [10, 11, 56, 57, 58] (by decide +kernel) (by decide +kernel)
set_option maxRecDepth 20000 in
theorem gX3_breachUncuredDuties_Jx4a65c_size_8abf5 : GoodIn wsX3_breachUncuredDuties (wsV RX3 70 RJx4a65c yJx4a65c_size_8abf5 wsJx4a65c_size_8abf5) := goodIn_app (goodIn_of _ (by decide +kernel)) ggX3_breachUncuredDuties_Jx4a65c_size_8abf5
set_option maxRecDepth 20000 in
theorem ggX3_breachUncuredDuties_Jx4a65c_get_915e3 : GoodIn wsX3_breachUncuredDuties wsJx4a65c_get_915e3 := goodIn_r _ [15, 11, 16, 17, 18, 19, 20, 21, 22, 23, 24, 25, 26, 9, 27, 28, 56, 57, 58] (by decide +kernel) (by decide +kernel)
set_option maxRecDepth 20000 in
theorem gX3_breachUncuredDuties_Jx4a65c_get_915e3 : GoodIn wsX3_breachUncuredDuties (wsV RX3 209 RJx4a65c yJx4a65c_get_915e3 wsJx4a65c_get_915e3) := goodIn_app (goodIn_of _ (by decide +kernel)) ggX3_breachUncuredDuties_Jx4a65c_get_915e3
set_option maxRecDepth 20000 in
theorem ggX3_breachUncuredDuties_X1_move : GoodIn wsX3_breachUncuredDuties wsX1_move := goodIn_r _ [33, 34, 35, 52, 53, 54, 55] (by decide +kernel) (by decide +kernel)
set_option maxRecDepth 20000 in
theorem gX3_breachUncuredDuties_X1_move : GoodIn wsX3_breachUncuredDuties (wsV RX3 167 RX1 yX1_move wsX1_move) := goodIn_app (goodIn_of _ (by decide +kernel)) ggX3_breachUncuredDuties_X1_move
set_option maxRecDepth 20000 in
theorem ggX3_breachUncuredDuties_X1_countBreach : GoodIn wsX3_breachUncuredDuties wsX1_countBreach := goodIn_r _ [39, 40, 41, 42, 43, 44, 45, 52, 53, 54, 55, 59, 60, 61, 62, 63, 64, 65, 66, 67, 68] (by decide +kernel) (by decide +kernel)
set_option maxRecDepth 20000 in
theorem gX3_breachUncuredDuties_X1_countBreach : GoodIn wsX3_breachUncuredDuties (wsV RX3 181 RX1 yX1_countBreach wsX1_countBreach) := goodIn_app (goodIn_of _ (by decide +kernel)) ggX3_breachUncuredDuties_X1_countBreach
theorem dX3_breachUncuredDuties_0 : decode cX3_breachUncuredDuties 0 = .ok (.iconst 0, 1) := by decide +kernel
theorem dX3_breachUncuredDuties_1 : decode cX3_breachUncuredDuties 1 = .ok (.istore_n 1, 1) := by decide +kernel
theorem dX3_breachUncuredDuties_2 : decode cX3_breachUncuredDuties 2 = .ok (.iconst 0, 1) := by decide +kernel
theorem dX3_breachUncuredDuties_3 : decode cX3_breachUncuredDuties 3 = .ok (.istore_n 2, 1) := by decide +kernel
theorem dX3_breachUncuredDuties_4 : decode cX3_breachUncuredDuties 4 = .ok (.iload_n 2, 1) := by decide +kernel
theorem dX3_breachUncuredDuties_5 : decode cX3_breachUncuredDuties 5 = .ok (.aload_n 0, 1) := by decide +kernel
theorem dX3_breachUncuredDuties_6 : decode cX3_breachUncuredDuties 6 = .ok (.getfield 29, 3) := by decide +kernel
theorem dX3_breachUncuredDuties_9 : decode cX3_breachUncuredDuties 9 = .ok (.invokevirtual 70, 3) := by decide +kernel
theorem dX3_breachUncuredDuties_12 : decode cX3_breachUncuredDuties 12 = .ok (.if_icmp .ge 57, 3) := by decide +kernel
theorem dX3_breachUncuredDuties_15 : decode cX3_breachUncuredDuties 15 = .ok (.aload_n 0, 1) := by decide +kernel
theorem dX3_breachUncuredDuties_16 : decode cX3_breachUncuredDuties 16 = .ok (.getfield 29, 3) := by decide +kernel
theorem dX3_breachUncuredDuties_19 : decode cX3_breachUncuredDuties 19 = .ok (.iload_n 2, 1) := by decide +kernel
theorem dX3_breachUncuredDuties_20 : decode cX3_breachUncuredDuties 20 = .ok (.invokevirtual 209, 3) := by decide +kernel
theorem dX3_breachUncuredDuties_23 : decode cX3_breachUncuredDuties 23 = .ok (.checkcast 152, 3) := by decide +kernel
theorem dX3_breachUncuredDuties_26 : decode cX3_breachUncuredDuties 26 = .ok (.astore_n 3, 1) := by decide +kernel
theorem dX3_breachUncuredDuties_27 : decode cX3_breachUncuredDuties 27 = .ok (.aload_n 3, 1) := by decide +kernel
theorem dX3_breachUncuredDuties_28 : decode cX3_breachUncuredDuties 28 = .ok (.getfield 151, 3) := by decide +kernel
theorem dX3_breachUncuredDuties_31 : decode cX3_breachUncuredDuties 31 = .ok (.iconst 2, 1) := by decide +kernel
theorem dX3_breachUncuredDuties_32 : decode cX3_breachUncuredDuties 32 = .ok (.if_icmp .ne 31, 3) := by decide +kernel
theorem dX3_breachUncuredDuties_35 : decode cX3_breachUncuredDuties 35 = .ok (.aload_n 0, 1) := by decide +kernel
theorem dX3_breachUncuredDuties_36 : decode cX3_breachUncuredDuties 36 = .ok (.getfield 32, 3) := by decide +kernel
theorem dX3_breachUncuredDuties_39 : decode cX3_breachUncuredDuties 39 = .ok (.aload_n 3, 1) := by decide +kernel
theorem dX3_breachUncuredDuties_40 : decode cX3_breachUncuredDuties 40 = .ok (.getfield 156, 3) := by decide +kernel
theorem dX3_breachUncuredDuties_43 : decode cX3_breachUncuredDuties 43 = .ok (.if_icmp .le 20, 3) := by decide +kernel
theorem dX3_breachUncuredDuties_46 : decode cX3_breachUncuredDuties 46 = .ok (.aload_n 3, 1) := by decide +kernel
theorem dX3_breachUncuredDuties_47 : decode cX3_breachUncuredDuties 47 = .ok (.iconst 3, 1) := by decide +kernel
theorem dX3_breachUncuredDuties_48 : decode cX3_breachUncuredDuties 48 = .ok (.aload_n 0, 1) := by decide +kernel
theorem dX3_breachUncuredDuties_49 : decode cX3_breachUncuredDuties 49 = .ok (.getfield 32, 3) := by decide +kernel
theorem dX3_breachUncuredDuties_52 : decode cX3_breachUncuredDuties 52 = .ok (.invokevirtual 167, 3) := by decide +kernel
theorem dX3_breachUncuredDuties_55 : decode cX3_breachUncuredDuties 55 = .ok (.aload_n 3, 1) := by decide +kernel
theorem dX3_breachUncuredDuties_56 : decode cX3_breachUncuredDuties 56 = .ok (.iconst 1, 1) := by decide +kernel
theorem dX3_breachUncuredDuties_57 : decode cX3_breachUncuredDuties 57 = .ok (.invokevirtual 181, 3) := by decide +kernel
theorem dX3_breachUncuredDuties_60 : decode cX3_breachUncuredDuties 60 = .ok (.iinc 1 1, 3) := by decide +kernel
theorem dX3_breachUncuredDuties_63 : decode cX3_breachUncuredDuties 63 = .ok (.iinc 2 1, 3) := by decide +kernel
theorem dX3_breachUncuredDuties_66 : decode cX3_breachUncuredDuties 66 = .ok (.goto (-62), 3) := by decide +kernel
theorem dX3_breachUncuredDuties_69 : decode cX3_breachUncuredDuties 69 = .ok (.iload_n 1, 1) := by decide +kernel
theorem dX3_breachUncuredDuties_70 : decode cX3_breachUncuredDuties 70 = .ok (.ireturn, 1) := by decide +kernel
theorem dX4_init_0 : decode cX4_init 0 = .ok (.aload_n 0, 1) := by decide +kernel
theorem dX4_init_1 : decode cX4_init 1 = .ok (.invokespecial 1, 3) := by decide +kernel
theorem dX4_init_4 : decode cX4_init 4 = .ok (.aload_n 0, 1) := by decide +kernel
theorem dX4_init_5 : decode cX4_init 5 = .ok (.bipush 10, 2) := by decide +kernel
theorem dX4_init_7 : decode cX4_init 7 = .ok (.newarray .int, 2) := by decide +kernel
theorem dX4_init_9 : decode cX4_init 9 = .ok (.putfield 7, 3) := by decide +kernel
theorem dX4_init_12 : decode cX4_init 12 = .ok (.aload_n 0, 1) := by decide +kernel
theorem dX4_init_13 : decode cX4_init 13 = .ok (.bipush 90, 2) := by decide +kernel
theorem dX4_init_15 : decode cX4_init 15 = .ok (.newarray .int, 2) := by decide +kernel
theorem dX4_init_17 : decode cX4_init 17 = .ok (.putfield 13, 3) := by decide +kernel
theorem dX4_init_20 : decode cX4_init 20 = .ok (.aload_n 0, 1) := by decide +kernel
theorem dX4_init_21 : decode cX4_init 21 = .ok (.bipush 90, 2) := by decide +kernel
theorem dX4_init_23 : decode cX4_init 23 = .ok (.newarray .int, 2) := by decide +kernel
theorem dX4_init_25 : decode cX4_init 25 = .ok (.putfield 16, 3) := by decide +kernel
theorem dX4_init_28 : decode cX4_init 28 = .ok (.aload_n 0, 1) := by decide +kernel
theorem dX4_init_29 : decode cX4_init 29 = .ok (.bipush 90, 2) := by decide +kernel
theorem dX4_init_31 : decode cX4_init 31 = .ok (.newarray .int, 2) := by decide +kernel
theorem dX4_init_33 : decode cX4_init 33 = .ok (.putfield 19, 3) := by decide +kernel
theorem dX4_init_36 : decode cX4_init 36 = .ok (.aload_n 0, 1) := by decide +kernel
theorem dX4_init_37 : decode cX4_init 37 = .ok (.bipush 90, 2) := by decide +kernel
theorem dX4_init_39 : decode cX4_init 39 = .ok (.newarray .int, 2) := by decide +kernel
theorem dX4_init_41 : decode cX4_init 41 = .ok (.putfield 22, 3) := by decide +kernel
theorem dX4_init_44 : decode cX4_init 44 = .ok (.aload_n 0, 1) := by decide +kernel
theorem dX4_init_45 : decode cX4_init 45 = .ok (.bipush 10, 2) := by decide +kernel
theorem dX4_init_47 : decode cX4_init 47 = .ok (.newarray .int, 2) := by decide +kernel
theorem dX4_init_49 : decode cX4_init 49 = .ok (.putfield 25, 3) := by decide +kernel
theorem dX4_init_52 : decode cX4_init 52 = .ok (.aload_n 0, 1) := by decide +kernel
theorem dX4_init_53 : decode cX4_init 53 = .ok (.bipush 10, 2) := by decide +kernel
theorem dX4_init_55 : decode cX4_init 55 = .ok (.newarray .int, 2) := by decide +kernel
theorem dX4_init_57 : decode cX4_init 57 = .ok (.putfield 28, 3) := by decide +kernel
theorem dX4_init_60 : decode cX4_init 60 = .ok (.aload_n 0, 1) := by decide +kernel
theorem dX4_init_61 : decode cX4_init 61 = .ok (.bipush 10, 2) := by decide +kernel
theorem dX4_init_63 : decode cX4_init 63 = .ok (.newarray .boolean, 2) := by decide +kernel
theorem dX4_init_65 : decode cX4_init 65 = .ok (.putfield 31, 3) := by decide +kernel
theorem dX4_init_68 : decode cX4_init 68 = .ok (.aload_n 0, 1) := by decide +kernel
theorem dX4_init_69 : decode cX4_init 69 = .ok (.bipush 10, 2) := by decide +kernel
theorem dX4_init_71 : decode cX4_init 71 = .ok (.newarray .int, 2) := by decide +kernel
theorem dX4_init_73 : decode cX4_init 73 = .ok (.putfield 35, 3) := by decide +kernel
theorem dX4_init_76 : decode cX4_init 76 = .ok (.aload_n 0, 1) := by decide +kernel
theorem dX4_init_77 : decode cX4_init 77 = .ok (.bipush 100, 2) := by decide +kernel
theorem dX4_init_79 : decode cX4_init 79 = .ok (.newarray .int, 2) := by decide +kernel
theorem dX4_init_81 : decode cX4_init 81 = .ok (.putfield 38, 3) := by decide +kernel
theorem dX4_init_84 : decode cX4_init 84 = .ok (.aload_n 0, 1) := by decide +kernel
theorem dX4_init_85 : decode cX4_init 85 = .ok (.sipush 200, 3) := by decide +kernel
theorem dX4_init_88 : decode cX4_init 88 = .ok (.newarray .int, 2) := by decide +kernel
theorem dX4_init_90 : decode cX4_init 90 = .ok (.putfield 41, 3) := by decide +kernel
theorem dX4_init_93 : decode cX4_init 93 = .ok (.aload_n 0, 1) := by decide +kernel
theorem dX4_init_94 : decode cX4_init 94 = .ok (.bipush 100, 2) := by decide +kernel
theorem dX4_init_96 : decode cX4_init 96 = .ok (.newarray .int, 2) := by decide +kernel
theorem dX4_init_98 : decode cX4_init 98 = .ok (.putfield 44, 3) := by decide +kernel
theorem dX4_init_101 : decode cX4_init 101 = .ok (.aload_n 0, 1) := by decide +kernel
theorem dX4_init_102 : decode cX4_init 102 = .ok (.bipush 100, 2) := by decide +kernel
theorem dX4_init_104 : decode cX4_init 104 = .ok (.newarray .int, 2) := by decide +kernel
theorem dX4_init_106 : decode cX4_init 106 = .ok (.putfield 47, 3) := by decide +kernel
theorem dX4_init_109 : decode cX4_init 109 = .ok (.aload_n 0, 1) := by decide +kernel
theorem dX4_init_110 : decode cX4_init 110 = .ok (.bipush 100, 2) := by decide +kernel
theorem dX4_init_112 : decode cX4_init 112 = .ok (.newarray .int, 2) := by decide +kernel
theorem dX4_init_114 : decode cX4_init 114 = .ok (.putfield 50, 3) := by decide +kernel
theorem dX4_init_117 : decode cX4_init 117 = .ok (.aload_n 0, 1) := by decide +kernel
theorem dX4_init_118 : decode cX4_init 118 = .ok (.bipush 100, 2) := by decide +kernel
theorem dX4_init_120 : decode cX4_init 120 = .ok (.newarray .int, 2) := by decide +kernel
theorem dX4_init_122 : decode cX4_init 122 = .ok (.putfield 53, 3) := by decide +kernel
theorem dX4_init_125 : decode cX4_init 125 = .ok (.aload_n 0, 1) := by decide +kernel
theorem dX4_init_126 : decode cX4_init 126 = .ok (.bipush 100, 2) := by decide +kernel
theorem dX4_init_128 : decode cX4_init 128 = .ok (.newarray .int, 2) := by decide +kernel
theorem dX4_init_130 : decode cX4_init 130 = .ok (.putfield 56, 3) := by decide +kernel
theorem dX4_init_133 : decode cX4_init 133 = .ok (.aload_n 0, 1) := by decide +kernel
theorem dX4_init_134 : decode cX4_init 134 = .ok (.bipush 100, 2) := by decide +kernel
theorem dX4_init_136 : decode cX4_init 136 = .ok (.newarray .int, 2) := by decide +kernel
theorem dX4_init_138 : decode cX4_init 138 = .ok (.putfield 59, 3) := by decide +kernel
theorem dX4_init_141 : decode cX4_init 141 = .ok (.aload_n 0, 1) := by decide +kernel
theorem dX4_init_142 : decode cX4_init 142 = .ok (.bipush 100, 2) := by decide +kernel
theorem dX4_init_144 : decode cX4_init 144 = .ok (.newarray .boolean, 2) := by decide +kernel
theorem dX4_init_146 : decode cX4_init 146 = .ok (.putfield 62, 3) := by decide +kernel
theorem dX4_init_149 : decode cX4_init 149 = .ok (.return_, 1) := by decide +kernel
theorem dX4_thrown_0 : decode cX4_thrown 0 = .ok (.aload_n 0, 1) := by decide +kernel
theorem dX4_thrown_1 : decode cX4_thrown 1 = .ok (.getfield 65, 3) := by decide +kernel
theorem dX4_thrown_4 : decode cX4_thrown 4 = .ok (.ireturn, 1) := by decide +kernel
theorem dX4_in_0 : decode cX4_in 0 = .ok (.iload_n 0, 1) := by decide +kernel
theorem dX4_in_1 : decode cX4_in 1 = .ok (.iload_n 1, 1) := by decide +kernel
theorem dX4_in_2 : decode cX4_in 2 = .ok (.if_icmp .lt 12, 3) := by decide +kernel
theorem dX4_in_5 : decode cX4_in 5 = .ok (.iload_n 0, 1) := by decide +kernel
theorem dX4_in_6 : decode cX4_in 6 = .ok (.iload_n 2, 1) := by decide +kernel
theorem dX4_in_7 : decode cX4_in 7 = .ok (.if_icmp .gt 7, 3) := by decide +kernel
theorem dX4_in_10 : decode cX4_in 10 = .ok (.iconst 1, 1) := by decide +kernel
theorem dX4_in_11 : decode cX4_in 11 = .ok (.goto 4, 3) := by decide +kernel
theorem dX4_in_14 : decode cX4_in 14 = .ok (.iconst 0, 1) := by decide +kernel
theorem dX4_in_15 : decode cX4_in 15 = .ok (.ireturn, 1) := by decide +kernel
set_option maxRecDepth 20000 in
theorem ggX4_isClause_X4_in : GoodIn wsX4_isClause wsX4_in := goodIn_r _ [4] (by decide +kernel) (by decide +kernel)
set_option maxRecDepth 20000 in
theorem gX4_isClause_X4_in : GoodIn wsX4_isClause (va_wsS RX4 69 yX4_in wsX4_in) := goodIn_app (goodIn_of _ (by decide +kernel)) ggX4_isClause_X4_in
theorem dX4_isClause_0 : decode cX4_isClause 0 = .ok (.iload_n 0, 1) := by decide +kernel
theorem dX4_isClause_1 : decode cX4_isClause 1 = .ok (.iconst 0, 1) := by decide +kernel
theorem dX4_isClause_2 : decode cX4_isClause 2 = .ok (.bipush 9, 2) := by decide +kernel
theorem dX4_isClause_4 : decode cX4_isClause 4 = .ok (.invokestatic 69, 3) := by decide +kernel
theorem dX4_isClause_7 : decode cX4_isClause 7 = .ok (.ireturn, 1) := by decide +kernel
set_option maxRecDepth 20000 in
theorem ggX4_isSide_X4_in : GoodIn wsX4_isSide wsX4_in := goodIn_r _ [4] (by decide +kernel) (by decide +kernel)
set_option maxRecDepth 20000 in
theorem gX4_isSide_X4_in : GoodIn wsX4_isSide (va_wsS RX4 69 yX4_in wsX4_in) := goodIn_app (goodIn_of _ (by decide +kernel)) ggX4_isSide_X4_in
theorem dX4_isSide_0 : decode cX4_isSide 0 = .ok (.iload_n 0, 1) := by decide +kernel
theorem dX4_isSide_1 : decode cX4_isSide 1 = .ok (.iconst 0, 1) := by decide +kernel
theorem dX4_isSide_2 : decode cX4_isSide 2 = .ok (.iconst 1, 1) := by decide +kernel
theorem dX4_isSide_3 : decode cX4_isSide 3 = .ok (.invokestatic 69, 3) := by decide +kernel
theorem dX4_isSide_6 : decode cX4_isSide 6 = .ok (.ireturn, 1) := by decide +kernel
set_option maxRecDepth 20000 in
theorem ggX4_isContract_X4_in : GoodIn wsX4_isContract wsX4_in := goodIn_r _ [5] (by decide +kernel) (by decide +kernel)
set_option maxRecDepth 20000 in
theorem gX4_isContract_X4_in : GoodIn wsX4_isContract (va_wsS RX4 69 yX4_in wsX4_in) := goodIn_app (goodIn_of _ (by decide +kernel)) ggX4_isContract_X4_in
theorem dX4_isContract_0 : decode cX4_isContract 0 = .ok (.iload_n 1, 1) := by decide +kernel
theorem dX4_isContract_1 : decode cX4_isContract 1 = .ok (.iconst 0, 1) := by decide +kernel
theorem dX4_isContract_2 : decode cX4_isContract 2 = .ok (.aload_n 0, 1) := by decide +kernel
theorem dX4_isContract_3 : decode cX4_isContract 3 = .ok (.getfield 73, 3) := by decide +kernel
theorem dX4_isContract_6 : decode cX4_isContract 6 = .ok (.iconst 1, 1) := by decide +kernel
theorem dX4_isContract_7 : decode cX4_isContract 7 = .ok (.isub, 1) := by decide +kernel
theorem dX4_isContract_8 : decode cX4_isContract 8 = .ok (.invokestatic 69, 3) := by decide +kernel
theorem dX4_isContract_11 : decode cX4_isContract 11 = .ok (.ireturn, 1) := by decide +kernel
set_option maxRecDepth 20000 in
theorem ggX4_isDuty_X4_in : GoodIn wsX4_isDuty wsX4_in := goodIn_r _ [5] (by decide +kernel) (by decide +kernel)
set_option maxRecDepth 20000 in
theorem gX4_isDuty_X4_in : GoodIn wsX4_isDuty (va_wsS RX4 69 yX4_in wsX4_in) := goodIn_app (goodIn_of _ (by decide +kernel)) ggX4_isDuty_X4_in
theorem dX4_isDuty_0 : decode cX4_isDuty 0 = .ok (.iload_n 1, 1) := by decide +kernel
theorem dX4_isDuty_1 : decode cX4_isDuty 1 = .ok (.iconst 0, 1) := by decide +kernel
theorem dX4_isDuty_2 : decode cX4_isDuty 2 = .ok (.aload_n 0, 1) := by decide +kernel
theorem dX4_isDuty_3 : decode cX4_isDuty 3 = .ok (.getfield 76, 3) := by decide +kernel
theorem dX4_isDuty_6 : decode cX4_isDuty 6 = .ok (.iconst 1, 1) := by decide +kernel
theorem dX4_isDuty_7 : decode cX4_isDuty 7 = .ok (.isub, 1) := by decide +kernel
theorem dX4_isDuty_8 : decode cX4_isDuty 8 = .ok (.invokestatic 69, 3) := by decide +kernel
theorem dX4_isDuty_11 : decode cX4_isDuty 11 = .ok (.ireturn, 1) := by decide +kernel
set_option maxRecDepth 20000 in
theorem ggX4_issue_X4_isClause : GoodIn wsX4_issue wsX4_isClause := goodIn_r _ [10, 11, 12, 9, 13] (by decide +kernel) (by decide +kernel)
set_option maxRecDepth 20000 in
theorem gX4_issue_X4_isClause : GoodIn wsX4_issue (va_wsS RX4 79 yX4_isClause wsX4_isClause) := goodIn_app (goodIn_of _ (by decide +kernel)) ggX4_issue_X4_isClause
set_option maxRecDepth 20000 in
theorem ggX4_issue_X4_isSide : GoodIn wsX4_issue wsX4_isSide := goodIn_r _ [16, 11, 12, 9, 13] (by decide +kernel) (by decide +kernel)
set_option maxRecDepth 20000 in
theorem gX4_issue_X4_isSide : GoodIn wsX4_issue (va_wsS RX4 83 yX4_isSide wsX4_isSide) := goodIn_app (goodIn_of _ (by decide +kernel)) ggX4_issue_X4_isSide
set_option maxRecDepth 20000 in
theorem ggX4_issue_X4_in : GoodIn wsX4_issue wsX4_in := goodIn_r _ [13] (by decide +kernel) (by decide +kernel)
set_option maxRecDepth 20000 in
theorem gX4_issue_X4_in : GoodIn wsX4_issue (va_wsS RX4 69 yX4_in wsX4_in) := goodIn_app (goodIn_of _ (by decide +kernel)) ggX4_issue_X4_in
theorem dX4_issue_0 : decode cX4_issue 0 = .ok (.iload_n 1, 1) := by decide +kernel
theorem dX4_issue_1 : decode cX4_issue 1 = .ok (.invokestatic 79, 3) := by decide +kernel
theorem dX4_issue_4 : decode cX4_issue 4 = .ok (.ifCond .eq 47, 3) := by decide +kernel
theorem dX4_issue_7 : decode cX4_issue 7 = .ok (.iload_n 2, 1) := by decide +kernel
theorem dX4_issue_8 : decode cX4_issue 8 = .ok (.invokestatic 83, 3) := by decide +kernel
theorem dX4_issue_11 : decode cX4_issue 11 = .ok (.ifCond .eq 40, 3) := by decide +kernel
theorem dX4_issue_14 : decode cX4_issue 14 = .ok (.iload_n 3, 1) := by decide +kernel
theorem dX4_issue_15 : decode cX4_issue 15 = .ok (.iconst 0, 1) := by decide +kernel
theorem dX4_issue_16 : decode cX4_issue 16 = .ok (.bipush 100, 2) := by decide +kernel
theorem dX4_issue_18 : decode cX4_issue 18 = .ok (.invokestatic 69, 3) := by decide +kernel
theorem dX4_issue_21 : decode cX4_issue 21 = .ok (.ifCond .eq 30, 3) := by decide +kernel
theorem dX4_issue_24 : decode cX4_issue 24 = .ok (.iload 4, 2) := by decide +kernel
theorem dX4_issue_26 : decode cX4_issue 26 = .ok (.iconst 0, 1) := by decide +kernel
theorem dX4_issue_27 : decode cX4_issue 27 = .ok (.bipush 50, 2) := by decide +kernel
theorem dX4_issue_29 : decode cX4_issue 29 = .ok (.invokestatic 69, 3) := by decide +kernel
theorem dX4_issue_32 : decode cX4_issue 32 = .ok (.ifCond .eq 19, 3) := by decide +kernel
theorem dX4_issue_35 : decode cX4_issue 35 = .ok (.iload 5, 2) := by decide +kernel
theorem dX4_issue_37 : decode cX4_issue 37 = .ok (.iconst 0, 1) := by decide +kernel
theorem dX4_issue_38 : decode cX4_issue 38 = .ok (.sipush 1000, 3) := by decide +kernel
theorem dX4_issue_41 : decode cX4_issue 41 = .ok (.invokestatic 69, 3) := by decide +kernel
theorem dX4_issue_44 : decode cX4_issue 44 = .ok (.ifCond .eq 7, 3) := by decide +kernel
theorem dX4_issue_47 : decode cX4_issue 47 = .ok (.iconst 1, 1) := by decide +kernel
theorem dX4_issue_48 : decode cX4_issue 48 = .ok (.goto 4, 3) := by decide +kernel
theorem dX4_issue_51 : decode cX4_issue 51 = .ok (.iconst 0, 1) := by decide +kernel
theorem dX4_issue_52 : decode cX4_issue 52 = .ok (.istore 6, 2) := by decide +kernel
theorem dX4_issue_54 : decode cX4_issue 54 = .ok (.aload_n 0, 1) := by decide +kernel
theorem dX4_issue_55 : decode cX4_issue 55 = .ok (.iload 6, 2) := by decide +kernel
theorem dX4_issue_57 : decode cX4_issue 57 = .ok (.ifCond .ne 7, 3) := by decide +kernel
theorem dX4_issue_60 : decode cX4_issue 60 = .ok (.iconst 1, 1) := by decide +kernel
theorem dX4_issue_61 : decode cX4_issue 61 = .ok (.goto 19, 3) := by decide +kernel
theorem dX4_issue_64 : decode cX4_issue 64 = .ok (.aload_n 0, 1) := by decide +kernel
theorem dX4_issue_65 : decode cX4_issue 65 = .ok (.getfield 7, 3) := by decide +kernel
theorem dX4_issue_68 : decode cX4_issue 68 = .ok (.iload_n 1, 1) := by decide +kernel
theorem dX4_issue_69 : decode cX4_issue 69 = .ok (.iaload, 1) := by decide +kernel
theorem dX4_issue_70 : decode cX4_issue 70 = .ok (.bipush 9, 2) := by decide +kernel
theorem dX4_issue_72 : decode cX4_issue 72 = .ok (.if_icmp .ne 7, 3) := by decide +kernel
theorem dX4_issue_75 : decode cX4_issue 75 = .ok (.iconst 2, 1) := by decide +kernel
theorem dX4_issue_76 : decode cX4_issue 76 = .ok (.goto 4, 3) := by decide +kernel
theorem dX4_issue_79 : decode cX4_issue 79 = .ok (.iconst 0, 1) := by decide +kernel
theorem dX4_issue_80 : decode cX4_issue 80 = .ok (.putfield 65, 3) := by decide +kernel
theorem dX4_issue_83 : decode cX4_issue 83 = .ok (.aload_n 0, 1) := by decide +kernel
theorem dX4_issue_84 : decode cX4_issue 84 = .ok (.getfield 65, 3) := by decide +kernel
theorem dX4_issue_87 : decode cX4_issue 87 = .ok (.ifCond .le 5, 3) := by decide +kernel
theorem dX4_issue_90 : decode cX4_issue 90 = .ok (.iconst 0, 1) := by decide +kernel
theorem dX4_issue_91 : decode cX4_issue 91 = .ok (.ireturn, 1) := by decide +kernel
theorem dX4_issue_92 : decode cX4_issue 92 = .ok (.bipush 9, 2) := by decide +kernel
theorem dX4_issue_94 : decode cX4_issue 94 = .ok (.iload_n 1, 1) := by decide +kernel
theorem dX4_issue_95 : decode cX4_issue 95 = .ok (.imul, 1) := by decide +kernel
theorem dX4_issue_96 : decode cX4_issue 96 = .ok (.aload_n 0, 1) := by decide +kernel
theorem dX4_issue_97 : decode cX4_issue 97 = .ok (.getfield 7, 3) := by decide +kernel
theorem dX4_issue_100 : decode cX4_issue 100 = .ok (.iload_n 1, 1) := by decide +kernel
theorem dX4_issue_101 : decode cX4_issue 101 = .ok (.iaload, 1) := by decide +kernel
theorem dX4_issue_102 : decode cX4_issue 102 = .ok (.iadd, 1) := by decide +kernel
theorem dX4_issue_103 : decode cX4_issue 103 = .ok (.istore 7, 2) := by decide +kernel
theorem dX4_issue_105 : decode cX4_issue 105 = .ok (.aload_n 0, 1) := by decide +kernel
theorem dX4_issue_106 : decode cX4_issue 106 = .ok (.getfield 13, 3) := by decide +kernel
theorem dX4_issue_109 : decode cX4_issue 109 = .ok (.iload 7, 2) := by decide +kernel
theorem dX4_issue_111 : decode cX4_issue 111 = .ok (.iload_n 2, 1) := by decide +kernel
theorem dX4_issue_112 : decode cX4_issue 112 = .ok (.iastore, 1) := by decide +kernel
theorem dX4_issue_113 : decode cX4_issue 113 = .ok (.aload_n 0, 1) := by decide +kernel
theorem dX4_issue_114 : decode cX4_issue 114 = .ok (.getfield 16, 3) := by decide +kernel
theorem dX4_issue_117 : decode cX4_issue 117 = .ok (.iload 7, 2) := by decide +kernel
theorem dX4_issue_119 : decode cX4_issue 119 = .ok (.iload_n 3, 1) := by decide +kernel
theorem dX4_issue_120 : decode cX4_issue 120 = .ok (.iastore, 1) := by decide +kernel
theorem dX4_issue_121 : decode cX4_issue 121 = .ok (.aload_n 0, 1) := by decide +kernel
theorem dX4_issue_122 : decode cX4_issue 122 = .ok (.getfield 19, 3) := by decide +kernel
theorem dX4_issue_125 : decode cX4_issue 125 = .ok (.iload 7, 2) := by decide +kernel
theorem dX4_issue_127 : decode cX4_issue 127 = .ok (.iload 4, 2) := by decide +kernel
theorem dX4_issue_129 : decode cX4_issue 129 = .ok (.iastore, 1) := by decide +kernel
theorem dX4_issue_130 : decode cX4_issue 130 = .ok (.aload_n 0, 1) := by decide +kernel
theorem dX4_issue_131 : decode cX4_issue 131 = .ok (.getfield 22, 3) := by decide +kernel
theorem dX4_issue_134 : decode cX4_issue 134 = .ok (.iload 7, 2) := by decide +kernel
theorem dX4_issue_136 : decode cX4_issue 136 = .ok (.iload 5, 2) := by decide +kernel
theorem dX4_issue_138 : decode cX4_issue 138 = .ok (.iastore, 1) := by decide +kernel
theorem dX4_issue_139 : decode cX4_issue 139 = .ok (.aload_n 0, 1) := by decide +kernel
theorem dX4_issue_140 : decode cX4_issue 140 = .ok (.getfield 7, 3) := by decide +kernel
theorem dX4_issue_143 : decode cX4_issue 143 = .ok (.iload_n 1, 1) := by decide +kernel
theorem dX4_issue_144 : decode cX4_issue 144 = .ok (.dup2, 1) := by decide +kernel
theorem dX4_issue_145 : decode cX4_issue 145 = .ok (.iaload, 1) := by decide +kernel
theorem dX4_issue_146 : decode cX4_issue 146 = .ok (.iconst 1, 1) := by decide +kernel
theorem dX4_issue_147 : decode cX4_issue 147 = .ok (.iadd, 1) := by decide +kernel
theorem dX4_issue_148 : decode cX4_issue 148 = .ok (.iastore, 1) := by decide +kernel
theorem dX4_issue_149 : decode cX4_issue 149 = .ok (.aload_n 0, 1) := by decide +kernel
theorem dX4_issue_150 : decode cX4_issue 150 = .ok (.getfield 7, 3) := by decide +kernel
theorem dX4_issue_153 : decode cX4_issue 153 = .ok (.iload_n 1, 1) := by decide +kernel
theorem dX4_issue_154 : decode cX4_issue 154 = .ok (.iaload, 1) := by decide +kernel
theorem dX4_issue_155 : decode cX4_issue 155 = .ok (.ireturn, 1) := by decide +kernel
set_option maxRecDepth 20000 in
theorem ggX4_relate_X4_isClause : GoodIn wsX4_relate wsX4_isClause := goodIn_r _ [7, 8, 9, 6, 10] (by decide +kernel) (by decide +kernel)
set_option maxRecDepth 20000 in
theorem gX4_relate_X4_isClause : GoodIn wsX4_relate (va_wsS RX4 79 yX4_isClause wsX4_isClause) := goodIn_app (goodIn_of _ (by decide +kernel)) ggX4_relate_X4_isClause
set_option maxRecDepth 20000 in
theorem ggX4_relate_X4_in : GoodIn wsX4_relate wsX4_in := goodIn_r _ [10] (by decide +kernel) (by decide +kernel)
set_option maxRecDepth 20000 in
theorem gX4_relate_X4_in : GoodIn wsX4_relate (va_wsS RX4 69 yX4_in wsX4_in) := goodIn_app (goodIn_of _ (by decide +kernel)) ggX4_relate_X4_in
theorem dX4_relate_0 : decode cX4_relate 0 = .ok (.iload_n 1, 1) := by decide +kernel
theorem dX4_relate_1 : decode cX4_relate 1 = .ok (.invokestatic 79, 3) := by decide +kernel
theorem dX4_relate_4 : decode cX4_relate 4 = .ok (.ifCond .eq 29, 3) := by decide +kernel
theorem dX4_relate_7 : decode cX4_relate 7 = .ok (.iload_n 2, 1) := by decide +kernel
theorem dX4_relate_8 : decode cX4_relate 8 = .ok (.iconst 0, 1) := by decide +kernel
theorem dX4_relate_9 : decode cX4_relate 9 = .ok (.sipush 1023, 3) := by decide +kernel
theorem dX4_relate_12 : decode cX4_relate 12 = .ok (.invokestatic 69, 3) := by decide +kernel
theorem dX4_relate_15 : decode cX4_relate 15 = .ok (.ifCond .eq 18, 3) := by decide +kernel
theorem dX4_relate_18 : decode cX4_relate 18 = .ok (.iload_n 3, 1) := by decide +kernel
theorem dX4_relate_19 : decode cX4_relate 19 = .ok (.iconst 0, 1) := by decide +kernel
theorem dX4_relate_20 : decode cX4_relate 20 = .ok (.sipush 1023, 3) := by decide +kernel
theorem dX4_relate_23 : decode cX4_relate 23 = .ok (.invokestatic 69, 3) := by decide +kernel
theorem dX4_relate_26 : decode cX4_relate 26 = .ok (.ifCond .eq 7, 3) := by decide +kernel
theorem dX4_relate_29 : decode cX4_relate 29 = .ok (.iconst 1, 1) := by decide +kernel
theorem dX4_relate_30 : decode cX4_relate 30 = .ok (.goto 4, 3) := by decide +kernel
theorem dX4_relate_33 : decode cX4_relate 33 = .ok (.iconst 0, 1) := by decide +kernel
theorem dX4_relate_34 : decode cX4_relate 34 = .ok (.istore 4, 2) := by decide +kernel
theorem dX4_relate_36 : decode cX4_relate 36 = .ok (.aload_n 0, 1) := by decide +kernel
theorem dX4_relate_37 : decode cX4_relate 37 = .ok (.iload 4, 2) := by decide +kernel
theorem dX4_relate_39 : decode cX4_relate 39 = .ok (.ifCond .eq 14, 3) := by decide +kernel
theorem dX4_relate_42 : decode cX4_relate 42 = .ok (.iload_n 2, 1) := by decide +kernel
theorem dX4_relate_43 : decode cX4_relate 43 = .ok (.iload_n 3, 1) := by decide +kernel
theorem dX4_relate_44 : decode cX4_relate 44 = .ok (.ior, 1) := by decide +kernel
theorem dX4_relate_45 : decode cX4_relate 45 = .ok (.iload_n 1, 1) := by decide +kernel
theorem dX4_relate_46 : decode cX4_relate 46 = .ok (.ishr, 1) := by decide +kernel
theorem dX4_relate_47 : decode cX4_relate 47 = .ok (.iconst 1, 1) := by decide +kernel
theorem dX4_relate_48 : decode cX4_relate 48 = .ok (.iand, 1) := by decide +kernel
theorem dX4_relate_49 : decode cX4_relate 49 = .ok (.iconst 1, 1) := by decide +kernel
theorem dX4_relate_50 : decode cX4_relate 50 = .ok (.if_icmp .ne 7, 3) := by decide +kernel
theorem dX4_relate_53 : decode cX4_relate 53 = .ok (.iconst 1, 1) := by decide +kernel
theorem dX4_relate_54 : decode cX4_relate 54 = .ok (.goto 4, 3) := by decide +kernel
theorem dX4_relate_57 : decode cX4_relate 57 = .ok (.iconst 0, 1) := by decide +kernel
theorem dX4_relate_58 : decode cX4_relate 58 = .ok (.putfield 65, 3) := by decide +kernel
theorem dX4_relate_61 : decode cX4_relate 61 = .ok (.aload_n 0, 1) := by decide +kernel
theorem dX4_relate_62 : decode cX4_relate 62 = .ok (.getfield 65, 3) := by decide +kernel
theorem dX4_relate_65 : decode cX4_relate 65 = .ok (.ifCond .ne 17, 3) := by decide +kernel
theorem dX4_relate_68 : decode cX4_relate 68 = .ok (.aload_n 0, 1) := by decide +kernel
theorem dX4_relate_69 : decode cX4_relate 69 = .ok (.getfield 25, 3) := by decide +kernel
theorem dX4_relate_72 : decode cX4_relate 72 = .ok (.iload_n 1, 1) := by decide +kernel
theorem dX4_relate_73 : decode cX4_relate 73 = .ok (.iload_n 2, 1) := by decide +kernel
theorem dX4_relate_74 : decode cX4_relate 74 = .ok (.iastore, 1) := by decide +kernel
theorem dX4_relate_75 : decode cX4_relate 75 = .ok (.aload_n 0, 1) := by decide +kernel
theorem dX4_relate_76 : decode cX4_relate 76 = .ok (.getfield 28, 3) := by decide +kernel
theorem dX4_relate_79 : decode cX4_relate 79 = .ok (.iload_n 1, 1) := by decide +kernel
theorem dX4_relate_80 : decode cX4_relate 80 = .ok (.iload_n 3, 1) := by decide +kernel
theorem dX4_relate_81 : decode cX4_relate 81 = .ok (.iastore, 1) := by decide +kernel
theorem dX4_relate_82 : decode cX4_relate 82 = .ok (.return_, 1) := by decide +kernel
set_option maxRecDepth 20000 in
theorem ggX4_latest_X4_isClause : GoodIn wsX4_latest wsX4_isClause := goodIn_r _ [6, 7, 8, 5, 9] (by decide +kernel) (by decide +kernel)
set_option maxRecDepth 20000 in
theorem gX4_latest_X4_isClause : GoodIn wsX4_latest (va_wsS RX4 79 yX4_isClause wsX4_isClause) := goodIn_app (goodIn_of _ (by decide +kernel)) ggX4_latest_X4_isClause
theorem dX4_latest_0 : decode cX4_latest 0 = .ok (.aload_n 0, 1) := by decide +kernel
theorem dX4_latest_1 : decode cX4_latest 1 = .ok (.iload_n 1, 1) := by decide +kernel
theorem dX4_latest_2 : decode cX4_latest 2 = .ok (.invokestatic 79, 3) := by decide +kernel
theorem dX4_latest_5 : decode cX4_latest 5 = .ok (.ifCond .eq 7, 3) := by decide +kernel
theorem dX4_latest_8 : decode cX4_latest 8 = .ok (.iconst 0, 1) := by decide +kernel
theorem dX4_latest_9 : decode cX4_latest 9 = .ok (.goto 4, 3) := by decide +kernel
theorem dX4_latest_12 : decode cX4_latest 12 = .ok (.iconst 1, 1) := by decide +kernel
theorem dX4_latest_13 : decode cX4_latest 13 = .ok (.putfield 65, 3) := by decide +kernel
theorem dX4_latest_16 : decode cX4_latest 16 = .ok (.aload_n 0, 1) := by decide +kernel
theorem dX4_latest_17 : decode cX4_latest 17 = .ok (.getfield 65, 3) := by decide +kernel
theorem dX4_latest_20 : decode cX4_latest 20 = .ok (.ifCond .le 7, 3) := by decide +kernel
theorem dX4_latest_23 : decode cX4_latest 23 = .ok (.iconst 0, 1) := by decide +kernel
theorem dX4_latest_24 : decode cX4_latest 24 = .ok (.goto 9, 3) := by decide +kernel
theorem dX4_latest_27 : decode cX4_latest 27 = .ok (.aload_n 0, 1) := by decide +kernel
theorem dX4_latest_28 : decode cX4_latest 28 = .ok (.getfield 7, 3) := by decide +kernel
theorem dX4_latest_31 : decode cX4_latest 31 = .ok (.iload_n 1, 1) := by decide +kernel
theorem dX4_latest_32 : decode cX4_latest 32 = .ok (.iaload, 1) := by decide +kernel
theorem dX4_latest_33 : decode cX4_latest 33 = .ok (.ireturn, 1) := by decide +kernel
theorem dX4_begin_0 : decode cX4_begin 0 = .ok (.aload_n 0, 1) := by decide +kernel
theorem dX4_begin_1 : decode cX4_begin 1 = .ok (.aload_n 0, 1) := by decide +kernel
theorem dX4_begin_2 : decode cX4_begin 2 = .ok (.getfield 73, 3) := by decide +kernel
theorem dX4_begin_5 : decode cX4_begin 5 = .ok (.bipush 10, 2) := by decide +kernel
theorem dX4_begin_7 : decode cX4_begin 7 = .ok (.if_icmp .ne 7, 3) := by decide +kernel
theorem dX4_begin_10 : decode cX4_begin 10 = .ok (.iconst 1, 1) := by decide +kernel
theorem dX4_begin_11 : decode cX4_begin 11 = .ok (.goto 4, 3) := by decide +kernel
theorem dX4_begin_14 : decode cX4_begin 14 = .ok (.iconst 0, 1) := by decide +kernel
theorem dX4_begin_15 : decode cX4_begin 15 = .ok (.putfield 65, 3) := by decide +kernel
theorem dX4_begin_18 : decode cX4_begin 18 = .ok (.aload_n 0, 1) := by decide +kernel
theorem dX4_begin_19 : decode cX4_begin 19 = .ok (.getfield 65, 3) := by decide +kernel
theorem dX4_begin_22 : decode cX4_begin 22 = .ok (.ifCond .le 5, 3) := by decide +kernel
theorem dX4_begin_25 : decode cX4_begin 25 = .ok (.iconst 0, 1) := by decide +kernel
theorem dX4_begin_26 : decode cX4_begin 26 = .ok (.ireturn, 1) := by decide +kernel
theorem dX4_begin_27 : decode cX4_begin 27 = .ok (.aload_n 0, 1) := by decide +kernel
theorem dX4_begin_28 : decode cX4_begin 28 = .ok (.dup, 1) := by decide +kernel
theorem dX4_begin_29 : decode cX4_begin 29 = .ok (.getfield 73, 3) := by decide +kernel
theorem dX4_begin_32 : decode cX4_begin 32 = .ok (.iconst 1, 1) := by decide +kernel
theorem dX4_begin_33 : decode cX4_begin 33 = .ok (.iadd, 1) := by decide +kernel
theorem dX4_begin_34 : decode cX4_begin 34 = .ok (.putfield 73, 3) := by decide +kernel
theorem dX4_begin_37 : decode cX4_begin 37 = .ok (.aload_n 0, 1) := by decide +kernel
theorem dX4_begin_38 : decode cX4_begin 38 = .ok (.getfield 73, 3) := by decide +kernel
theorem dX4_begin_41 : decode cX4_begin 41 = .ok (.iconst 1, 1) := by decide +kernel
theorem dX4_begin_42 : decode cX4_begin 42 = .ok (.isub, 1) := by decide +kernel
theorem dX4_begin_43 : decode cX4_begin 43 = .ok (.ireturn, 1) := by decide +kernel
theorem dX4_marks_0 : decode cX4_marks 0 = .ok (.bipush 10, 2) := by decide +kernel
theorem dX4_marks_2 : decode cX4_marks 2 = .ok (.iload_n 1, 1) := by decide +kernel
theorem dX4_marks_3 : decode cX4_marks 3 = .ok (.imul, 1) := by decide +kernel
theorem dX4_marks_4 : decode cX4_marks 4 = .ok (.iload_n 3, 1) := by decide +kernel
theorem dX4_marks_5 : decode cX4_marks 5 = .ok (.iadd, 1) := by decide +kernel
theorem dX4_marks_6 : decode cX4_marks 6 = .ok (.istore 5, 2) := by decide +kernel
theorem dX4_marks_8 : decode cX4_marks 8 = .ok (.aload_n 0, 1) := by decide +kernel
theorem dX4_marks_9 : decode cX4_marks 9 = .ok (.getfield 41, 3) := by decide +kernel
theorem dX4_marks_12 : decode cX4_marks 12 = .ok (.iconst 2, 1) := by decide +kernel
theorem dX4_marks_13 : decode cX4_marks 13 = .ok (.iload 5, 2) := by decide +kernel
theorem dX4_marks_15 : decode cX4_marks 15 = .ok (.imul, 1) := by decide +kernel
theorem dX4_marks_16 : decode cX4_marks 16 = .ok (.iload_n 2, 1) := by decide +kernel
theorem dX4_marks_17 : decode cX4_marks 17 = .ok (.iadd, 1) := by decide +kernel
theorem dX4_marks_18 : decode cX4_marks 18 = .ok (.iaload, 1) := by decide +kernel
theorem dX4_marks_19 : decode cX4_marks 19 = .ok (.iload 4, 2) := by decide +kernel
theorem dX4_marks_21 : decode cX4_marks 21 = .ok (.if_icmp .eq 23, 3) := by decide +kernel
theorem dX4_marks_24 : decode cX4_marks 24 = .ok (.aload_n 0, 1) := by decide +kernel
theorem dX4_marks_25 : decode cX4_marks 25 = .ok (.getfield 41, 3) := by decide +kernel
theorem dX4_marks_28 : decode cX4_marks 28 = .ok (.iconst 2, 1) := by decide +kernel
theorem dX4_marks_29 : decode cX4_marks 29 = .ok (.iload 5, 2) := by decide +kernel
theorem dX4_marks_31 : decode cX4_marks 31 = .ok (.imul, 1) := by decide +kernel
theorem dX4_marks_32 : decode cX4_marks 32 = .ok (.iload_n 2, 1) := by decide +kernel
theorem dX4_marks_33 : decode cX4_marks 33 = .ok (.iadd, 1) := by decide +kernel
theorem dX4_marks_34 : decode cX4_marks 34 = .ok (.iload 4, 2) := by decide +kernel
theorem dX4_marks_36 : decode cX4_marks 36 = .ok (.iastore, 1) := by decide +kernel
theorem dX4_marks_37 : decode cX4_marks 37 = .ok (.aload_n 0, 1) := by decide +kernel
theorem dX4_marks_38 : decode cX4_marks 38 = .ok (.getfield 35, 3) := by decide +kernel
theorem dX4_marks_41 : decode cX4_marks 41 = .ok (.iload_n 1, 1) := by decide +kernel
theorem dX4_marks_42 : decode cX4_marks 42 = .ok (.iconst 0, 1) := by decide +kernel
theorem dX4_marks_43 : decode cX4_marks 43 = .ok (.iastore, 1) := by decide +kernel
theorem dX4_marks_44 : decode cX4_marks 44 = .ok (.aload_n 0, 1) := by decide +kernel
theorem dX4_marks_45 : decode cX4_marks 45 = .ok (.getfield 41, 3) := by decide +kernel
theorem dX4_marks_48 : decode cX4_marks 48 = .ok (.iconst 2, 1) := by decide +kernel
theorem dX4_marks_49 : decode cX4_marks 49 = .ok (.iload 5, 2) := by decide +kernel
theorem dX4_marks_51 : decode cX4_marks 51 = .ok (.imul, 1) := by decide +kernel
theorem dX4_marks_52 : decode cX4_marks 52 = .ok (.iconst 1, 1) := by decide +kernel
theorem dX4_marks_53 : decode cX4_marks 53 = .ok (.iadd, 1) := by decide +kernel
theorem dX4_marks_54 : decode cX4_marks 54 = .ok (.iload_n 2, 1) := by decide +kernel
theorem dX4_marks_55 : decode cX4_marks 55 = .ok (.isub, 1) := by decide +kernel
theorem dX4_marks_56 : decode cX4_marks 56 = .ok (.iaload, 1) := by decide +kernel
theorem dX4_marks_57 : decode cX4_marks 57 = .ok (.istore 6, 2) := by decide +kernel
theorem dX4_marks_59 : decode cX4_marks 59 = .ok (.iload 4, 2) := by decide +kernel
theorem dX4_marks_61 : decode cX4_marks 61 = .ok (.iconst 2, 1) := by decide +kernel
theorem dX4_marks_62 : decode cX4_marks 62 = .ok (.if_icmp .ne 39, 3) := by decide +kernel
theorem dX4_marks_65 : decode cX4_marks 65 = .ok (.iload 6, 2) := by decide +kernel
theorem dX4_marks_67 : decode cX4_marks 67 = .ok (.iconst 1, 1) := by decide +kernel
theorem dX4_marks_68 : decode cX4_marks 68 = .ok (.if_icmp .eq 33, 3) := by decide +kernel
theorem dX4_marks_71 : decode cX4_marks 71 = .ok (.aload_n 0, 1) := by decide +kernel
theorem dX4_marks_72 : decode cX4_marks 72 = .ok (.getfield 38, 3) := by decide +kernel
theorem dX4_marks_75 : decode cX4_marks 75 = .ok (.iload 5, 2) := by decide +kernel
theorem dX4_marks_77 : decode cX4_marks 77 = .ok (.iconst 0, 1) := by decide +kernel
theorem dX4_marks_78 : decode cX4_marks 78 = .ok (.iastore, 1) := by decide +kernel
theorem dX4_marks_79 : decode cX4_marks 79 = .ok (.aload_n 0, 1) := by decide +kernel
theorem dX4_marks_80 : decode cX4_marks 80 = .ok (.getfield 41, 3) := by decide +kernel
theorem dX4_marks_83 : decode cX4_marks 83 = .ok (.iconst 2, 1) := by decide +kernel
theorem dX4_marks_84 : decode cX4_marks 84 = .ok (.iload 5, 2) := by decide +kernel
theorem dX4_marks_86 : decode cX4_marks 86 = .ok (.imul, 1) := by decide +kernel
theorem dX4_marks_87 : decode cX4_marks 87 = .ok (.iconst 0, 1) := by decide +kernel
theorem dX4_marks_88 : decode cX4_marks 88 = .ok (.iastore, 1) := by decide +kernel
theorem dX4_marks_89 : decode cX4_marks 89 = .ok (.aload_n 0, 1) := by decide +kernel
theorem dX4_marks_90 : decode cX4_marks 90 = .ok (.getfield 41, 3) := by decide +kernel
theorem dX4_marks_93 : decode cX4_marks 93 = .ok (.iconst 2, 1) := by decide +kernel
theorem dX4_marks_94 : decode cX4_marks 94 = .ok (.iload 5, 2) := by decide +kernel
theorem dX4_marks_96 : decode cX4_marks 96 = .ok (.imul, 1) := by decide +kernel
theorem dX4_marks_97 : decode cX4_marks 97 = .ok (.iconst 1, 1) := by decide +kernel
theorem dX4_marks_98 : decode cX4_marks 98 = .ok (.iadd, 1) := by decide +kernel
theorem dX4_marks_99 : decode cX4_marks 99 = .ok (.iconst 0, 1) := by decide +kernel
theorem dX4_marks_100 : decode cX4_marks 100 = .ok (.iastore, 1) := by decide +kernel
theorem dX4_marks_101 : decode cX4_marks 101 = .ok (.return_, 1) := by decide +kernel
set_option maxRecDepth 20000 in
theorem ggX4_mark_X4_isContract : GoodIn wsX4_mark wsX4_isContract := goodIn_r _ [10, 11, 12, 13, 9, 14, 26, 27, 28, 29, 30, 31, 32, 33, 34, 35, 36, 37, 38, 39, 40, 41, 42, 43, 44, 45, 46, 47] (by decide +kernel) (by decide +kernel)
set_option maxRecDepth 20000 in
theorem gX4_mark_X4_isContract : GoodIn wsX4_mark (wsV RX4 86 RX4 yX4_isContract wsX4_isContract) := goodIn_app (goodIn_of _ (by decide +kernel)) ggX4_mark_X4_isContract
set_option maxRecDepth 20000 in
theorem ggX4_mark_X4_isSide : GoodIn wsX4_mark wsX4_isSide := goodIn_r _ [17, 12, 13, 9, 14] (by decide +kernel) (by decide +kernel)
set_option maxRecDepth 20000 in
theorem gX4_mark_X4_isSide : GoodIn wsX4_mark (va_wsS RX4 83 yX4_isSide wsX4_isSide) := goodIn_app (goodIn_of _ (by decide +kernel)) ggX4_mark_X4_isSide
set_option maxRecDepth 20000 in
theorem ggX4_mark_X4_isClause : GoodIn wsX4_mark wsX4_isClause := goodIn_r _ [20, 12, 13, 9, 14] (by decide +kernel) (by decide +kernel)
set_option maxRecDepth 20000 in
theorem gX4_mark_X4_isClause : GoodIn wsX4_mark (va_wsS RX4 79 yX4_isClause wsX4_isClause) := goodIn_app (goodIn_of _ (by decide +kernel)) ggX4_mark_X4_isClause
set_option maxRecDepth 20000 in
theorem ggX4_mark_X4_in : GoodIn wsX4_mark wsX4_in := goodIn_r _ [14] (by decide +kernel) (by decide +kernel)
set_option maxRecDepth 20000 in
theorem gX4_mark_X4_in : GoodIn wsX4_mark (va_wsS RX4 69 yX4_in wsX4_in) := goodIn_app (goodIn_of _ (by decide +kernel)) ggX4_mark_X4_in
set_option maxRecDepth 20000 in
theorem ggX4_mark_X4_marks : GoodIn wsX4_mark wsX4_marks := goodIn_r _ [24, 5, 25, 2, 26, 27, 28, 29, 30, 31, 32, 33, 34, 35, 36, 37, 38, 39, 40, 41, 42, 43, 44, 45, 46, 47] (by decide +kernel) (by decide +kernel)
set_option maxRecDepth 20000 in
theorem gX4_mark_X4_marks : GoodIn wsX4_mark (wsV RX4 89 RX4 yX4_marks wsX4_marks) := goodIn_app (goodIn_of _ (by decide +kernel)) ggX4_mark_X4_marks
theorem dX4_mark_0 : decode cX4_mark 0 = .ok (.aload_n 0, 1) := by decide +kernel
theorem dX4_mark_1 : decode cX4_mark 1 = .ok (.aload_n 0, 1) := by decide +kernel
theorem dX4_mark_2 : decode cX4_mark 2 = .ok (.iload_n 1, 1) := by decide +kernel
theorem dX4_mark_3 : decode cX4_mark 3 = .ok (.invokevirtual 86, 3) := by decide +kernel
theorem dX4_mark_6 : decode cX4_mark 6 = .ok (.ifCond .ne 7, 3) := by decide +kernel
theorem dX4_mark_9 : decode cX4_mark 9 = .ok (.iconst 1, 1) := by decide +kernel
theorem dX4_mark_10 : decode cX4_mark 10 = .ok (.goto 32, 3) := by decide +kernel
theorem dX4_mark_13 : decode cX4_mark 13 = .ok (.iload_n 2, 1) := by decide +kernel
theorem dX4_mark_14 : decode cX4_mark 14 = .ok (.invokestatic 83, 3) := by decide +kernel
theorem dX4_mark_17 : decode cX4_mark 17 = .ok (.ifCond .eq 20, 3) := by decide +kernel
theorem dX4_mark_20 : decode cX4_mark 20 = .ok (.iload_n 3, 1) := by decide +kernel
theorem dX4_mark_21 : decode cX4_mark 21 = .ok (.invokestatic 79, 3) := by decide +kernel
theorem dX4_mark_24 : decode cX4_mark 24 = .ok (.ifCond .eq 13, 3) := by decide +kernel
theorem dX4_mark_27 : decode cX4_mark 27 = .ok (.iload 4, 2) := by decide +kernel
theorem dX4_mark_29 : decode cX4_mark 29 = .ok (.iconst 1, 1) := by decide +kernel
theorem dX4_mark_30 : decode cX4_mark 30 = .ok (.iconst 2, 1) := by decide +kernel
theorem dX4_mark_31 : decode cX4_mark 31 = .ok (.invokestatic 69, 3) := by decide +kernel
theorem dX4_mark_34 : decode cX4_mark 34 = .ok (.ifCond .ne 7, 3) := by decide +kernel
theorem dX4_mark_37 : decode cX4_mark 37 = .ok (.iconst 2, 1) := by decide +kernel
theorem dX4_mark_38 : decode cX4_mark 38 = .ok (.goto 4, 3) := by decide +kernel
theorem dX4_mark_41 : decode cX4_mark 41 = .ok (.iconst 0, 1) := by decide +kernel
theorem dX4_mark_42 : decode cX4_mark 42 = .ok (.putfield 65, 3) := by decide +kernel
theorem dX4_mark_45 : decode cX4_mark 45 = .ok (.bipush 10, 2) := by decide +kernel
theorem dX4_mark_47 : decode cX4_mark 47 = .ok (.iload_n 1, 1) := by decide +kernel
theorem dX4_mark_48 : decode cX4_mark 48 = .ok (.imul, 1) := by decide +kernel
theorem dX4_mark_49 : decode cX4_mark 49 = .ok (.iload_n 3, 1) := by decide +kernel
theorem dX4_mark_50 : decode cX4_mark 50 = .ok (.iadd, 1) := by decide +kernel
theorem dX4_mark_51 : decode cX4_mark 51 = .ok (.istore 5, 2) := by decide +kernel
theorem dX4_mark_53 : decode cX4_mark 53 = .ok (.aload_n 0, 1) := by decide +kernel
theorem dX4_mark_54 : decode cX4_mark 54 = .ok (.getfield 65, 3) := by decide +kernel
theorem dX4_mark_57 : decode cX4_mark 57 = .ok (.ifCond .ne 58, 3) := by decide +kernel
theorem dX4_mark_60 : decode cX4_mark 60 = .ok (.aload_n 0, 1) := by decide +kernel
theorem dX4_mark_61 : decode cX4_mark 61 = .ok (.getfield 38, 3) := by decide +kernel
theorem dX4_mark_64 : decode cX4_mark 64 = .ok (.iload 5, 2) := by decide +kernel
theorem dX4_mark_66 : decode cX4_mark 66 = .ok (.iaload, 1) := by decide +kernel
theorem dX4_mark_67 : decode cX4_mark 67 = .ok (.ifCond .ne 7, 3) := by decide +kernel
theorem dX4_mark_70 : decode cX4_mark 70 = .ok (.iconst 1, 1) := by decide +kernel
theorem dX4_mark_71 : decode cX4_mark 71 = .ok (.goto 4, 3) := by decide +kernel
theorem dX4_mark_74 : decode cX4_mark 74 = .ok (.iconst 0, 1) := by decide +kernel
theorem dX4_mark_75 : decode cX4_mark 75 = .ok (.istore 6, 2) := by decide +kernel
theorem dX4_mark_77 : decode cX4_mark 77 = .ok (.aload_n 0, 1) := by decide +kernel
theorem dX4_mark_78 : decode cX4_mark 78 = .ok (.aload_n 0, 1) := by decide +kernel
theorem dX4_mark_79 : decode cX4_mark 79 = .ok (.getfield 31, 3) := by decide +kernel
theorem dX4_mark_82 : decode cX4_mark 82 = .ok (.iload_n 1, 1) := by decide +kernel
theorem dX4_mark_83 : decode cX4_mark 83 = .ok (.baload, 1) := by decide +kernel
theorem dX4_mark_84 : decode cX4_mark 84 = .ok (.ifCond .ne 23, 3) := by decide +kernel
theorem dX4_mark_87 : decode cX4_mark 87 = .ok (.iload 6, 2) := by decide +kernel
theorem dX4_mark_89 : decode cX4_mark 89 = .ok (.ifCond .eq 22, 3) := by decide +kernel
theorem dX4_mark_92 : decode cX4_mark 92 = .ok (.iload 4, 2) := by decide +kernel
theorem dX4_mark_94 : decode cX4_mark 94 = .ok (.iconst 2, 1) := by decide +kernel
theorem dX4_mark_95 : decode cX4_mark 95 = .ok (.if_icmp .eq 12, 3) := by decide +kernel
theorem dX4_mark_98 : decode cX4_mark 98 = .ok (.aload_n 0, 1) := by decide +kernel
theorem dX4_mark_99 : decode cX4_mark 99 = .ok (.getfield 7, 3) := by decide +kernel
theorem dX4_mark_102 : decode cX4_mark 102 = .ok (.iload_n 3, 1) := by decide +kernel
theorem dX4_mark_103 : decode cX4_mark 103 = .ok (.iaload, 1) := by decide +kernel
theorem dX4_mark_104 : decode cX4_mark 104 = .ok (.ifCond .ne 7, 3) := by decide +kernel
theorem dX4_mark_107 : decode cX4_mark 107 = .ok (.iconst 3, 1) := by decide +kernel
theorem dX4_mark_108 : decode cX4_mark 108 = .ok (.goto 4, 3) := by decide +kernel
theorem dX4_mark_111 : decode cX4_mark 111 = .ok (.iconst 0, 1) := by decide +kernel
theorem dX4_mark_112 : decode cX4_mark 112 = .ok (.putfield 65, 3) := by decide +kernel
theorem dX4_mark_115 : decode cX4_mark 115 = .ok (.aload_n 0, 1) := by decide +kernel
theorem dX4_mark_116 : decode cX4_mark 116 = .ok (.getfield 65, 3) := by decide +kernel
theorem dX4_mark_119 : decode cX4_mark 119 = .ok (.ifCond .le 5, 3) := by decide +kernel
theorem dX4_mark_122 : decode cX4_mark 122 = .ok (.iconst 0, 1) := by decide +kernel
theorem dX4_mark_123 : decode cX4_mark 123 = .ok (.ireturn, 1) := by decide +kernel
theorem dX4_mark_124 : decode cX4_mark 124 = .ok (.aload_n 0, 1) := by decide +kernel
theorem dX4_mark_125 : decode cX4_mark 125 = .ok (.getfield 41, 3) := by decide +kernel
theorem dX4_mark_128 : decode cX4_mark 128 = .ok (.iconst 2, 1) := by decide +kernel
theorem dX4_mark_129 : decode cX4_mark 129 = .ok (.iload 5, 2) := by decide +kernel
theorem dX4_mark_131 : decode cX4_mark 131 = .ok (.imul, 1) := by decide +kernel
theorem dX4_mark_132 : decode cX4_mark 132 = .ok (.iload_n 2, 1) := by decide +kernel
theorem dX4_mark_133 : decode cX4_mark 133 = .ok (.iadd, 1) := by decide +kernel
theorem dX4_mark_134 : decode cX4_mark 134 = .ok (.iaload, 1) := by decide +kernel
theorem dX4_mark_135 : decode cX4_mark 135 = .ok (.istore 6, 2) := by decide +kernel
theorem dX4_mark_137 : decode cX4_mark 137 = .ok (.aload_n 0, 1) := by decide +kernel
theorem dX4_mark_138 : decode cX4_mark 138 = .ok (.getfield 38, 3) := by decide +kernel
theorem dX4_mark_141 : decode cX4_mark 141 = .ok (.iload 5, 2) := by decide +kernel
theorem dX4_mark_143 : decode cX4_mark 143 = .ok (.aload_n 0, 1) := by decide +kernel
theorem dX4_mark_144 : decode cX4_mark 144 = .ok (.getfield 38, 3) := by decide +kernel
theorem dX4_mark_147 : decode cX4_mark 147 = .ok (.iload 5, 2) := by decide +kernel
theorem dX4_mark_149 : decode cX4_mark 149 = .ok (.iaload, 1) := by decide +kernel
theorem dX4_mark_150 : decode cX4_mark 150 = .ok (.ifCond .ne 12, 3) := by decide +kernel
theorem dX4_mark_153 : decode cX4_mark 153 = .ok (.aload_n 0, 1) := by decide +kernel
theorem dX4_mark_154 : decode cX4_mark 154 = .ok (.getfield 7, 3) := by decide +kernel
theorem dX4_mark_157 : decode cX4_mark 157 = .ok (.iload_n 3, 1) := by decide +kernel
theorem dX4_mark_158 : decode cX4_mark 158 = .ok (.iaload, 1) := by decide +kernel
theorem dX4_mark_159 : decode cX4_mark 159 = .ok (.goto 10, 3) := by decide +kernel
theorem dX4_mark_162 : decode cX4_mark 162 = .ok (.aload_n 0, 1) := by decide +kernel
theorem dX4_mark_163 : decode cX4_mark 163 = .ok (.getfield 38, 3) := by decide +kernel
theorem dX4_mark_166 : decode cX4_mark 166 = .ok (.iload 5, 2) := by decide +kernel
theorem dX4_mark_168 : decode cX4_mark 168 = .ok (.iaload, 1) := by decide +kernel
theorem dX4_mark_169 : decode cX4_mark 169 = .ok (.iastore, 1) := by decide +kernel
theorem dX4_mark_170 : decode cX4_mark 170 = .ok (.aload_n 0, 1) := by decide +kernel
theorem dX4_mark_171 : decode cX4_mark 171 = .ok (.iload_n 1, 1) := by decide +kernel
theorem dX4_mark_172 : decode cX4_mark 172 = .ok (.iload_n 2, 1) := by decide +kernel
theorem dX4_mark_173 : decode cX4_mark 173 = .ok (.iload_n 3, 1) := by decide +kernel
theorem dX4_mark_174 : decode cX4_mark 174 = .ok (.iload 4, 2) := by decide +kernel
theorem dX4_mark_176 : decode cX4_mark 176 = .ok (.invokevirtual 89, 3) := by decide +kernel
theorem dX4_mark_179 : decode cX4_mark 179 = .ok (.iload 6, 2) := by decide +kernel
theorem dX4_mark_181 : decode cX4_mark 181 = .ok (.ireturn, 1) := by decide +kernel
set_option maxRecDepth 20000 in
theorem ggX4_renew_X4_isContract : GoodIn wsX4_renew wsX4_isContract := goodIn_r _ [11, 12, 13, 14, 10, 15, 22, 23, 24, 25, 26, 27, 28, 29, 30, 31, 32, 33, 34, 35, 36, 37, 38, 39, 40, 41, 42, 43] (by decide +kernel) (by decide +kernel)
set_option maxRecDepth 20000 in
theorem gX4_renew_X4_isContract : GoodIn wsX4_renew (wsV RX4 86 RX4 yX4_isContract wsX4_isContract) := goodIn_app (goodIn_of _ (by decide +kernel)) ggX4_renew_X4_isContract
set_option maxRecDepth 20000 in
theorem ggX4_renew_X4_isSide : GoodIn wsX4_renew wsX4_isSide := goodIn_r _ [18, 13, 14, 10, 15] (by decide +kernel) (by decide +kernel)
set_option maxRecDepth 20000 in
theorem gX4_renew_X4_isSide : GoodIn wsX4_renew (va_wsS RX4 83 yX4_isSide wsX4_isSide) := goodIn_app (goodIn_of _ (by decide +kernel)) ggX4_renew_X4_isSide
set_option maxRecDepth 20000 in
theorem ggX4_renew_X4_isClause : GoodIn wsX4_renew wsX4_isClause := goodIn_r _ [21, 13, 14, 10, 15] (by decide +kernel) (by decide +kernel)
set_option maxRecDepth 20000 in
theorem gX4_renew_X4_isClause : GoodIn wsX4_renew (va_wsS RX4 79 yX4_isClause wsX4_isClause) := goodIn_app (goodIn_of _ (by decide +kernel)) ggX4_renew_X4_isClause
theorem dX4_renew_0 : decode cX4_renew 0 = .ok (.aload_n 0, 1) := by decide +kernel
theorem dX4_renew_1 : decode cX4_renew 1 = .ok (.aload_n 0, 1) := by decide +kernel
theorem dX4_renew_2 : decode cX4_renew 2 = .ok (.iload_n 1, 1) := by decide +kernel
theorem dX4_renew_3 : decode cX4_renew 3 = .ok (.invokevirtual 86, 3) := by decide +kernel
theorem dX4_renew_6 : decode cX4_renew 6 = .ok (.ifCond .ne 7, 3) := by decide +kernel
theorem dX4_renew_9 : decode cX4_renew 9 = .ok (.iconst 1, 1) := by decide +kernel
theorem dX4_renew_10 : decode cX4_renew 10 = .ok (.goto 22, 3) := by decide +kernel
theorem dX4_renew_13 : decode cX4_renew 13 = .ok (.iload_n 2, 1) := by decide +kernel
theorem dX4_renew_14 : decode cX4_renew 14 = .ok (.invokestatic 83, 3) := by decide +kernel
theorem dX4_renew_17 : decode cX4_renew 17 = .ok (.ifCond .eq 10, 3) := by decide +kernel
theorem dX4_renew_20 : decode cX4_renew 20 = .ok (.iload_n 3, 1) := by decide +kernel
theorem dX4_renew_21 : decode cX4_renew 21 = .ok (.invokestatic 79, 3) := by decide +kernel
theorem dX4_renew_24 : decode cX4_renew 24 = .ok (.ifCond .ne 7, 3) := by decide +kernel
theorem dX4_renew_27 : decode cX4_renew 27 = .ok (.iconst 2, 1) := by decide +kernel
theorem dX4_renew_28 : decode cX4_renew 28 = .ok (.goto 4, 3) := by decide +kernel
theorem dX4_renew_31 : decode cX4_renew 31 = .ok (.iconst 0, 1) := by decide +kernel
theorem dX4_renew_32 : decode cX4_renew 32 = .ok (.putfield 65, 3) := by decide +kernel
theorem dX4_renew_35 : decode cX4_renew 35 = .ok (.bipush 10, 2) := by decide +kernel
theorem dX4_renew_37 : decode cX4_renew 37 = .ok (.iload_n 1, 1) := by decide +kernel
theorem dX4_renew_38 : decode cX4_renew 38 = .ok (.imul, 1) := by decide +kernel
theorem dX4_renew_39 : decode cX4_renew 39 = .ok (.iload_n 3, 1) := by decide +kernel
theorem dX4_renew_40 : decode cX4_renew 40 = .ok (.iadd, 1) := by decide +kernel
theorem dX4_renew_41 : decode cX4_renew 41 = .ok (.istore 4, 2) := by decide +kernel
theorem dX4_renew_43 : decode cX4_renew 43 = .ok (.aload_n 0, 1) := by decide +kernel
theorem dX4_renew_44 : decode cX4_renew 44 = .ok (.getfield 65, 3) := by decide +kernel
theorem dX4_renew_47 : decode cX4_renew 47 = .ok (.ifCond .ne 47, 3) := by decide +kernel
theorem dX4_renew_50 : decode cX4_renew 50 = .ok (.aload_n 0, 1) := by decide +kernel
theorem dX4_renew_51 : decode cX4_renew 51 = .ok (.aload_n 0, 1) := by decide +kernel
theorem dX4_renew_52 : decode cX4_renew 52 = .ok (.getfield 31, 3) := by decide +kernel
theorem dX4_renew_55 : decode cX4_renew 55 = .ok (.iload_n 1, 1) := by decide +kernel
theorem dX4_renew_56 : decode cX4_renew 56 = .ok (.baload, 1) := by decide +kernel
theorem dX4_renew_57 : decode cX4_renew 57 = .ok (.ifCond .ne 29, 3) := by decide +kernel
theorem dX4_renew_60 : decode cX4_renew 60 = .ok (.aload_n 0, 1) := by decide +kernel
theorem dX4_renew_61 : decode cX4_renew 61 = .ok (.getfield 38, 3) := by decide +kernel
theorem dX4_renew_64 : decode cX4_renew 64 = .ok (.iload 4, 2) := by decide +kernel
theorem dX4_renew_66 : decode cX4_renew 66 = .ok (.iaload, 1) := by decide +kernel
theorem dX4_renew_67 : decode cX4_renew 67 = .ok (.ifCond .eq 19, 3) := by decide +kernel
theorem dX4_renew_70 : decode cX4_renew 70 = .ok (.aload_n 0, 1) := by decide +kernel
theorem dX4_renew_71 : decode cX4_renew 71 = .ok (.getfield 38, 3) := by decide +kernel
theorem dX4_renew_74 : decode cX4_renew 74 = .ok (.iload 4, 2) := by decide +kernel
theorem dX4_renew_76 : decode cX4_renew 76 = .ok (.iaload, 1) := by decide +kernel
theorem dX4_renew_77 : decode cX4_renew 77 = .ok (.aload_n 0, 1) := by decide +kernel
theorem dX4_renew_78 : decode cX4_renew 78 = .ok (.getfield 7, 3) := by decide +kernel
theorem dX4_renew_81 : decode cX4_renew 81 = .ok (.iload_n 3, 1) := by decide +kernel
theorem dX4_renew_82 : decode cX4_renew 82 = .ok (.iaload, 1) := by decide +kernel
theorem dX4_renew_83 : decode cX4_renew 83 = .ok (.if_icmp .ne 7, 3) := by decide +kernel
theorem dX4_renew_86 : decode cX4_renew 86 = .ok (.iconst 3, 1) := by decide +kernel
theorem dX4_renew_87 : decode cX4_renew 87 = .ok (.goto 4, 3) := by decide +kernel
theorem dX4_renew_90 : decode cX4_renew 90 = .ok (.iconst 0, 1) := by decide +kernel
theorem dX4_renew_91 : decode cX4_renew 91 = .ok (.putfield 65, 3) := by decide +kernel
theorem dX4_renew_94 : decode cX4_renew 94 = .ok (.aload_n 0, 1) := by decide +kernel
theorem dX4_renew_95 : decode cX4_renew 95 = .ok (.getfield 65, 3) := by decide +kernel
theorem dX4_renew_98 : decode cX4_renew 98 = .ok (.ifCond .le 5, 3) := by decide +kernel
theorem dX4_renew_101 : decode cX4_renew 101 = .ok (.iconst 0, 1) := by decide +kernel
theorem dX4_renew_102 : decode cX4_renew 102 = .ok (.ireturn, 1) := by decide +kernel
theorem dX4_renew_103 : decode cX4_renew 103 = .ok (.aload_n 0, 1) := by decide +kernel
theorem dX4_renew_104 : decode cX4_renew 104 = .ok (.getfield 38, 3) := by decide +kernel
theorem dX4_renew_107 : decode cX4_renew 107 = .ok (.iload 4, 2) := by decide +kernel
theorem dX4_renew_109 : decode cX4_renew 109 = .ok (.iaload, 1) := by decide +kernel
theorem dX4_renew_110 : decode cX4_renew 110 = .ok (.istore 5, 2) := by decide +kernel
theorem dX4_renew_112 : decode cX4_renew 112 = .ok (.aload_n 0, 1) := by decide +kernel
theorem dX4_renew_113 : decode cX4_renew 113 = .ok (.getfield 38, 3) := by decide +kernel
theorem dX4_renew_116 : decode cX4_renew 116 = .ok (.iload 4, 2) := by decide +kernel
theorem dX4_renew_118 : decode cX4_renew 118 = .ok (.aload_n 0, 1) := by decide +kernel
theorem dX4_renew_119 : decode cX4_renew 119 = .ok (.getfield 7, 3) := by decide +kernel
theorem dX4_renew_122 : decode cX4_renew 122 = .ok (.iload_n 3, 1) := by decide +kernel
theorem dX4_renew_123 : decode cX4_renew 123 = .ok (.iaload, 1) := by decide +kernel
theorem dX4_renew_124 : decode cX4_renew 124 = .ok (.iastore, 1) := by decide +kernel
theorem dX4_renew_125 : decode cX4_renew 125 = .ok (.aload_n 0, 1) := by decide +kernel
theorem dX4_renew_126 : decode cX4_renew 126 = .ok (.getfield 41, 3) := by decide +kernel
theorem dX4_renew_129 : decode cX4_renew 129 = .ok (.iconst 2, 1) := by decide +kernel
theorem dX4_renew_130 : decode cX4_renew 130 = .ok (.iload 4, 2) := by decide +kernel
theorem dX4_renew_132 : decode cX4_renew 132 = .ok (.imul, 1) := by decide +kernel
theorem dX4_renew_133 : decode cX4_renew 133 = .ok (.iload_n 2, 1) := by decide +kernel
theorem dX4_renew_134 : decode cX4_renew 134 = .ok (.iadd, 1) := by decide +kernel
theorem dX4_renew_135 : decode cX4_renew 135 = .ok (.iconst 1, 1) := by decide +kernel
theorem dX4_renew_136 : decode cX4_renew 136 = .ok (.iastore, 1) := by decide +kernel
theorem dX4_renew_137 : decode cX4_renew 137 = .ok (.aload_n 0, 1) := by decide +kernel
theorem dX4_renew_138 : decode cX4_renew 138 = .ok (.getfield 41, 3) := by decide +kernel
theorem dX4_renew_141 : decode cX4_renew 141 = .ok (.iconst 2, 1) := by decide +kernel
theorem dX4_renew_142 : decode cX4_renew 142 = .ok (.iload 4, 2) := by decide +kernel
theorem dX4_renew_144 : decode cX4_renew 144 = .ok (.imul, 1) := by decide +kernel
theorem dX4_renew_145 : decode cX4_renew 145 = .ok (.iconst 1, 1) := by decide +kernel
theorem dX4_renew_146 : decode cX4_renew 146 = .ok (.iadd, 1) := by decide +kernel
theorem dX4_renew_147 : decode cX4_renew 147 = .ok (.iload_n 2, 1) := by decide +kernel
theorem dX4_renew_148 : decode cX4_renew 148 = .ok (.isub, 1) := by decide +kernel
theorem dX4_renew_149 : decode cX4_renew 149 = .ok (.iconst 0, 1) := by decide +kernel
theorem dX4_renew_150 : decode cX4_renew 150 = .ok (.iastore, 1) := by decide +kernel
theorem dX4_renew_151 : decode cX4_renew 151 = .ok (.aload_n 0, 1) := by decide +kernel
theorem dX4_renew_152 : decode cX4_renew 152 = .ok (.getfield 35, 3) := by decide +kernel
theorem dX4_renew_155 : decode cX4_renew 155 = .ok (.iload_n 1, 1) := by decide +kernel
theorem dX4_renew_156 : decode cX4_renew 156 = .ok (.iconst 0, 1) := by decide +kernel
theorem dX4_renew_157 : decode cX4_renew 157 = .ok (.iastore, 1) := by decide +kernel
theorem dX4_renew_158 : decode cX4_renew 158 = .ok (.iload 5, 2) := by decide +kernel
theorem dX4_renew_160 : decode cX4_renew 160 = .ok (.ireturn, 1) := by decide +kernel
set_option maxRecDepth 20000 in
theorem ggX4_version_X4_isContract : GoodIn wsX4_version wsX4_isContract := goodIn_r _ [7, 8, 9, 10, 6, 11, 15, 16, 17, 18, 19, 20, 21, 22, 23, 24, 25, 26, 27, 28, 29, 30, 31, 32, 33, 34, 35, 36] (by decide +kernel) (by decide +kernel)
set_option maxRecDepth 20000 in
theorem gX4_version_X4_isContract : GoodIn wsX4_version (wsV RX4 86 RX4 yX4_isContract wsX4_isContract) := goodIn_app (goodIn_of _ (by decide +kernel)) ggX4_version_X4_isContract
set_option maxRecDepth 20000 in
theorem ggX4_version_X4_isClause : GoodIn wsX4_version wsX4_isClause := goodIn_r _ [14, 9, 10, 6, 11] (by decide +kernel) (by decide +kernel)
set_option maxRecDepth 20000 in
theorem gX4_version_X4_isClause : GoodIn wsX4_version (va_wsS RX4 79 yX4_isClause wsX4_isClause) := goodIn_app (goodIn_of _ (by decide +kernel)) ggX4_version_X4_isClause
theorem dX4_version_0 : decode cX4_version 0 = .ok (.aload_n 0, 1) := by decide +kernel
theorem dX4_version_1 : decode cX4_version 1 = .ok (.aload_n 0, 1) := by decide +kernel
theorem dX4_version_2 : decode cX4_version 2 = .ok (.iload_n 1, 1) := by decide +kernel
theorem dX4_version_3 : decode cX4_version 3 = .ok (.invokevirtual 86, 3) := by decide +kernel
theorem dX4_version_6 : decode cX4_version 6 = .ok (.ifCond .ne 7, 3) := by decide +kernel
theorem dX4_version_9 : decode cX4_version 9 = .ok (.iconst 1, 1) := by decide +kernel
theorem dX4_version_10 : decode cX4_version 10 = .ok (.goto 15, 3) := by decide +kernel
theorem dX4_version_13 : decode cX4_version 13 = .ok (.iload_n 2, 1) := by decide +kernel
theorem dX4_version_14 : decode cX4_version 14 = .ok (.invokestatic 79, 3) := by decide +kernel
theorem dX4_version_17 : decode cX4_version 17 = .ok (.ifCond .eq 7, 3) := by decide +kernel
theorem dX4_version_20 : decode cX4_version 20 = .ok (.iconst 0, 1) := by decide +kernel
theorem dX4_version_21 : decode cX4_version 21 = .ok (.goto 4, 3) := by decide +kernel
theorem dX4_version_24 : decode cX4_version 24 = .ok (.iconst 2, 1) := by decide +kernel
theorem dX4_version_25 : decode cX4_version 25 = .ok (.putfield 65, 3) := by decide +kernel
theorem dX4_version_28 : decode cX4_version 28 = .ok (.aload_n 0, 1) := by decide +kernel
theorem dX4_version_29 : decode cX4_version 29 = .ok (.getfield 65, 3) := by decide +kernel
theorem dX4_version_32 : decode cX4_version 32 = .ok (.ifCond .le 7, 3) := by decide +kernel
theorem dX4_version_35 : decode cX4_version 35 = .ok (.iconst 0, 1) := by decide +kernel
theorem dX4_version_36 : decode cX4_version 36 = .ok (.goto 14, 3) := by decide +kernel
theorem dX4_version_39 : decode cX4_version 39 = .ok (.aload_n 0, 1) := by decide +kernel
theorem dX4_version_40 : decode cX4_version 40 = .ok (.getfield 38, 3) := by decide +kernel
theorem dX4_version_43 : decode cX4_version 43 = .ok (.bipush 10, 2) := by decide +kernel
theorem dX4_version_45 : decode cX4_version 45 = .ok (.iload_n 1, 1) := by decide +kernel
theorem dX4_version_46 : decode cX4_version 46 = .ok (.imul, 1) := by decide +kernel
theorem dX4_version_47 : decode cX4_version 47 = .ok (.iload_n 2, 1) := by decide +kernel
theorem dX4_version_48 : decode cX4_version 48 = .ok (.iadd, 1) := by decide +kernel
theorem dX4_version_49 : decode cX4_version 49 = .ok (.iaload, 1) := by decide +kernel
theorem dX4_version_50 : decode cX4_version 50 = .ok (.ireturn, 1) := by decide +kernel
set_option maxRecDepth 20000 in
theorem ggX4_offered_X4_isContract : GoodIn wsX4_offered wsX4_isContract := goodIn_r _ [9, 10, 11, 12, 8, 13, 14, 15, 16, 17, 18, 19, 20, 21, 22, 23, 24, 25, 26, 27, 28, 29, 30, 31, 32, 33, 34, 35] (by decide +kernel) (by decide +kernel)
set_option maxRecDepth 20000 in
theorem gX4_offered_X4_isContract : GoodIn wsX4_offered (wsV RX4 86 RX4 yX4_isContract wsX4_isContract) := goodIn_app (goodIn_of _ (by decide +kernel)) ggX4_offered_X4_isContract
theorem dX4_offered_0 : decode cX4_offered 0 = .ok (.aload_n 0, 1) := by decide +kernel
theorem dX4_offered_1 : decode cX4_offered 1 = .ok (.aload_n 0, 1) := by decide +kernel
theorem dX4_offered_2 : decode cX4_offered 2 = .ok (.iload_n 1, 1) := by decide +kernel
theorem dX4_offered_3 : decode cX4_offered 3 = .ok (.invokevirtual 86, 3) := by decide +kernel
theorem dX4_offered_6 : decode cX4_offered 6 = .ok (.ifCond .eq 7, 3) := by decide +kernel
theorem dX4_offered_9 : decode cX4_offered 9 = .ok (.iconst 0, 1) := by decide +kernel
theorem dX4_offered_10 : decode cX4_offered 10 = .ok (.goto 4, 3) := by decide +kernel
theorem dX4_offered_13 : decode cX4_offered 13 = .ok (.iconst 1, 1) := by decide +kernel
theorem dX4_offered_14 : decode cX4_offered 14 = .ok (.putfield 65, 3) := by decide +kernel
theorem dX4_offered_17 : decode cX4_offered 17 = .ok (.iconst 0, 1) := by decide +kernel
theorem dX4_offered_18 : decode cX4_offered 18 = .ok (.istore_n 2, 1) := by decide +kernel
theorem dX4_offered_19 : decode cX4_offered 19 = .ok (.iconst 0, 1) := by decide +kernel
theorem dX4_offered_20 : decode cX4_offered 20 = .ok (.istore_n 3, 1) := by decide +kernel
theorem dX4_offered_21 : decode cX4_offered 21 = .ok (.iload_n 3, 1) := by decide +kernel
theorem dX4_offered_22 : decode cX4_offered 22 = .ok (.bipush 10, 2) := by decide +kernel
theorem dX4_offered_24 : decode cX4_offered 24 = .ok (.if_icmp .ge 62, 3) := by decide +kernel
theorem dX4_offered_27 : decode cX4_offered 27 = .ok (.aload_n 0, 1) := by decide +kernel
theorem dX4_offered_28 : decode cX4_offered 28 = .ok (.getfield 65, 3) := by decide +kernel
theorem dX4_offered_31 : decode cX4_offered 31 = .ok (.ifCond .ne 55, 3) := by decide +kernel
theorem dX4_offered_34 : decode cX4_offered 34 = .ok (.aload_n 0, 1) := by decide +kernel
theorem dX4_offered_35 : decode cX4_offered 35 = .ok (.getfield 31, 3) := by decide +kernel
theorem dX4_offered_38 : decode cX4_offered 38 = .ok (.iload_n 1, 1) := by decide +kernel
theorem dX4_offered_39 : decode cX4_offered 39 = .ok (.baload, 1) := by decide +kernel
theorem dX4_offered_40 : decode cX4_offered 40 = .ok (.ifCond .ne 46, 3) := by decide +kernel
theorem dX4_offered_43 : decode cX4_offered 43 = .ok (.aload_n 0, 1) := by decide +kernel
theorem dX4_offered_44 : decode cX4_offered 44 = .ok (.getfield 38, 3) := by decide +kernel
theorem dX4_offered_47 : decode cX4_offered 47 = .ok (.bipush 10, 2) := by decide +kernel
theorem dX4_offered_49 : decode cX4_offered 49 = .ok (.iload_n 1, 1) := by decide +kernel
theorem dX4_offered_50 : decode cX4_offered 50 = .ok (.imul, 1) := by decide +kernel
theorem dX4_offered_51 : decode cX4_offered 51 = .ok (.iload_n 3, 1) := by decide +kernel
theorem dX4_offered_52 : decode cX4_offered 52 = .ok (.iadd, 1) := by decide +kernel
theorem dX4_offered_53 : decode cX4_offered 53 = .ok (.iaload, 1) := by decide +kernel
theorem dX4_offered_54 : decode cX4_offered 54 = .ok (.istore 4, 2) := by decide +kernel
theorem dX4_offered_56 : decode cX4_offered 56 = .ok (.iload_n 2, 1) := by decide +kernel
theorem dX4_offered_57 : decode cX4_offered 57 = .ok (.iload 4, 2) := by decide +kernel
theorem dX4_offered_59 : decode cX4_offered 59 = .ok (.ifCond .le 18, 3) := by decide +kernel
theorem dX4_offered_62 : decode cX4_offered 62 = .ok (.iload 4, 2) := by decide +kernel
theorem dX4_offered_64 : decode cX4_offered 64 = .ok (.aload_n 0, 1) := by decide +kernel
theorem dX4_offered_65 : decode cX4_offered 65 = .ok (.getfield 7, 3) := by decide +kernel
theorem dX4_offered_68 : decode cX4_offered 68 = .ok (.iload_n 3, 1) := by decide +kernel
theorem dX4_offered_69 : decode cX4_offered 69 = .ok (.iaload, 1) := by decide +kernel
theorem dX4_offered_70 : decode cX4_offered 70 = .ok (.if_icmp .ge 7, 3) := by decide +kernel
theorem dX4_offered_73 : decode cX4_offered 73 = .ok (.iconst 1, 1) := by decide +kernel
theorem dX4_offered_74 : decode cX4_offered 74 = .ok (.goto 4, 3) := by decide +kernel
theorem dX4_offered_77 : decode cX4_offered 77 = .ok (.iconst 0, 1) := by decide +kernel
theorem dX4_offered_78 : decode cX4_offered 78 = .ok (.iadd, 1) := by decide +kernel
theorem dX4_offered_79 : decode cX4_offered 79 = .ok (.istore_n 2, 1) := by decide +kernel
theorem dX4_offered_80 : decode cX4_offered 80 = .ok (.iinc 3 1, 3) := by decide +kernel
theorem dX4_offered_83 : decode cX4_offered 83 = .ok (.goto (-62), 3) := by decide +kernel
theorem dX4_offered_86 : decode cX4_offered 86 = .ok (.iload_n 2, 1) := by decide +kernel
theorem dX4_offered_87 : decode cX4_offered 87 = .ok (.ireturn, 1) := by decide +kernel
theorem dX4_reason_0 : decode cX4_reason 0 = .ok (.iconst 0, 1) := by decide +kernel
theorem dX4_reason_1 : decode cX4_reason 1 = .ok (.istore_n 2, 1) := by decide +kernel
theorem dX4_reason_2 : decode cX4_reason 2 = .ok (.iconst 0, 1) := by decide +kernel
theorem dX4_reason_3 : decode cX4_reason 3 = .ok (.istore_n 3, 1) := by decide +kernel
theorem dX4_reason_4 : decode cX4_reason 4 = .ok (.iconst 0, 1) := by decide +kernel
theorem dX4_reason_5 : decode cX4_reason 5 = .ok (.istore 4, 2) := by decide +kernel
theorem dX4_reason_7 : decode cX4_reason 7 = .ok (.iconst 1, 1) := by decide +kernel
theorem dX4_reason_8 : decode cX4_reason 8 = .ok (.istore 5, 2) := by decide +kernel
theorem dX4_reason_10 : decode cX4_reason 10 = .ok (.iconst 0, 1) := by decide +kernel
theorem dX4_reason_11 : decode cX4_reason 11 = .ok (.istore 6, 2) := by decide +kernel
theorem dX4_reason_13 : decode cX4_reason 13 = .ok (.iload 6, 2) := by decide +kernel
theorem dX4_reason_15 : decode cX4_reason 15 = .ok (.bipush 10, 2) := by decide +kernel
theorem dX4_reason_17 : decode cX4_reason 17 = .ok (.if_icmp .ge 97, 3) := by decide +kernel
theorem dX4_reason_20 : decode cX4_reason 20 = .ok (.bipush 10, 2) := by decide +kernel
theorem dX4_reason_22 : decode cX4_reason 22 = .ok (.iload_n 1, 1) := by decide +kernel
theorem dX4_reason_23 : decode cX4_reason 23 = .ok (.imul, 1) := by decide +kernel
theorem dX4_reason_24 : decode cX4_reason 24 = .ok (.iload 6, 2) := by decide +kernel
theorem dX4_reason_26 : decode cX4_reason 26 = .ok (.iadd, 1) := by decide +kernel
theorem dX4_reason_27 : decode cX4_reason 27 = .ok (.istore 7, 2) := by decide +kernel
theorem dX4_reason_29 : decode cX4_reason 29 = .ok (.aload_n 0, 1) := by decide +kernel
theorem dX4_reason_30 : decode cX4_reason 30 = .ok (.getfield 38, 3) := by decide +kernel
theorem dX4_reason_33 : decode cX4_reason 33 = .ok (.iload 7, 2) := by decide +kernel
theorem dX4_reason_35 : decode cX4_reason 35 = .ok (.iaload, 1) := by decide +kernel
theorem dX4_reason_36 : decode cX4_reason 36 = .ok (.ifCond .le 72, 3) := by decide +kernel
theorem dX4_reason_39 : decode cX4_reason 39 = .ok (.iload_n 2, 1) := by decide +kernel
theorem dX4_reason_40 : decode cX4_reason 40 = .ok (.iconst 1, 1) := by decide +kernel
theorem dX4_reason_41 : decode cX4_reason 41 = .ok (.iload 6, 2) := by decide +kernel
theorem dX4_reason_43 : decode cX4_reason 43 = .ok (.ishl, 1) := by decide +kernel
theorem dX4_reason_44 : decode cX4_reason 44 = .ok (.ior, 1) := by decide +kernel
theorem dX4_reason_45 : decode cX4_reason 45 = .ok (.istore_n 2, 1) := by decide +kernel
theorem dX4_reason_46 : decode cX4_reason 46 = .ok (.iload_n 3, 1) := by decide +kernel
theorem dX4_reason_47 : decode cX4_reason 47 = .ok (.aload_n 0, 1) := by decide +kernel
theorem dX4_reason_48 : decode cX4_reason 48 = .ok (.getfield 25, 3) := by decide +kernel
theorem dX4_reason_51 : decode cX4_reason 51 = .ok (.iload 6, 2) := by decide +kernel
theorem dX4_reason_53 : decode cX4_reason 53 = .ok (.iaload, 1) := by decide +kernel
theorem dX4_reason_54 : decode cX4_reason 54 = .ok (.ior, 1) := by decide +kernel
theorem dX4_reason_55 : decode cX4_reason 55 = .ok (.istore_n 3, 1) := by decide +kernel
theorem dX4_reason_56 : decode cX4_reason 56 = .ok (.iload 4, 2) := by decide +kernel
theorem dX4_reason_58 : decode cX4_reason 58 = .ok (.aload_n 0, 1) := by decide +kernel
theorem dX4_reason_59 : decode cX4_reason 59 = .ok (.getfield 28, 3) := by decide +kernel
theorem dX4_reason_62 : decode cX4_reason 62 = .ok (.iload 6, 2) := by decide +kernel
theorem dX4_reason_64 : decode cX4_reason 64 = .ok (.iaload, 1) := by decide +kernel
theorem dX4_reason_65 : decode cX4_reason 65 = .ok (.ior, 1) := by decide +kernel
theorem dX4_reason_66 : decode cX4_reason 66 = .ok (.istore 4, 2) := by decide +kernel
theorem dX4_reason_68 : decode cX4_reason 68 = .ok (.iload 5, 2) := by decide +kernel
theorem dX4_reason_70 : decode cX4_reason 70 = .ok (.ifCond .eq 35, 3) := by decide +kernel
theorem dX4_reason_73 : decode cX4_reason 73 = .ok (.aload_n 0, 1) := by decide +kernel
theorem dX4_reason_74 : decode cX4_reason 74 = .ok (.getfield 41, 3) := by decide +kernel
theorem dX4_reason_77 : decode cX4_reason 77 = .ok (.iconst 2, 1) := by decide +kernel
theorem dX4_reason_78 : decode cX4_reason 78 = .ok (.iload 7, 2) := by decide +kernel
theorem dX4_reason_80 : decode cX4_reason 80 = .ok (.imul, 1) := by decide +kernel
theorem dX4_reason_81 : decode cX4_reason 81 = .ok (.iaload, 1) := by decide +kernel
theorem dX4_reason_82 : decode cX4_reason 82 = .ok (.iconst 1, 1) := by decide +kernel
theorem dX4_reason_83 : decode cX4_reason 83 = .ok (.if_icmp .ne 22, 3) := by decide +kernel
theorem dX4_reason_86 : decode cX4_reason 86 = .ok (.aload_n 0, 1) := by decide +kernel
theorem dX4_reason_87 : decode cX4_reason 87 = .ok (.getfield 41, 3) := by decide +kernel
theorem dX4_reason_90 : decode cX4_reason 90 = .ok (.iconst 2, 1) := by decide +kernel
theorem dX4_reason_91 : decode cX4_reason 91 = .ok (.iload 7, 2) := by decide +kernel
theorem dX4_reason_93 : decode cX4_reason 93 = .ok (.imul, 1) := by decide +kernel
theorem dX4_reason_94 : decode cX4_reason 94 = .ok (.iconst 1, 1) := by decide +kernel
theorem dX4_reason_95 : decode cX4_reason 95 = .ok (.iadd, 1) := by decide +kernel
theorem dX4_reason_96 : decode cX4_reason 96 = .ok (.iaload, 1) := by decide +kernel
theorem dX4_reason_97 : decode cX4_reason 97 = .ok (.iconst 1, 1) := by decide +kernel
theorem dX4_reason_98 : decode cX4_reason 98 = .ok (.if_icmp .ne 7, 3) := by decide +kernel
theorem dX4_reason_101 : decode cX4_reason 101 = .ok (.iconst 1, 1) := by decide +kernel
theorem dX4_reason_102 : decode cX4_reason 102 = .ok (.goto 4, 3) := by decide +kernel
theorem dX4_reason_105 : decode cX4_reason 105 = .ok (.iconst 0, 1) := by decide +kernel
theorem dX4_reason_106 : decode cX4_reason 106 = .ok (.istore 5, 2) := by decide +kernel
theorem dX4_reason_108 : decode cX4_reason 108 = .ok (.iinc 6 1, 3) := by decide +kernel
theorem dX4_reason_111 : decode cX4_reason 111 = .ok (.goto (-98), 3) := by decide +kernel
theorem dX4_reason_114 : decode cX4_reason 114 = .ok (.aload_n 0, 1) := by decide +kernel
theorem dX4_reason_115 : decode cX4_reason 115 = .ok (.getfield 31, 3) := by decide +kernel
theorem dX4_reason_118 : decode cX4_reason 118 = .ok (.iload_n 1, 1) := by decide +kernel
theorem dX4_reason_119 : decode cX4_reason 119 = .ok (.baload, 1) := by decide +kernel
theorem dX4_reason_120 : decode cX4_reason 120 = .ok (.ifCond .eq 7, 3) := by decide +kernel
theorem dX4_reason_123 : decode cX4_reason 123 = .ok (.iconst 1, 1) := by decide +kernel
theorem dX4_reason_124 : decode cX4_reason 124 = .ok (.goto 44, 3) := by decide +kernel
theorem dX4_reason_127 : decode cX4_reason 127 = .ok (.iload_n 2, 1) := by decide +kernel
theorem dX4_reason_128 : decode cX4_reason 128 = .ok (.ifCond .ne 7, 3) := by decide +kernel
theorem dX4_reason_131 : decode cX4_reason 131 = .ok (.iconst 2, 1) := by decide +kernel
theorem dX4_reason_132 : decode cX4_reason 132 = .ok (.goto 36, 3) := by decide +kernel
theorem dX4_reason_135 : decode cX4_reason 135 = .ok (.iload 5, 2) := by decide +kernel
theorem dX4_reason_137 : decode cX4_reason 137 = .ok (.ifCond .ne 7, 3) := by decide +kernel
theorem dX4_reason_140 : decode cX4_reason 140 = .ok (.iconst 3, 1) := by decide +kernel
theorem dX4_reason_141 : decode cX4_reason 141 = .ok (.goto 27, 3) := by decide +kernel
theorem dX4_reason_144 : decode cX4_reason 144 = .ok (.iload_n 3, 1) := by decide +kernel
theorem dX4_reason_145 : decode cX4_reason 145 = .ok (.iload_n 2, 1) := by decide +kernel
theorem dX4_reason_146 : decode cX4_reason 146 = .ok (.iconst (-1), 1) := by decide +kernel
theorem dX4_reason_147 : decode cX4_reason 147 = .ok (.ixor, 1) := by decide +kernel
theorem dX4_reason_148 : decode cX4_reason 148 = .ok (.iand, 1) := by decide +kernel
theorem dX4_reason_149 : decode cX4_reason 149 = .ok (.ifCond .eq 7, 3) := by decide +kernel
theorem dX4_reason_152 : decode cX4_reason 152 = .ok (.iconst 4, 1) := by decide +kernel
theorem dX4_reason_153 : decode cX4_reason 153 = .ok (.goto 15, 3) := by decide +kernel
theorem dX4_reason_156 : decode cX4_reason 156 = .ok (.iload 4, 2) := by decide +kernel
theorem dX4_reason_158 : decode cX4_reason 158 = .ok (.iload_n 2, 1) := by decide +kernel
theorem dX4_reason_159 : decode cX4_reason 159 = .ok (.iand, 1) := by decide +kernel
theorem dX4_reason_160 : decode cX4_reason 160 = .ok (.ifCond .eq 7, 3) := by decide +kernel
theorem dX4_reason_163 : decode cX4_reason 163 = .ok (.iconst 5, 1) := by decide +kernel
theorem dX4_reason_164 : decode cX4_reason 164 = .ok (.goto 4, 3) := by decide +kernel
theorem dX4_reason_167 : decode cX4_reason 167 = .ok (.iconst 0, 1) := by decide +kernel
theorem dX4_reason_168 : decode cX4_reason 168 = .ok (.ireturn, 1) := by decide +kernel
set_option maxRecDepth 20000 in
theorem ggX4_whyNot_X4_isContract : GoodIn wsX4_whyNot wsX4_isContract := goodIn_r _ [6, 7, 8, 9, 5, 10, 20, 21, 22, 23, 24, 25, 26, 27, 28, 29, 30, 31, 32, 33, 34, 35, 36, 37, 38, 39, 40, 41] (by decide +kernel) (by decide +kernel)
set_option maxRecDepth 20000 in
theorem gX4_whyNot_X4_isContract : GoodIn wsX4_whyNot (wsV RX4 86 RX4 yX4_isContract wsX4_isContract) := goodIn_app (goodIn_of _ (by decide +kernel)) ggX4_whyNot_X4_isContract
set_option maxRecDepth 20000 in
theorem ggX4_whyNot_X4_reason : GoodIn wsX4_whyNot wsX4_reason := goodIn_r _ [14, 15, 16, 17, 18, 19, 20, 21, 22, 23, 24, 25, 26, 27, 28, 29, 30, 31, 32, 33, 34, 35, 36, 37, 38, 39, 40, 41] (by decide +kernel) (by decide +kernel)
set_option maxRecDepth 20000 in
theorem gX4_whyNot_X4_reason : GoodIn wsX4_whyNot (wsV RX4 93 RX4 yX4_reason wsX4_reason) := goodIn_app (goodIn_of _ (by decide +kernel)) ggX4_whyNot_X4_reason
theorem dX4_whyNot_0 : decode cX4_whyNot 0 = .ok (.aload_n 0, 1) := by decide +kernel
theorem dX4_whyNot_1 : decode cX4_whyNot 1 = .ok (.aload_n 0, 1) := by decide +kernel
theorem dX4_whyNot_2 : decode cX4_whyNot 2 = .ok (.iload_n 1, 1) := by decide +kernel
theorem dX4_whyNot_3 : decode cX4_whyNot 3 = .ok (.invokevirtual 86, 3) := by decide +kernel
theorem dX4_whyNot_6 : decode cX4_whyNot 6 = .ok (.ifCond .eq 7, 3) := by decide +kernel
theorem dX4_whyNot_9 : decode cX4_whyNot 9 = .ok (.iconst 0, 1) := by decide +kernel
theorem dX4_whyNot_10 : decode cX4_whyNot 10 = .ok (.goto 4, 3) := by decide +kernel
theorem dX4_whyNot_13 : decode cX4_whyNot 13 = .ok (.iconst 1, 1) := by decide +kernel
theorem dX4_whyNot_14 : decode cX4_whyNot 14 = .ok (.putfield 65, 3) := by decide +kernel
theorem dX4_whyNot_17 : decode cX4_whyNot 17 = .ok (.aload_n 0, 1) := by decide +kernel
theorem dX4_whyNot_18 : decode cX4_whyNot 18 = .ok (.getfield 65, 3) := by decide +kernel
theorem dX4_whyNot_21 : decode cX4_whyNot 21 = .ok (.ifCond .le 7, 3) := by decide +kernel
theorem dX4_whyNot_24 : decode cX4_whyNot 24 = .ok (.iconst 0, 1) := by decide +kernel
theorem dX4_whyNot_25 : decode cX4_whyNot 25 = .ok (.goto 8, 3) := by decide +kernel
theorem dX4_whyNot_28 : decode cX4_whyNot 28 = .ok (.aload_n 0, 1) := by decide +kernel
theorem dX4_whyNot_29 : decode cX4_whyNot 29 = .ok (.iload_n 1, 1) := by decide +kernel
theorem dX4_whyNot_30 : decode cX4_whyNot 30 = .ok (.invokevirtual 93, 3) := by decide +kernel
theorem dX4_whyNot_33 : decode cX4_whyNot 33 = .ok (.ireturn, 1) := by decide +kernel
theorem dX4_makesDuties_0 : decode cX4_makesDuties 0 = .ok (.iconst 0, 1) := by decide +kernel
theorem dX4_makesDuties_1 : decode cX4_makesDuties 1 = .ok (.istore_n 2, 1) := by decide +kernel
theorem dX4_makesDuties_2 : decode cX4_makesDuties 2 = .ok (.iconst 0, 1) := by decide +kernel
theorem dX4_makesDuties_3 : decode cX4_makesDuties 3 = .ok (.istore_n 3, 1) := by decide +kernel
theorem dX4_makesDuties_4 : decode cX4_makesDuties 4 = .ok (.iload_n 3, 1) := by decide +kernel
theorem dX4_makesDuties_5 : decode cX4_makesDuties 5 = .ok (.bipush 10, 2) := by decide +kernel
theorem dX4_makesDuties_7 : decode cX4_makesDuties 7 = .ok (.if_icmp .ge 140, 3) := by decide +kernel
theorem dX4_makesDuties_10 : decode cX4_makesDuties 10 = .ok (.aload_n 0, 1) := by decide +kernel
theorem dX4_makesDuties_11 : decode cX4_makesDuties 11 = .ok (.getfield 38, 3) := by decide +kernel
theorem dX4_makesDuties_14 : decode cX4_makesDuties 14 = .ok (.bipush 10, 2) := by decide +kernel
end
section
theorem dX4_makesDuties_16 : decode cX4_makesDuties 16 = .ok (.iload_n 1, 1) := by decide +kernel
theorem dX4_makesDuties_17 : decode cX4_makesDuties 17 = .ok (.imul, 1) := by decide +kernel
theorem dX4_makesDuties_18 : decode cX4_makesDuties 18 = .ok (.iload_n 3, 1) := by decide +kernel
theorem dX4_makesDuties_19 : decode cX4_makesDuties 19 = .ok (.iadd, 1) := by decide +kernel
theorem dX4_makesDuties_20 : decode cX4_makesDuties 20 = .ok (.iaload, 1) := by decide +kernel
theorem dX4_makesDuties_21 : decode cX4_makesDuties 21 = .ok (.istore 4, 2) := by decide +kernel
theorem dX4_makesDuties_23 : decode cX4_makesDuties 23 = .ok (.iload 4, 2) := by decide +kernel
theorem dX4_makesDuties_25 : decode cX4_makesDuties 25 = .ok (.ifCond .le 116, 3) := by decide +kernel
theorem dX4_makesDuties_28 : decode cX4_makesDuties 28 = .ok (.bipush 9, 2) := by decide +kernel
theorem dX4_makesDuties_30 : decode cX4_makesDuties 30 = .ok (.iload_n 3, 1) := by decide +kernel
theorem dX4_makesDuties_31 : decode cX4_makesDuties 31 = .ok (.imul, 1) := by decide +kernel
theorem dX4_makesDuties_32 : decode cX4_makesDuties 32 = .ok (.iload 4, 2) := by decide +kernel
theorem dX4_makesDuties_34 : decode cX4_makesDuties 34 = .ok (.iadd, 1) := by decide +kernel
theorem dX4_makesDuties_35 : decode cX4_makesDuties 35 = .ok (.iconst 1, 1) := by decide +kernel
theorem dX4_makesDuties_36 : decode cX4_makesDuties 36 = .ok (.isub, 1) := by decide +kernel
theorem dX4_makesDuties_37 : decode cX4_makesDuties 37 = .ok (.istore 5, 2) := by decide +kernel
theorem dX4_makesDuties_39 : decode cX4_makesDuties 39 = .ok (.aload_n 0, 1) := by decide +kernel
theorem dX4_makesDuties_40 : decode cX4_makesDuties 40 = .ok (.getfield 44, 3) := by decide +kernel
theorem dX4_makesDuties_43 : decode cX4_makesDuties 43 = .ok (.aload_n 0, 1) := by decide +kernel
theorem dX4_makesDuties_44 : decode cX4_makesDuties 44 = .ok (.getfield 76, 3) := by decide +kernel
theorem dX4_makesDuties_47 : decode cX4_makesDuties 47 = .ok (.iload_n 1, 1) := by decide +kernel
theorem dX4_makesDuties_48 : decode cX4_makesDuties 48 = .ok (.iastore, 1) := by decide +kernel
theorem dX4_makesDuties_49 : decode cX4_makesDuties 49 = .ok (.aload_n 0, 1) := by decide +kernel
theorem dX4_makesDuties_50 : decode cX4_makesDuties 50 = .ok (.getfield 47, 3) := by decide +kernel
theorem dX4_makesDuties_53 : decode cX4_makesDuties 53 = .ok (.aload_n 0, 1) := by decide +kernel
theorem dX4_makesDuties_54 : decode cX4_makesDuties 54 = .ok (.getfield 76, 3) := by decide +kernel
theorem dX4_makesDuties_57 : decode cX4_makesDuties 57 = .ok (.aload_n 0, 1) := by decide +kernel
theorem dX4_makesDuties_58 : decode cX4_makesDuties 58 = .ok (.getfield 13, 3) := by decide +kernel
theorem dX4_makesDuties_61 : decode cX4_makesDuties 61 = .ok (.iload 5, 2) := by decide +kernel
theorem dX4_makesDuties_63 : decode cX4_makesDuties 63 = .ok (.iaload, 1) := by decide +kernel
theorem dX4_makesDuties_64 : decode cX4_makesDuties 64 = .ok (.iastore, 1) := by decide +kernel
theorem dX4_makesDuties_65 : decode cX4_makesDuties 65 = .ok (.aload_n 0, 1) := by decide +kernel
theorem dX4_makesDuties_66 : decode cX4_makesDuties 66 = .ok (.getfield 50, 3) := by decide +kernel
theorem dX4_makesDuties_69 : decode cX4_makesDuties 69 = .ok (.aload_n 0, 1) := by decide +kernel
theorem dX4_makesDuties_70 : decode cX4_makesDuties 70 = .ok (.getfield 76, 3) := by decide +kernel
theorem dX4_makesDuties_73 : decode cX4_makesDuties 73 = .ok (.aload_n 0, 1) := by decide +kernel
theorem dX4_makesDuties_74 : decode cX4_makesDuties 74 = .ok (.getfield 19, 3) := by decide +kernel
theorem dX4_makesDuties_77 : decode cX4_makesDuties 77 = .ok (.iload 5, 2) := by decide +kernel
theorem dX4_makesDuties_79 : decode cX4_makesDuties 79 = .ok (.iaload, 1) := by decide +kernel
theorem dX4_makesDuties_80 : decode cX4_makesDuties 80 = .ok (.iastore, 1) := by decide +kernel
theorem dX4_makesDuties_81 : decode cX4_makesDuties 81 = .ok (.aload_n 0, 1) := by decide +kernel
theorem dX4_makesDuties_82 : decode cX4_makesDuties 82 = .ok (.getfield 53, 3) := by decide +kernel
theorem dX4_makesDuties_85 : decode cX4_makesDuties 85 = .ok (.aload_n 0, 1) := by decide +kernel
theorem dX4_makesDuties_86 : decode cX4_makesDuties 86 = .ok (.getfield 76, 3) := by decide +kernel
theorem dX4_makesDuties_89 : decode cX4_makesDuties 89 = .ok (.aload_n 0, 1) := by decide +kernel
theorem dX4_makesDuties_90 : decode cX4_makesDuties 90 = .ok (.getfield 22, 3) := by decide +kernel
theorem dX4_makesDuties_93 : decode cX4_makesDuties 93 = .ok (.iload 5, 2) := by decide +kernel
theorem dX4_makesDuties_95 : decode cX4_makesDuties 95 = .ok (.iaload, 1) := by decide +kernel
theorem dX4_makesDuties_96 : decode cX4_makesDuties 96 = .ok (.iastore, 1) := by decide +kernel
theorem dX4_makesDuties_97 : decode cX4_makesDuties 97 = .ok (.aload_n 0, 1) := by decide +kernel
theorem dX4_makesDuties_98 : decode cX4_makesDuties 98 = .ok (.getfield 56, 3) := by decide +kernel
theorem dX4_makesDuties_101 : decode cX4_makesDuties 101 = .ok (.aload_n 0, 1) := by decide +kernel
theorem dX4_makesDuties_102 : decode cX4_makesDuties 102 = .ok (.getfield 76, 3) := by decide +kernel
theorem dX4_makesDuties_105 : decode cX4_makesDuties 105 = .ok (.iconst 0, 1) := by decide +kernel
theorem dX4_makesDuties_106 : decode cX4_makesDuties 106 = .ok (.iastore, 1) := by decide +kernel
theorem dX4_makesDuties_107 : decode cX4_makesDuties 107 = .ok (.aload_n 0, 1) := by decide +kernel
theorem dX4_makesDuties_108 : decode cX4_makesDuties 108 = .ok (.getfield 59, 3) := by decide +kernel
theorem dX4_makesDuties_111 : decode cX4_makesDuties 111 = .ok (.aload_n 0, 1) := by decide +kernel
theorem dX4_makesDuties_112 : decode cX4_makesDuties 112 = .ok (.getfield 76, 3) := by decide +kernel
theorem dX4_makesDuties_115 : decode cX4_makesDuties 115 = .ok (.aload_n 0, 1) := by decide +kernel
theorem dX4_makesDuties_116 : decode cX4_makesDuties 116 = .ok (.getfield 97, 3) := by decide +kernel
theorem dX4_makesDuties_119 : decode cX4_makesDuties 119 = .ok (.aload_n 0, 1) := by decide +kernel
theorem dX4_makesDuties_120 : decode cX4_makesDuties 120 = .ok (.getfield 16, 3) := by decide +kernel
theorem dX4_makesDuties_123 : decode cX4_makesDuties 123 = .ok (.iload 5, 2) := by decide +kernel
theorem dX4_makesDuties_125 : decode cX4_makesDuties 125 = .ok (.iaload, 1) := by decide +kernel
theorem dX4_makesDuties_126 : decode cX4_makesDuties 126 = .ok (.iadd, 1) := by decide +kernel
theorem dX4_makesDuties_127 : decode cX4_makesDuties 127 = .ok (.iastore, 1) := by decide +kernel
theorem dX4_makesDuties_128 : decode cX4_makesDuties 128 = .ok (.aload_n 0, 1) := by decide +kernel
theorem dX4_makesDuties_129 : decode cX4_makesDuties 129 = .ok (.dup, 1) := by decide +kernel
theorem dX4_makesDuties_130 : decode cX4_makesDuties 130 = .ok (.getfield 76, 3) := by decide +kernel
theorem dX4_makesDuties_133 : decode cX4_makesDuties 133 = .ok (.iconst 1, 1) := by decide +kernel
theorem dX4_makesDuties_134 : decode cX4_makesDuties 134 = .ok (.iadd, 1) := by decide +kernel
theorem dX4_makesDuties_135 : decode cX4_makesDuties 135 = .ok (.putfield 76, 3) := by decide +kernel
theorem dX4_makesDuties_138 : decode cX4_makesDuties 138 = .ok (.iinc 2 1, 3) := by decide +kernel
theorem dX4_makesDuties_141 : decode cX4_makesDuties 141 = .ok (.iinc 3 1, 3) := by decide +kernel
theorem dX4_makesDuties_144 : decode cX4_makesDuties 144 = .ok (.goto (-140), 3) := by decide +kernel
theorem dX4_makesDuties_147 : decode cX4_makesDuties 147 = .ok (.iload_n 2, 1) := by decide +kernel
theorem dX4_makesDuties_148 : decode cX4_makesDuties 148 = .ok (.ireturn, 1) := by decide +kernel
set_option maxRecDepth 20000 in
theorem ggX4_sign_X4_isContract : GoodIn wsX4_sign wsX4_isContract := goodIn_r _ [8, 9, 10, 11, 7, 12, 40, 41, 42, 43, 44, 45, 46, 47, 48, 49, 50, 51, 52, 53, 54, 55, 56, 57, 58, 59, 60, 61] (by decide +kernel) (by decide +kernel)
set_option maxRecDepth 20000 in
theorem gX4_sign_X4_isContract : GoodIn wsX4_sign (wsV RX4 86 RX4 yX4_isContract wsX4_isContract) := goodIn_app (goodIn_of _ (by decide +kernel)) ggX4_sign_X4_isContract
set_option maxRecDepth 20000 in
theorem ggX4_sign_X4_isSide : GoodIn wsX4_sign wsX4_isSide := goodIn_r _ [15, 10, 11, 7, 12] (by decide +kernel) (by decide +kernel)
set_option maxRecDepth 20000 in
theorem gX4_sign_X4_isSide : GoodIn wsX4_sign (va_wsS RX4 83 yX4_isSide wsX4_isSide) := goodIn_app (goodIn_of _ (by decide +kernel)) ggX4_sign_X4_isSide
set_option maxRecDepth 20000 in
theorem ggX4_sign_X4_reason : GoodIn wsX4_sign wsX4_reason := goodIn_r _ [19, 20, 21, 22, 23, 3, 40, 41, 42, 43, 44, 45, 46, 47, 48, 49, 50, 51, 52, 53, 54, 55, 56, 57, 58, 59, 60, 61] (by decide +kernel) (by decide +kernel)
set_option maxRecDepth 20000 in
theorem gX4_sign_X4_reason : GoodIn wsX4_sign (wsV RX4 93 RX4 yX4_reason wsX4_reason) := goodIn_app (goodIn_of _ (by decide +kernel)) ggX4_sign_X4_reason
set_option maxRecDepth 20000 in
theorem ggX4_sign_X4_makesDuties : GoodIn wsX4_sign wsX4_makesDuties := goodIn_r _ [27, 20, 28, 29, 30, 31, 32, 33, 34, 35, 36, 37, 38, 39, 40, 41, 42, 43, 44, 45, 46, 47, 48, 49, 50, 51, 52, 53, 54, 55, 56, 57, 58, 59, 60, 61] (by decide +kernel) (by decide +kernel)
set_option maxRecDepth 20000 in
theorem gX4_sign_X4_makesDuties : GoodIn wsX4_sign (wsV RX4 100 RX4 yX4_makesDuties wsX4_makesDuties) := goodIn_app (goodIn_of _ (by decide +kernel)) ggX4_sign_X4_makesDuties
theorem dX4_sign_0 : decode cX4_sign 0 = .ok (.aload_n 0, 1) := by decide +kernel
theorem dX4_sign_1 : decode cX4_sign 1 = .ok (.aload_n 0, 1) := by decide +kernel
theorem dX4_sign_2 : decode cX4_sign 2 = .ok (.iload_n 1, 1) := by decide +kernel
theorem dX4_sign_3 : decode cX4_sign 3 = .ok (.invokevirtual 86, 3) := by decide +kernel
theorem dX4_sign_6 : decode cX4_sign 6 = .ok (.ifCond .ne 7, 3) := by decide +kernel
theorem dX4_sign_9 : decode cX4_sign 9 = .ok (.iconst 1, 1) := by decide +kernel
theorem dX4_sign_10 : decode cX4_sign 10 = .ok (.goto 41, 3) := by decide +kernel
theorem dX4_sign_13 : decode cX4_sign 13 = .ok (.iload_n 2, 1) := by decide +kernel
theorem dX4_sign_14 : decode cX4_sign 14 = .ok (.invokestatic 83, 3) := by decide +kernel
theorem dX4_sign_17 : decode cX4_sign 17 = .ok (.ifCond .ne 7, 3) := by decide +kernel
theorem dX4_sign_20 : decode cX4_sign 20 = .ok (.iconst 2, 1) := by decide +kernel
theorem dX4_sign_21 : decode cX4_sign 21 = .ok (.goto 30, 3) := by decide +kernel
theorem dX4_sign_24 : decode cX4_sign 24 = .ok (.aload_n 0, 1) := by decide +kernel
theorem dX4_sign_25 : decode cX4_sign 25 = .ok (.iload_n 1, 1) := by decide +kernel
theorem dX4_sign_26 : decode cX4_sign 26 = .ok (.invokevirtual 93, 3) := by decide +kernel
theorem dX4_sign_29 : decode cX4_sign 29 = .ok (.ifCond .gt 17, 3) := by decide +kernel
theorem dX4_sign_32 : decode cX4_sign 32 = .ok (.aload_n 0, 1) := by decide +kernel
theorem dX4_sign_33 : decode cX4_sign 33 = .ok (.getfield 35, 3) := by decide +kernel
theorem dX4_sign_36 : decode cX4_sign 36 = .ok (.iload_n 1, 1) := by decide +kernel
theorem dX4_sign_37 : decode cX4_sign 37 = .ok (.iaload, 1) := by decide +kernel
theorem dX4_sign_38 : decode cX4_sign 38 = .ok (.iload_n 2, 1) := by decide +kernel
theorem dX4_sign_39 : decode cX4_sign 39 = .ok (.ishr, 1) := by decide +kernel
theorem dX4_sign_40 : decode cX4_sign 40 = .ok (.iconst 1, 1) := by decide +kernel
theorem dX4_sign_41 : decode cX4_sign 41 = .ok (.iand, 1) := by decide +kernel
theorem dX4_sign_42 : decode cX4_sign 42 = .ok (.iconst 1, 1) := by decide +kernel
theorem dX4_sign_43 : decode cX4_sign 43 = .ok (.if_icmp .ne 7, 3) := by decide +kernel
theorem dX4_sign_46 : decode cX4_sign 46 = .ok (.iconst 3, 1) := by decide +kernel
theorem dX4_sign_47 : decode cX4_sign 47 = .ok (.goto 4, 3) := by decide +kernel
theorem dX4_sign_50 : decode cX4_sign 50 = .ok (.iconst 0, 1) := by decide +kernel
theorem dX4_sign_51 : decode cX4_sign 51 = .ok (.putfield 65, 3) := by decide +kernel
theorem dX4_sign_54 : decode cX4_sign 54 = .ok (.aload_n 0, 1) := by decide +kernel
theorem dX4_sign_55 : decode cX4_sign 55 = .ok (.getfield 65, 3) := by decide +kernel
theorem dX4_sign_58 : decode cX4_sign 58 = .ok (.ifCond .le 5, 3) := by decide +kernel
theorem dX4_sign_61 : decode cX4_sign 61 = .ok (.iconst 0, 1) := by decide +kernel
theorem dX4_sign_62 : decode cX4_sign 62 = .ok (.ireturn, 1) := by decide +kernel
theorem dX4_sign_63 : decode cX4_sign 63 = .ok (.aload_n 0, 1) := by decide +kernel
theorem dX4_sign_64 : decode cX4_sign 64 = .ok (.getfield 35, 3) := by decide +kernel
theorem dX4_sign_67 : decode cX4_sign 67 = .ok (.iload_n 1, 1) := by decide +kernel
theorem dX4_sign_68 : decode cX4_sign 68 = .ok (.dup2, 1) := by decide +kernel
theorem dX4_sign_69 : decode cX4_sign 69 = .ok (.iaload, 1) := by decide +kernel
theorem dX4_sign_70 : decode cX4_sign 70 = .ok (.iconst 1, 1) := by decide +kernel
theorem dX4_sign_71 : decode cX4_sign 71 = .ok (.iload_n 2, 1) := by decide +kernel
theorem dX4_sign_72 : decode cX4_sign 72 = .ok (.ishl, 1) := by decide +kernel
theorem dX4_sign_73 : decode cX4_sign 73 = .ok (.ior, 1) := by decide +kernel
theorem dX4_sign_74 : decode cX4_sign 74 = .ok (.iastore, 1) := by decide +kernel
theorem dX4_sign_75 : decode cX4_sign 75 = .ok (.aload_n 0, 1) := by decide +kernel
theorem dX4_sign_76 : decode cX4_sign 76 = .ok (.getfield 35, 3) := by decide +kernel
theorem dX4_sign_79 : decode cX4_sign 79 = .ok (.iload_n 1, 1) := by decide +kernel
theorem dX4_sign_80 : decode cX4_sign 80 = .ok (.iaload, 1) := by decide +kernel
theorem dX4_sign_81 : decode cX4_sign 81 = .ok (.iconst 3, 1) := by decide +kernel
theorem dX4_sign_82 : decode cX4_sign 82 = .ok (.if_icmp .eq 5, 3) := by decide +kernel
theorem dX4_sign_85 : decode cX4_sign 85 = .ok (.iconst 0, 1) := by decide +kernel
theorem dX4_sign_86 : decode cX4_sign 86 = .ok (.ireturn, 1) := by decide +kernel
theorem dX4_sign_87 : decode cX4_sign 87 = .ok (.aload_n 0, 1) := by decide +kernel
theorem dX4_sign_88 : decode cX4_sign 88 = .ok (.getfield 31, 3) := by decide +kernel
theorem dX4_sign_91 : decode cX4_sign 91 = .ok (.iload_n 1, 1) := by decide +kernel
theorem dX4_sign_92 : decode cX4_sign 92 = .ok (.iconst 1, 1) := by decide +kernel
theorem dX4_sign_93 : decode cX4_sign 93 = .ok (.bastore, 1) := by decide +kernel
theorem dX4_sign_94 : decode cX4_sign 94 = .ok (.aload_n 0, 1) := by decide +kernel
theorem dX4_sign_95 : decode cX4_sign 95 = .ok (.iload_n 1, 1) := by decide +kernel
theorem dX4_sign_96 : decode cX4_sign 96 = .ok (.invokevirtual 100, 3) := by decide +kernel
theorem dX4_sign_99 : decode cX4_sign 99 = .ok (.ireturn, 1) := by decide +kernel
theorem dX4_isSuspendedNow_0 : decode cX4_isSuspendedNow 0 = .ok (.iconst 0, 1) := by decide +kernel
theorem dX4_isSuspendedNow_1 : decode cX4_isSuspendedNow 1 = .ok (.istore_n 2, 1) := by decide +kernel
theorem dX4_isSuspendedNow_2 : decode cX4_isSuspendedNow 2 = .ok (.iconst 0, 1) := by decide +kernel
theorem dX4_isSuspendedNow_3 : decode cX4_isSuspendedNow 3 = .ok (.istore_n 3, 1) := by decide +kernel
theorem dX4_isSuspendedNow_4 : decode cX4_isSuspendedNow 4 = .ok (.iload_n 3, 1) := by decide +kernel
theorem dX4_isSuspendedNow_5 : decode cX4_isSuspendedNow 5 = .ok (.aload_n 0, 1) := by decide +kernel
theorem dX4_isSuspendedNow_6 : decode cX4_isSuspendedNow 6 = .ok (.getfield 76, 3) := by decide +kernel
theorem dX4_isSuspendedNow_9 : decode cX4_isSuspendedNow 9 = .ok (.if_icmp .ge 59, 3) := by decide +kernel
theorem dX4_isSuspendedNow_12 : decode cX4_isSuspendedNow 12 = .ok (.iload_n 2, 1) := by decide +kernel
theorem dX4_isSuspendedNow_13 : decode cX4_isSuspendedNow 13 = .ok (.ifCond .ne 43, 3) := by decide +kernel
theorem dX4_isSuspendedNow_16 : decode cX4_isSuspendedNow 16 = .ok (.aload_n 0, 1) := by decide +kernel
theorem dX4_isSuspendedNow_17 : decode cX4_isSuspendedNow 17 = .ok (.getfield 44, 3) := by decide +kernel
theorem dX4_isSuspendedNow_20 : decode cX4_isSuspendedNow 20 = .ok (.iload_n 3, 1) := by decide +kernel
theorem dX4_isSuspendedNow_21 : decode cX4_isSuspendedNow 21 = .ok (.iaload, 1) := by decide +kernel
theorem dX4_isSuspendedNow_22 : decode cX4_isSuspendedNow 22 = .ok (.aload_n 0, 1) := by decide +kernel
theorem dX4_isSuspendedNow_23 : decode cX4_isSuspendedNow 23 = .ok (.getfield 44, 3) := by decide +kernel
theorem dX4_isSuspendedNow_26 : decode cX4_isSuspendedNow 26 = .ok (.iload_n 1, 1) := by decide +kernel
theorem dX4_isSuspendedNow_27 : decode cX4_isSuspendedNow 27 = .ok (.iaload, 1) := by decide +kernel
theorem dX4_isSuspendedNow_28 : decode cX4_isSuspendedNow 28 = .ok (.if_icmp .ne 32, 3) := by decide +kernel
theorem dX4_isSuspendedNow_31 : decode cX4_isSuspendedNow 31 = .ok (.aload_n 0, 1) := by decide +kernel
theorem dX4_isSuspendedNow_32 : decode cX4_isSuspendedNow 32 = .ok (.getfield 47, 3) := by decide +kernel
theorem dX4_isSuspendedNow_35 : decode cX4_isSuspendedNow 35 = .ok (.iload_n 3, 1) := by decide +kernel
theorem dX4_isSuspendedNow_36 : decode cX4_isSuspendedNow 36 = .ok (.iaload, 1) := by decide +kernel
theorem dX4_isSuspendedNow_37 : decode cX4_isSuspendedNow 37 = .ok (.aload_n 0, 1) := by decide +kernel
theorem dX4_isSuspendedNow_38 : decode cX4_isSuspendedNow 38 = .ok (.getfield 47, 3) := by decide +kernel
theorem dX4_isSuspendedNow_41 : decode cX4_isSuspendedNow 41 = .ok (.iload_n 1, 1) := by decide +kernel
theorem dX4_isSuspendedNow_42 : decode cX4_isSuspendedNow 42 = .ok (.iaload, 1) := by decide +kernel
theorem dX4_isSuspendedNow_43 : decode cX4_isSuspendedNow 43 = .ok (.if_icmp .eq 17, 3) := by decide +kernel
theorem dX4_isSuspendedNow_46 : decode cX4_isSuspendedNow 46 = .ok (.aload_n 0, 1) := by decide +kernel
theorem dX4_isSuspendedNow_47 : decode cX4_isSuspendedNow 47 = .ok (.getfield 56, 3) := by decide +kernel
theorem dX4_isSuspendedNow_50 : decode cX4_isSuspendedNow 50 = .ok (.iload_n 3, 1) := by decide +kernel
theorem dX4_isSuspendedNow_51 : decode cX4_isSuspendedNow 51 = .ok (.iaload, 1) := by decide +kernel
theorem dX4_isSuspendedNow_52 : decode cX4_isSuspendedNow 52 = .ok (.iconst 3, 1) := by decide +kernel
theorem dX4_isSuspendedNow_53 : decode cX4_isSuspendedNow 53 = .ok (.if_icmp .ne 7, 3) := by decide +kernel
theorem dX4_isSuspendedNow_56 : decode cX4_isSuspendedNow 56 = .ok (.iconst 1, 1) := by decide +kernel
theorem dX4_isSuspendedNow_57 : decode cX4_isSuspendedNow 57 = .ok (.goto 4, 3) := by decide +kernel
theorem dX4_isSuspendedNow_60 : decode cX4_isSuspendedNow 60 = .ok (.iconst 0, 1) := by decide +kernel
theorem dX4_isSuspendedNow_61 : decode cX4_isSuspendedNow 61 = .ok (.istore_n 2, 1) := by decide +kernel
theorem dX4_isSuspendedNow_62 : decode cX4_isSuspendedNow 62 = .ok (.iinc 3 1, 3) := by decide +kernel
theorem dX4_isSuspendedNow_65 : decode cX4_isSuspendedNow 65 = .ok (.goto (-61), 3) := by decide +kernel
theorem dX4_isSuspendedNow_68 : decode cX4_isSuspendedNow 68 = .ok (.iload_n 2, 1) := by decide +kernel
theorem dX4_isSuspendedNow_69 : decode cX4_isSuspendedNow 69 = .ok (.ifCond .eq 26, 3) := by decide +kernel
theorem dX4_isSuspendedNow_72 : decode cX4_isSuspendedNow 72 = .ok (.aload_n 0, 1) := by decide +kernel
theorem dX4_isSuspendedNow_73 : decode cX4_isSuspendedNow 73 = .ok (.getfield 56, 3) := by decide +kernel
theorem dX4_isSuspendedNow_76 : decode cX4_isSuspendedNow 76 = .ok (.iload_n 1, 1) := by decide +kernel
theorem dX4_isSuspendedNow_77 : decode cX4_isSuspendedNow 77 = .ok (.iaload, 1) := by decide +kernel
theorem dX4_isSuspendedNow_78 : decode cX4_isSuspendedNow 78 = .ok (.ifCond .eq 13, 3) := by decide +kernel
theorem dX4_isSuspendedNow_81 : decode cX4_isSuspendedNow 81 = .ok (.aload_n 0, 1) := by decide +kernel
theorem dX4_isSuspendedNow_82 : decode cX4_isSuspendedNow 82 = .ok (.getfield 56, 3) := by decide +kernel
theorem dX4_isSuspendedNow_85 : decode cX4_isSuspendedNow 85 = .ok (.iload_n 1, 1) := by decide +kernel
theorem dX4_isSuspendedNow_86 : decode cX4_isSuspendedNow 86 = .ok (.iaload, 1) := by decide +kernel
theorem dX4_isSuspendedNow_87 : decode cX4_isSuspendedNow 87 = .ok (.iconst 2, 1) := by decide +kernel
theorem dX4_isSuspendedNow_88 : decode cX4_isSuspendedNow 88 = .ok (.if_icmp .ne 7, 3) := by decide +kernel
theorem dX4_isSuspendedNow_91 : decode cX4_isSuspendedNow 91 = .ok (.iconst 1, 1) := by decide +kernel
theorem dX4_isSuspendedNow_92 : decode cX4_isSuspendedNow 92 = .ok (.goto 4, 3) := by decide +kernel
theorem dX4_isSuspendedNow_95 : decode cX4_isSuspendedNow 95 = .ok (.iconst 0, 1) := by decide +kernel
theorem dX4_isSuspendedNow_96 : decode cX4_isSuspendedNow 96 = .ok (.ireturn, 1) := by decide +kernel
set_option maxRecDepth 20000 in
theorem ggX4_passes_X4_isSuspendedNow : GoodIn wsX4_passes wsX4_isSuspendedNow := goodIn_r _ [10, 2, 11, 12, 5, 13, 14, 15, 16, 17, 18, 19, 20, 21, 22, 23, 24, 25, 26, 27, 28, 29, 30, 31, 32, 33, 34] (by decide +kernel) (by decide +kernel)
set_option maxRecDepth 20000 in
theorem gX4_passes_X4_isSuspendedNow : GoodIn wsX4_passes (wsV RX4 103 RX4 yX4_isSuspendedNow wsX4_isSuspendedNow) := goodIn_app (goodIn_of _ (by decide +kernel)) ggX4_passes_X4_isSuspendedNow
theorem dX4_passes_0 : decode cX4_passes 0 = .ok (.aload_n 0, 1) := by decide +kernel
theorem dX4_passes_1 : decode cX4_passes 1 = .ok (.dup, 1) := by decide +kernel
theorem dX4_passes_2 : decode cX4_passes 2 = .ok (.getfield 97, 3) := by decide +kernel
theorem dX4_passes_5 : decode cX4_passes 5 = .ok (.iconst 1, 1) := by decide +kernel
theorem dX4_passes_6 : decode cX4_passes 6 = .ok (.iadd, 1) := by decide +kernel
theorem dX4_passes_7 : decode cX4_passes 7 = .ok (.putfield 97, 3) := by decide +kernel
theorem dX4_passes_10 : decode cX4_passes 10 = .ok (.iconst 0, 1) := by decide +kernel
theorem dX4_passes_11 : decode cX4_passes 11 = .ok (.istore_n 1, 1) := by decide +kernel
theorem dX4_passes_12 : decode cX4_passes 12 = .ok (.iload_n 1, 1) := by decide +kernel
theorem dX4_passes_13 : decode cX4_passes 13 = .ok (.aload_n 0, 1) := by decide +kernel
theorem dX4_passes_14 : decode cX4_passes 14 = .ok (.getfield 76, 3) := by decide +kernel
theorem dX4_passes_17 : decode cX4_passes 17 = .ok (.if_icmp .ge 20, 3) := by decide +kernel
theorem dX4_passes_20 : decode cX4_passes 20 = .ok (.aload_n 0, 1) := by decide +kernel
theorem dX4_passes_21 : decode cX4_passes 21 = .ok (.getfield 62, 3) := by decide +kernel
theorem dX4_passes_24 : decode cX4_passes 24 = .ok (.iload_n 1, 1) := by decide +kernel
theorem dX4_passes_25 : decode cX4_passes 25 = .ok (.aload_n 0, 1) := by decide +kernel
theorem dX4_passes_26 : decode cX4_passes 26 = .ok (.iload_n 1, 1) := by decide +kernel
theorem dX4_passes_27 : decode cX4_passes 27 = .ok (.invokevirtual 103, 3) := by decide +kernel
theorem dX4_passes_30 : decode cX4_passes 30 = .ok (.bastore, 1) := by decide +kernel
theorem dX4_passes_31 : decode cX4_passes 31 = .ok (.iinc 1 1, 3) := by decide +kernel
theorem dX4_passes_34 : decode cX4_passes 34 = .ok (.goto (-22), 3) := by decide +kernel
theorem dX4_passes_37 : decode cX4_passes 37 = .ok (.iconst 0, 1) := by decide +kernel
theorem dX4_passes_38 : decode cX4_passes 38 = .ok (.istore_n 1, 1) := by decide +kernel
theorem dX4_passes_39 : decode cX4_passes 39 = .ok (.iconst 0, 1) := by decide +kernel
theorem dX4_passes_40 : decode cX4_passes 40 = .ok (.istore_n 2, 1) := by decide +kernel
theorem dX4_passes_41 : decode cX4_passes 41 = .ok (.iload_n 2, 1) := by decide +kernel
theorem dX4_passes_42 : decode cX4_passes 42 = .ok (.aload_n 0, 1) := by decide +kernel
theorem dX4_passes_43 : decode cX4_passes 43 = .ok (.getfield 76, 3) := by decide +kernel
theorem dX4_passes_46 : decode cX4_passes 46 = .ok (.if_icmp .ge 75, 3) := by decide +kernel
theorem dX4_passes_49 : decode cX4_passes 49 = .ok (.aload_n 0, 1) := by decide +kernel
theorem dX4_passes_50 : decode cX4_passes 50 = .ok (.getfield 59, 3) := by decide +kernel
theorem dX4_passes_53 : decode cX4_passes 53 = .ok (.iload_n 2, 1) := by decide +kernel
theorem dX4_passes_54 : decode cX4_passes 54 = .ok (.dup2, 1) := by decide +kernel
theorem dX4_passes_55 : decode cX4_passes 55 = .ok (.iaload, 1) := by decide +kernel
theorem dX4_passes_56 : decode cX4_passes 56 = .ok (.aload_n 0, 1) := by decide +kernel
theorem dX4_passes_57 : decode cX4_passes 57 = .ok (.getfield 62, 3) := by decide +kernel
theorem dX4_passes_60 : decode cX4_passes 60 = .ok (.iload_n 2, 1) := by decide +kernel
theorem dX4_passes_61 : decode cX4_passes 61 = .ok (.baload, 1) := by decide +kernel
theorem dX4_passes_62 : decode cX4_passes 62 = .ok (.ifCond .eq 7, 3) := by decide +kernel
theorem dX4_passes_65 : decode cX4_passes 65 = .ok (.iconst 1, 1) := by decide +kernel
theorem dX4_passes_66 : decode cX4_passes 66 = .ok (.goto 4, 3) := by decide +kernel
theorem dX4_passes_69 : decode cX4_passes 69 = .ok (.iconst 0, 1) := by decide +kernel
theorem dX4_passes_70 : decode cX4_passes 70 = .ok (.iadd, 1) := by decide +kernel
theorem dX4_passes_71 : decode cX4_passes 71 = .ok (.iastore, 1) := by decide +kernel
theorem dX4_passes_72 : decode cX4_passes 72 = .ok (.aload_n 0, 1) := by decide +kernel
theorem dX4_passes_73 : decode cX4_passes 73 = .ok (.getfield 56, 3) := by decide +kernel
theorem dX4_passes_76 : decode cX4_passes 76 = .ok (.iload_n 2, 1) := by decide +kernel
theorem dX4_passes_77 : decode cX4_passes 77 = .ok (.iaload, 1) := by decide +kernel
theorem dX4_passes_78 : decode cX4_passes 78 = .ok (.iconst 2, 1) := by decide +kernel
theorem dX4_passes_79 : decode cX4_passes 79 = .ok (.if_icmp .ne 36, 3) := by decide +kernel
theorem dX4_passes_82 : decode cX4_passes 82 = .ok (.aload_n 0, 1) := by decide +kernel
theorem dX4_passes_83 : decode cX4_passes 83 = .ok (.getfield 97, 3) := by decide +kernel
theorem dX4_passes_86 : decode cX4_passes 86 = .ok (.aload_n 0, 1) := by decide +kernel
theorem dX4_passes_87 : decode cX4_passes 87 = .ok (.getfield 59, 3) := by decide +kernel
theorem dX4_passes_90 : decode cX4_passes 90 = .ok (.iload_n 2, 1) := by decide +kernel
theorem dX4_passes_91 : decode cX4_passes 91 = .ok (.iaload, 1) := by decide +kernel
theorem dX4_passes_92 : decode cX4_passes 92 = .ok (.if_icmp .le 23, 3) := by decide +kernel
theorem dX4_passes_95 : decode cX4_passes 95 = .ok (.aload_n 0, 1) := by decide +kernel
theorem dX4_passes_96 : decode cX4_passes 96 = .ok (.getfield 56, 3) := by decide +kernel
theorem dX4_passes_99 : decode cX4_passes 99 = .ok (.iload_n 2, 1) := by decide +kernel
theorem dX4_passes_100 : decode cX4_passes 100 = .ok (.iconst 3, 1) := by decide +kernel
theorem dX4_passes_101 : decode cX4_passes 101 = .ok (.iastore, 1) := by decide +kernel
theorem dX4_passes_102 : decode cX4_passes 102 = .ok (.aload_n 0, 1) := by decide +kernel
theorem dX4_passes_103 : decode cX4_passes 103 = .ok (.getfield 59, 3) := by decide +kernel
theorem dX4_passes_106 : decode cX4_passes 106 = .ok (.iload_n 2, 1) := by decide +kernel
theorem dX4_passes_107 : decode cX4_passes 107 = .ok (.aload_n 0, 1) := by decide +kernel
theorem dX4_passes_108 : decode cX4_passes 108 = .ok (.getfield 97, 3) := by decide +kernel
theorem dX4_passes_111 : decode cX4_passes 111 = .ok (.iastore, 1) := by decide +kernel
theorem dX4_passes_112 : decode cX4_passes 112 = .ok (.iinc 1 1, 3) := by decide +kernel
theorem dX4_passes_115 : decode cX4_passes 115 = .ok (.iinc 2 1, 3) := by decide +kernel
theorem dX4_passes_118 : decode cX4_passes 118 = .ok (.goto (-77), 3) := by decide +kernel
theorem dX4_passes_121 : decode cX4_passes 121 = .ok (.iload_n 1, 1) := by decide +kernel
theorem dX4_passes_122 : decode cX4_passes 122 = .ok (.ireturn, 1) := by decide +kernel
set_option maxRecDepth 20000 in
theorem ggX4_pass_X4_in : GoodIn wsX4_pass wsX4_in := goodIn_r _ [6] (by decide +kernel) (by decide +kernel)
set_option maxRecDepth 20000 in
theorem gX4_pass_X4_in : GoodIn wsX4_pass (va_wsS RX4 69 yX4_in wsX4_in) := goodIn_app (goodIn_of _ (by decide +kernel)) ggX4_pass_X4_in
set_option maxRecDepth 20000 in
theorem ggX4_pass_X4_passes : GoodIn wsX4_pass wsX4_passes := goodIn_r _ [10, 1, 11, 12, 13, 14, 15, 16, 17, 5, 18, 19, 20, 21, 22, 23, 24, 25, 26, 27, 28, 29, 30, 31, 32, 33, 34, 35, 36, 37, 38, 39, 40, 41, 42] (by decide +kernel) (by decide +kernel)
set_option maxRecDepth 20000 in
theorem gX4_pass_X4_passes : GoodIn wsX4_pass (wsV RX4 106 RX4 yX4_passes wsX4_passes) := goodIn_app (goodIn_of _ (by decide +kernel)) ggX4_pass_X4_passes
theorem dX4_pass_0 : decode cX4_pass 0 = .ok (.aload_n 0, 1) := by decide +kernel
theorem dX4_pass_1 : decode cX4_pass 1 = .ok (.iload_n 1, 1) := by decide +kernel
theorem dX4_pass_2 : decode cX4_pass 2 = .ok (.iconst 1, 1) := by decide +kernel
theorem dX4_pass_3 : decode cX4_pass 3 = .ok (.bipush 100, 2) := by decide +kernel
theorem dX4_pass_5 : decode cX4_pass 5 = .ok (.invokestatic 69, 3) := by decide +kernel
theorem dX4_pass_8 : decode cX4_pass 8 = .ok (.ifCond .ne 7, 3) := by decide +kernel
theorem dX4_pass_11 : decode cX4_pass 11 = .ok (.iconst 1, 1) := by decide +kernel
theorem dX4_pass_12 : decode cX4_pass 12 = .ok (.goto 20, 3) := by decide +kernel
theorem dX4_pass_15 : decode cX4_pass 15 = .ok (.aload_n 0, 1) := by decide +kernel
theorem dX4_pass_16 : decode cX4_pass 16 = .ok (.getfield 97, 3) := by decide +kernel
theorem dX4_pass_19 : decode cX4_pass 19 = .ok (.iload_n 1, 1) := by decide +kernel
theorem dX4_pass_20 : decode cX4_pass 20 = .ok (.iadd, 1) := by decide +kernel
theorem dX4_pass_21 : decode cX4_pass 21 = .ok (.sipush 9999, 3) := by decide +kernel
theorem dX4_pass_24 : decode cX4_pass 24 = .ok (.if_icmp .le 7, 3) := by decide +kernel
theorem dX4_pass_27 : decode cX4_pass 27 = .ok (.iconst 2, 1) := by decide +kernel
theorem dX4_pass_28 : decode cX4_pass 28 = .ok (.goto 4, 3) := by decide +kernel
theorem dX4_pass_31 : decode cX4_pass 31 = .ok (.iconst 0, 1) := by decide +kernel
theorem dX4_pass_32 : decode cX4_pass 32 = .ok (.putfield 65, 3) := by decide +kernel
theorem dX4_pass_35 : decode cX4_pass 35 = .ok (.iconst 0, 1) := by decide +kernel
theorem dX4_pass_36 : decode cX4_pass 36 = .ok (.istore_n 2, 1) := by decide +kernel
theorem dX4_pass_37 : decode cX4_pass 37 = .ok (.iconst 0, 1) := by decide +kernel
theorem dX4_pass_38 : decode cX4_pass 38 = .ok (.istore_n 3, 1) := by decide +kernel
theorem dX4_pass_39 : decode cX4_pass 39 = .ok (.iload_n 3, 1) := by decide +kernel
theorem dX4_pass_40 : decode cX4_pass 40 = .ok (.iload_n 1, 1) := by decide +kernel
theorem dX4_pass_41 : decode cX4_pass 41 = .ok (.if_icmp .ge 23, 3) := by decide +kernel
theorem dX4_pass_44 : decode cX4_pass 44 = .ok (.aload_n 0, 1) := by decide +kernel
theorem dX4_pass_45 : decode cX4_pass 45 = .ok (.getfield 65, 3) := by decide +kernel
theorem dX4_pass_48 : decode cX4_pass 48 = .ok (.ifCond .ne 16, 3) := by decide +kernel
theorem dX4_pass_51 : decode cX4_pass 51 = .ok (.iload_n 2, 1) := by decide +kernel
theorem dX4_pass_52 : decode cX4_pass 52 = .ok (.aload_n 0, 1) := by decide +kernel
theorem dX4_pass_53 : decode cX4_pass 53 = .ok (.invokevirtual 106, 3) := by decide +kernel
theorem dX4_pass_56 : decode cX4_pass 56 = .ok (.iadd, 1) := by decide +kernel
theorem dX4_pass_57 : decode cX4_pass 57 = .ok (.istore_n 2, 1) := by decide +kernel
theorem dX4_pass_58 : decode cX4_pass 58 = .ok (.iinc 3 1, 3) := by decide +kernel
theorem dX4_pass_61 : decode cX4_pass 61 = .ok (.goto (-22), 3) := by decide +kernel
theorem dX4_pass_64 : decode cX4_pass 64 = .ok (.iload_n 2, 1) := by decide +kernel
theorem dX4_pass_65 : decode cX4_pass 65 = .ok (.ireturn, 1) := by decide +kernel
theorem dX4_duties_0 : decode cX4_duties 0 = .ok (.aload_n 0, 1) := by decide +kernel
theorem dX4_duties_1 : decode cX4_duties 1 = .ok (.iconst 0, 1) := by decide +kernel
theorem dX4_duties_2 : decode cX4_duties 2 = .ok (.putfield 65, 3) := by decide +kernel
theorem dX4_duties_5 : decode cX4_duties 5 = .ok (.aload_n 0, 1) := by decide +kernel
theorem dX4_duties_6 : decode cX4_duties 6 = .ok (.getfield 76, 3) := by decide +kernel
theorem dX4_duties_9 : decode cX4_duties 9 = .ok (.ireturn, 1) := by decide +kernel
set_option maxRecDepth 20000 in
theorem ggX4_state_X4_isDuty : GoodIn wsX4_state wsX4_isDuty := goodIn_r _ [7, 8, 9, 10, 6, 11, 12, 13, 14, 15, 16, 17, 18, 19, 20, 21, 22, 23, 24, 25, 26, 27, 28, 29, 30, 31, 32, 33] (by decide +kernel) (by decide +kernel)
set_option maxRecDepth 20000 in
theorem gX4_state_X4_isDuty : GoodIn wsX4_state (wsV RX4 110 RX4 yX4_isDuty wsX4_isDuty) := goodIn_app (goodIn_of _ (by decide +kernel)) ggX4_state_X4_isDuty
theorem dX4_state_0 : decode cX4_state 0 = .ok (.aload_n 0, 1) := by decide +kernel
theorem dX4_state_1 : decode cX4_state 1 = .ok (.aload_n 0, 1) := by decide +kernel
theorem dX4_state_2 : decode cX4_state 2 = .ok (.iload_n 1, 1) := by decide +kernel
theorem dX4_state_3 : decode cX4_state 3 = .ok (.invokevirtual 110, 3) := by decide +kernel
theorem dX4_state_6 : decode cX4_state 6 = .ok (.ifCond .eq 7, 3) := by decide +kernel
theorem dX4_state_9 : decode cX4_state 9 = .ok (.iconst 0, 1) := by decide +kernel
theorem dX4_state_10 : decode cX4_state 10 = .ok (.goto 4, 3) := by decide +kernel
theorem dX4_state_13 : decode cX4_state 13 = .ok (.iconst 1, 1) := by decide +kernel
theorem dX4_state_14 : decode cX4_state 14 = .ok (.putfield 65, 3) := by decide +kernel
theorem dX4_state_17 : decode cX4_state 17 = .ok (.aload_n 0, 1) := by decide +kernel
theorem dX4_state_18 : decode cX4_state 18 = .ok (.getfield 65, 3) := by decide +kernel
theorem dX4_state_21 : decode cX4_state 21 = .ok (.ifCond .le 7, 3) := by decide +kernel
theorem dX4_state_24 : decode cX4_state 24 = .ok (.iconst 0, 1) := by decide +kernel
theorem dX4_state_25 : decode cX4_state 25 = .ok (.goto 9, 3) := by decide +kernel
theorem dX4_state_28 : decode cX4_state 28 = .ok (.aload_n 0, 1) := by decide +kernel
theorem dX4_state_29 : decode cX4_state 29 = .ok (.getfield 56, 3) := by decide +kernel
theorem dX4_state_32 : decode cX4_state 32 = .ok (.iload_n 1, 1) := by decide +kernel
theorem dX4_state_33 : decode cX4_state 33 = .ok (.iaload, 1) := by decide +kernel
theorem dX4_state_34 : decode cX4_state 34 = .ok (.ireturn, 1) := by decide +kernel
set_option maxRecDepth 20000 in
theorem ggX4_day_X4_isDuty : GoodIn wsX4_day wsX4_isDuty := goodIn_r _ [7, 8, 9, 10, 6, 11, 12, 13, 14, 15, 16, 17, 18, 19, 20, 21, 22, 23, 24, 25, 26, 27, 28, 29, 30, 31, 32, 33] (by decide +kernel) (by decide +kernel)
set_option maxRecDepth 20000 in
theorem gX4_day_X4_isDuty : GoodIn wsX4_day (wsV RX4 110 RX4 yX4_isDuty wsX4_isDuty) := goodIn_app (goodIn_of _ (by decide +kernel)) ggX4_day_X4_isDuty
theorem dX4_day_0 : decode cX4_day 0 = .ok (.aload_n 0, 1) := by decide +kernel
theorem dX4_day_1 : decode cX4_day 1 = .ok (.aload_n 0, 1) := by decide +kernel
theorem dX4_day_2 : decode cX4_day 2 = .ok (.iload_n 1, 1) := by decide +kernel
theorem dX4_day_3 : decode cX4_day 3 = .ok (.invokevirtual 110, 3) := by decide +kernel
theorem dX4_day_6 : decode cX4_day 6 = .ok (.ifCond .eq 7, 3) := by decide +kernel
theorem dX4_day_9 : decode cX4_day 9 = .ok (.iconst 0, 1) := by decide +kernel
theorem dX4_day_10 : decode cX4_day 10 = .ok (.goto 4, 3) := by decide +kernel
theorem dX4_day_13 : decode cX4_day 13 = .ok (.iconst 1, 1) := by decide +kernel
theorem dX4_day_14 : decode cX4_day 14 = .ok (.putfield 65, 3) := by decide +kernel
theorem dX4_day_17 : decode cX4_day 17 = .ok (.aload_n 0, 1) := by decide +kernel
theorem dX4_day_18 : decode cX4_day 18 = .ok (.getfield 65, 3) := by decide +kernel
theorem dX4_day_21 : decode cX4_day 21 = .ok (.ifCond .le 7, 3) := by decide +kernel
theorem dX4_day_24 : decode cX4_day 24 = .ok (.iconst 0, 1) := by decide +kernel
theorem dX4_day_25 : decode cX4_day 25 = .ok (.goto 9, 3) := by decide +kernel
theorem dX4_day_28 : decode cX4_day 28 = .ok (.aload_n 0, 1) := by decide +kernel
theorem dX4_day_29 : decode cX4_day 29 = .ok (.getfield 59, 3) := by decide +kernel
theorem dX4_day_32 : decode cX4_day 32 = .ok (.iload_n 1, 1) := by decide +kernel
theorem dX4_day_33 : decode cX4_day 33 = .ok (.iaload, 1) := by decide +kernel
theorem dX4_day_34 : decode cX4_day 34 = .ok (.ireturn, 1) := by decide +kernel
set_option maxRecDepth 20000 in
theorem ggX4_isSuspended_X4_isDuty : GoodIn wsX4_isSuspended wsX4_isDuty := goodIn_r _ [6, 7, 8, 9, 5, 10, 18, 19, 20, 21, 22, 23, 24, 25, 26, 27, 28, 29, 30, 31, 32, 33, 34, 35, 36, 37, 38, 39] (by decide +kernel) (by decide +kernel)
set_option maxRecDepth 20000 in
theorem gX4_isSuspended_X4_isDuty : GoodIn wsX4_isSuspended (wsV RX4 110 RX4 yX4_isDuty wsX4_isDuty) := goodIn_app (goodIn_of _ (by decide +kernel)) ggX4_isSuspended_X4_isDuty
set_option maxRecDepth 20000 in
theorem ggX4_isSuspended_X4_isSuspendedNow : GoodIn wsX4_isSuspended wsX4_isSuspendedNow := goodIn_r _ [14, 7, 15, 16, 17, 18, 19, 20, 21, 22, 23, 24, 25, 26, 27, 28, 29, 30, 31, 32, 33, 34, 35, 36, 37, 38, 39] (by decide +kernel) (by decide +kernel)
set_option maxRecDepth 20000 in
theorem gX4_isSuspended_X4_isSuspendedNow : GoodIn wsX4_isSuspended (wsV RX4 103 RX4 yX4_isSuspendedNow wsX4_isSuspendedNow) := goodIn_app (goodIn_of _ (by decide +kernel)) ggX4_isSuspended_X4_isSuspendedNow
theorem dX4_isSuspended_0 : decode cX4_isSuspended 0 = .ok (.aload_n 0, 1) := by decide +kernel
theorem dX4_isSuspended_1 : decode cX4_isSuspended 1 = .ok (.aload_n 0, 1) := by decide +kernel
theorem dX4_isSuspended_2 : decode cX4_isSuspended 2 = .ok (.iload_n 1, 1) := by decide +kernel
theorem dX4_isSuspended_3 : decode cX4_isSuspended 3 = .ok (.invokevirtual 110, 3) := by decide +kernel
theorem dX4_isSuspended_6 : decode cX4_isSuspended 6 = .ok (.ifCond .eq 7, 3) := by decide +kernel
theorem dX4_isSuspended_9 : decode cX4_isSuspended 9 = .ok (.iconst 0, 1) := by decide +kernel
theorem dX4_isSuspended_10 : decode cX4_isSuspended 10 = .ok (.goto 4, 3) := by decide +kernel
theorem dX4_isSuspended_13 : decode cX4_isSuspended 13 = .ok (.iconst 1, 1) := by decide +kernel
theorem dX4_isSuspended_14 : decode cX4_isSuspended 14 = .ok (.putfield 65, 3) := by decide +kernel
theorem dX4_isSuspended_17 : decode cX4_isSuspended 17 = .ok (.aload_n 0, 1) := by decide +kernel
theorem dX4_isSuspended_18 : decode cX4_isSuspended 18 = .ok (.getfield 65, 3) := by decide +kernel
theorem dX4_isSuspended_21 : decode cX4_isSuspended 21 = .ok (.ifCond .ne 15, 3) := by decide +kernel
theorem dX4_isSuspended_24 : decode cX4_isSuspended 24 = .ok (.aload_n 0, 1) := by decide +kernel
theorem dX4_isSuspended_25 : decode cX4_isSuspended 25 = .ok (.iload_n 1, 1) := by decide +kernel
theorem dX4_isSuspended_26 : decode cX4_isSuspended 26 = .ok (.invokevirtual 103, 3) := by decide +kernel
theorem dX4_isSuspended_29 : decode cX4_isSuspended 29 = .ok (.ifCond .eq 7, 3) := by decide +kernel
theorem dX4_isSuspended_32 : decode cX4_isSuspended 32 = .ok (.iconst 1, 1) := by decide +kernel
theorem dX4_isSuspended_33 : decode cX4_isSuspended 33 = .ok (.goto 4, 3) := by decide +kernel
theorem dX4_isSuspended_36 : decode cX4_isSuspended 36 = .ok (.iconst 0, 1) := by decide +kernel
theorem dX4_isSuspended_37 : decode cX4_isSuspended 37 = .ok (.ireturn, 1) := by decide +kernel
set_option maxRecDepth 20000 in
theorem ggX4_perform_X4_isDuty : GoodIn wsX4_perform wsX4_isDuty := goodIn_r _ [9, 10, 11, 12, 8, 13, 14, 15, 16, 17, 18, 19, 20, 21, 22, 23, 24, 25, 26, 27, 28, 29, 30, 31, 32, 33, 34, 35] (by decide +kernel) (by decide +kernel)
set_option maxRecDepth 20000 in
theorem gX4_perform_X4_isDuty : GoodIn wsX4_perform (wsV RX4 110 RX4 yX4_isDuty wsX4_isDuty) := goodIn_app (goodIn_of _ (by decide +kernel)) ggX4_perform_X4_isDuty
theorem dX4_perform_0 : decode cX4_perform 0 = .ok (.aload_n 0, 1) := by decide +kernel
theorem dX4_perform_1 : decode cX4_perform 1 = .ok (.aload_n 0, 1) := by decide +kernel
theorem dX4_perform_2 : decode cX4_perform 2 = .ok (.iload_n 1, 1) := by decide +kernel
theorem dX4_perform_3 : decode cX4_perform 3 = .ok (.invokevirtual 110, 3) := by decide +kernel
theorem dX4_perform_6 : decode cX4_perform 6 = .ok (.ifCond .ne 7, 3) := by decide +kernel
theorem dX4_perform_9 : decode cX4_perform 9 = .ok (.iconst 1, 1) := by decide +kernel
theorem dX4_perform_10 : decode cX4_perform 10 = .ok (.goto 27, 3) := by decide +kernel
theorem dX4_perform_13 : decode cX4_perform 13 = .ok (.aload_n 0, 1) := by decide +kernel
theorem dX4_perform_14 : decode cX4_perform 14 = .ok (.getfield 56, 3) := by decide +kernel
theorem dX4_perform_17 : decode cX4_perform 17 = .ok (.iload_n 1, 1) := by decide +kernel
theorem dX4_perform_18 : decode cX4_perform 18 = .ok (.iaload, 1) := by decide +kernel
theorem dX4_perform_19 : decode cX4_perform 19 = .ok (.ifCond .eq 13, 3) := by decide +kernel
theorem dX4_perform_22 : decode cX4_perform 22 = .ok (.aload_n 0, 1) := by decide +kernel
theorem dX4_perform_23 : decode cX4_perform 23 = .ok (.getfield 56, 3) := by decide +kernel
theorem dX4_perform_26 : decode cX4_perform 26 = .ok (.iload_n 1, 1) := by decide +kernel
theorem dX4_perform_27 : decode cX4_perform 27 = .ok (.iaload, 1) := by decide +kernel
theorem dX4_perform_28 : decode cX4_perform 28 = .ok (.iconst 2, 1) := by decide +kernel
theorem dX4_perform_29 : decode cX4_perform 29 = .ok (.if_icmp .ne 7, 3) := by decide +kernel
theorem dX4_perform_32 : decode cX4_perform 32 = .ok (.iconst 0, 1) := by decide +kernel
theorem dX4_perform_33 : decode cX4_perform 33 = .ok (.goto 4, 3) := by decide +kernel
theorem dX4_perform_36 : decode cX4_perform 36 = .ok (.iconst 2, 1) := by decide +kernel
theorem dX4_perform_37 : decode cX4_perform 37 = .ok (.putfield 65, 3) := by decide +kernel
theorem dX4_perform_40 : decode cX4_perform 40 = .ok (.aload_n 0, 1) := by decide +kernel
theorem dX4_perform_41 : decode cX4_perform 41 = .ok (.getfield 65, 3) := by decide +kernel
theorem dX4_perform_44 : decode cX4_perform 44 = .ok (.ifCond .le 5, 3) := by decide +kernel
theorem dX4_perform_47 : decode cX4_perform 47 = .ok (.iconst 0, 1) := by decide +kernel
theorem dX4_perform_48 : decode cX4_perform 48 = .ok (.ireturn, 1) := by decide +kernel
theorem dX4_perform_49 : decode cX4_perform 49 = .ok (.aload_n 0, 1) := by decide +kernel
theorem dX4_perform_50 : decode cX4_perform 50 = .ok (.getfield 56, 3) := by decide +kernel
theorem dX4_perform_53 : decode cX4_perform 53 = .ok (.iload_n 1, 1) := by decide +kernel
theorem dX4_perform_54 : decode cX4_perform 54 = .ok (.iaload, 1) := by decide +kernel
theorem dX4_perform_55 : decode cX4_perform 55 = .ok (.iconst 2, 1) := by decide +kernel
theorem dX4_perform_56 : decode cX4_perform 56 = .ok (.if_icmp .eq 16, 3) := by decide +kernel
theorem dX4_perform_59 : decode cX4_perform 59 = .ok (.aload_n 0, 1) := by decide +kernel
theorem dX4_perform_60 : decode cX4_perform 60 = .ok (.getfield 97, 3) := by decide +kernel
theorem dX4_perform_63 : decode cX4_perform 63 = .ok (.aload_n 0, 1) := by decide +kernel
theorem dX4_perform_64 : decode cX4_perform 64 = .ok (.getfield 59, 3) := by decide +kernel
theorem dX4_perform_67 : decode cX4_perform 67 = .ok (.iload_n 1, 1) := by decide +kernel
theorem dX4_perform_68 : decode cX4_perform 68 = .ok (.iaload, 1) := by decide +kernel
theorem dX4_perform_69 : decode cX4_perform 69 = .ok (.if_icmp .le 7, 3) := by decide +kernel
theorem dX4_perform_72 : decode cX4_perform 72 = .ok (.iconst 1, 1) := by decide +kernel
theorem dX4_perform_73 : decode cX4_perform 73 = .ok (.goto 4, 3) := by decide +kernel
theorem dX4_perform_76 : decode cX4_perform 76 = .ok (.iconst 0, 1) := by decide +kernel
theorem dX4_perform_77 : decode cX4_perform 77 = .ok (.istore_n 2, 1) := by decide +kernel
theorem dX4_perform_78 : decode cX4_perform 78 = .ok (.aload_n 0, 1) := by decide +kernel
theorem dX4_perform_79 : decode cX4_perform 79 = .ok (.getfield 56, 3) := by decide +kernel
theorem dX4_perform_82 : decode cX4_perform 82 = .ok (.iload_n 1, 1) := by decide +kernel
theorem dX4_perform_83 : decode cX4_perform 83 = .ok (.iconst 1, 1) := by decide +kernel
theorem dX4_perform_84 : decode cX4_perform 84 = .ok (.iastore, 1) := by decide +kernel
theorem dX4_perform_85 : decode cX4_perform 85 = .ok (.aload_n 0, 1) := by decide +kernel
theorem dX4_perform_86 : decode cX4_perform 86 = .ok (.getfield 59, 3) := by decide +kernel
theorem dX4_perform_89 : decode cX4_perform 89 = .ok (.iload_n 1, 1) := by decide +kernel
theorem dX4_perform_90 : decode cX4_perform 90 = .ok (.aload_n 0, 1) := by decide +kernel
theorem dX4_perform_91 : decode cX4_perform 91 = .ok (.getfield 97, 3) := by decide +kernel
theorem dX4_perform_94 : decode cX4_perform 94 = .ok (.iastore, 1) := by decide +kernel
theorem dX4_perform_95 : decode cX4_perform 95 = .ok (.iload_n 2, 1) := by decide +kernel
theorem dX4_perform_96 : decode cX4_perform 96 = .ok (.ireturn, 1) := by decide +kernel
set_option maxRecDepth 20000 in
theorem ggX4_notice_X4_isDuty : GoodIn wsX4_notice wsX4_isDuty := goodIn_r _ [10, 11, 12, 13, 9, 14, 15, 16, 17, 18, 19, 20, 21, 22, 23, 24, 25, 26, 27, 28, 29, 30, 31, 32, 33, 34, 35, 36] (by decide +kernel) (by decide +kernel)
set_option maxRecDepth 20000 in
theorem gX4_notice_X4_isDuty : GoodIn wsX4_notice (wsV RX4 110 RX4 yX4_isDuty wsX4_isDuty) := goodIn_app (goodIn_of _ (by decide +kernel)) ggX4_notice_X4_isDuty
theorem dX4_notice_0 : decode cX4_notice 0 = .ok (.aload_n 0, 1) := by decide +kernel
theorem dX4_notice_1 : decode cX4_notice 1 = .ok (.aload_n 0, 1) := by decide +kernel
theorem dX4_notice_2 : decode cX4_notice 2 = .ok (.iload_n 1, 1) := by decide +kernel
theorem dX4_notice_3 : decode cX4_notice 3 = .ok (.invokevirtual 110, 3) := by decide +kernel
theorem dX4_notice_6 : decode cX4_notice 6 = .ok (.ifCond .ne 7, 3) := by decide +kernel
theorem dX4_notice_9 : decode cX4_notice 9 = .ok (.iconst 1, 1) := by decide +kernel
theorem dX4_notice_10 : decode cX4_notice 10 = .ok (.goto 30, 3) := by decide +kernel
theorem dX4_notice_13 : decode cX4_notice 13 = .ok (.aload_n 0, 1) := by decide +kernel
theorem dX4_notice_14 : decode cX4_notice 14 = .ok (.getfield 56, 3) := by decide +kernel
theorem dX4_notice_17 : decode cX4_notice 17 = .ok (.iload_n 1, 1) := by decide +kernel
theorem dX4_notice_18 : decode cX4_notice 18 = .ok (.iaload, 1) := by decide +kernel
theorem dX4_notice_19 : decode cX4_notice 19 = .ok (.ifCond .ne 20, 3) := by decide +kernel
theorem dX4_notice_22 : decode cX4_notice 22 = .ok (.aload_n 0, 1) := by decide +kernel
theorem dX4_notice_23 : decode cX4_notice 23 = .ok (.getfield 97, 3) := by decide +kernel
theorem dX4_notice_26 : decode cX4_notice 26 = .ok (.aload_n 0, 1) := by decide +kernel
theorem dX4_notice_27 : decode cX4_notice 27 = .ok (.getfield 59, 3) := by decide +kernel
theorem dX4_notice_30 : decode cX4_notice 30 = .ok (.iload_n 1, 1) := by decide +kernel
theorem dX4_notice_31 : decode cX4_notice 31 = .ok (.iaload, 1) := by decide +kernel
theorem dX4_notice_32 : decode cX4_notice 32 = .ok (.if_icmp .le 7, 3) := by decide +kernel
theorem dX4_notice_35 : decode cX4_notice 35 = .ok (.iconst 0, 1) := by decide +kernel
theorem dX4_notice_36 : decode cX4_notice 36 = .ok (.goto 4, 3) := by decide +kernel
theorem dX4_notice_39 : decode cX4_notice 39 = .ok (.iconst 2, 1) := by decide +kernel
theorem dX4_notice_40 : decode cX4_notice 40 = .ok (.putfield 65, 3) := by decide +kernel
theorem dX4_notice_43 : decode cX4_notice 43 = .ok (.aload_n 0, 1) := by decide +kernel
theorem dX4_notice_44 : decode cX4_notice 44 = .ok (.getfield 65, 3) := by decide +kernel
theorem dX4_notice_47 : decode cX4_notice 47 = .ok (.ifCond .le 5, 3) := by decide +kernel
theorem dX4_notice_50 : decode cX4_notice 50 = .ok (.iconst 0, 1) := by decide +kernel
theorem dX4_notice_51 : decode cX4_notice 51 = .ok (.ireturn, 1) := by decide +kernel
theorem dX4_notice_52 : decode cX4_notice 52 = .ok (.aload_n 0, 1) := by decide +kernel
theorem dX4_notice_53 : decode cX4_notice 53 = .ok (.getfield 56, 3) := by decide +kernel
theorem dX4_notice_56 : decode cX4_notice 56 = .ok (.iload_n 1, 1) := by decide +kernel
theorem dX4_notice_57 : decode cX4_notice 57 = .ok (.iconst 2, 1) := by decide +kernel
theorem dX4_notice_58 : decode cX4_notice 58 = .ok (.iastore, 1) := by decide +kernel
theorem dX4_notice_59 : decode cX4_notice 59 = .ok (.aload_n 0, 1) := by decide +kernel
theorem dX4_notice_60 : decode cX4_notice 60 = .ok (.getfield 59, 3) := by decide +kernel
theorem dX4_notice_63 : decode cX4_notice 63 = .ok (.iload_n 1, 1) := by decide +kernel
theorem dX4_notice_64 : decode cX4_notice 64 = .ok (.aload_n 0, 1) := by decide +kernel
theorem dX4_notice_65 : decode cX4_notice 65 = .ok (.getfield 97, 3) := by decide +kernel
theorem dX4_notice_68 : decode cX4_notice 68 = .ok (.aload_n 0, 1) := by decide +kernel
theorem dX4_notice_69 : decode cX4_notice 69 = .ok (.getfield 50, 3) := by decide +kernel
theorem dX4_notice_72 : decode cX4_notice 72 = .ok (.iload_n 1, 1) := by decide +kernel
theorem dX4_notice_73 : decode cX4_notice 73 = .ok (.iaload, 1) := by decide +kernel
theorem dX4_notice_74 : decode cX4_notice 74 = .ok (.iadd, 1) := by decide +kernel
theorem dX4_notice_75 : decode cX4_notice 75 = .ok (.iastore, 1) := by decide +kernel
theorem dX4_notice_76 : decode cX4_notice 76 = .ok (.aload_n 0, 1) := by decide +kernel
theorem dX4_notice_77 : decode cX4_notice 77 = .ok (.getfield 59, 3) := by decide +kernel
theorem dX4_notice_80 : decode cX4_notice 80 = .ok (.iload_n 1, 1) := by decide +kernel
theorem dX4_notice_81 : decode cX4_notice 81 = .ok (.iaload, 1) := by decide +kernel
theorem dX4_notice_82 : decode cX4_notice 82 = .ok (.ireturn, 1) := by decide +kernel
set_option maxRecDepth 20000 in
theorem ggX4_settle_X4_isDuty : GoodIn wsX4_settle wsX4_isDuty := goodIn_r _ [10, 11, 12, 13, 9, 14, 15, 16, 17, 18, 19, 20, 21, 22, 23, 24, 25, 26, 27, 28, 29, 30, 31, 32, 33, 34, 35, 36] (by decide +kernel) (by decide +kernel)
set_option maxRecDepth 20000 in
theorem gX4_settle_X4_isDuty : GoodIn wsX4_settle (wsV RX4 110 RX4 yX4_isDuty wsX4_isDuty) := goodIn_app (goodIn_of _ (by decide +kernel)) ggX4_settle_X4_isDuty
theorem dX4_settle_0 : decode cX4_settle 0 = .ok (.aload_n 0, 1) := by decide +kernel
theorem dX4_settle_1 : decode cX4_settle 1 = .ok (.aload_n 0, 1) := by decide +kernel
theorem dX4_settle_2 : decode cX4_settle 2 = .ok (.iload_n 1, 1) := by decide +kernel
theorem dX4_settle_3 : decode cX4_settle 3 = .ok (.invokevirtual 110, 3) := by decide +kernel
theorem dX4_settle_6 : decode cX4_settle 6 = .ok (.ifCond .ne 7, 3) := by decide +kernel
theorem dX4_settle_9 : decode cX4_settle 9 = .ok (.iconst 1, 1) := by decide +kernel
theorem dX4_settle_10 : decode cX4_settle 10 = .ok (.goto 18, 3) := by decide +kernel
theorem dX4_settle_13 : decode cX4_settle 13 = .ok (.aload_n 0, 1) := by decide +kernel
theorem dX4_settle_14 : decode cX4_settle 14 = .ok (.getfield 56, 3) := by decide +kernel
theorem dX4_settle_17 : decode cX4_settle 17 = .ok (.iload_n 1, 1) := by decide +kernel
theorem dX4_settle_18 : decode cX4_settle 18 = .ok (.iaload, 1) := by decide +kernel
theorem dX4_settle_19 : decode cX4_settle 19 = .ok (.iconst 3, 1) := by decide +kernel
theorem dX4_settle_20 : decode cX4_settle 20 = .ok (.if_icmp .ne 7, 3) := by decide +kernel
theorem dX4_settle_23 : decode cX4_settle 23 = .ok (.iconst 0, 1) := by decide +kernel
theorem dX4_settle_24 : decode cX4_settle 24 = .ok (.goto 4, 3) := by decide +kernel
theorem dX4_settle_27 : decode cX4_settle 27 = .ok (.iconst 2, 1) := by decide +kernel
theorem dX4_settle_28 : decode cX4_settle 28 = .ok (.putfield 65, 3) := by decide +kernel
theorem dX4_settle_31 : decode cX4_settle 31 = .ok (.aload_n 0, 1) := by decide +kernel
theorem dX4_settle_32 : decode cX4_settle 32 = .ok (.getfield 65, 3) := by decide +kernel
theorem dX4_settle_35 : decode cX4_settle 35 = .ok (.ifCond .le 5, 3) := by decide +kernel
theorem dX4_settle_38 : decode cX4_settle 38 = .ok (.iconst 0, 1) := by decide +kernel
theorem dX4_settle_39 : decode cX4_settle 39 = .ok (.ireturn, 1) := by decide +kernel
theorem dX4_settle_40 : decode cX4_settle 40 = .ok (.aload_n 0, 1) := by decide +kernel
theorem dX4_settle_41 : decode cX4_settle 41 = .ok (.getfield 56, 3) := by decide +kernel
theorem dX4_settle_44 : decode cX4_settle 44 = .ok (.iload_n 1, 1) := by decide +kernel
theorem dX4_settle_45 : decode cX4_settle 45 = .ok (.iconst 4, 1) := by decide +kernel
theorem dX4_settle_46 : decode cX4_settle 46 = .ok (.iastore, 1) := by decide +kernel
theorem dX4_settle_47 : decode cX4_settle 47 = .ok (.aload_n 0, 1) := by decide +kernel
theorem dX4_settle_48 : decode cX4_settle 48 = .ok (.getfield 59, 3) := by decide +kernel
theorem dX4_settle_51 : decode cX4_settle 51 = .ok (.iload_n 1, 1) := by decide +kernel
theorem dX4_settle_52 : decode cX4_settle 52 = .ok (.aload_n 0, 1) := by decide +kernel
theorem dX4_settle_53 : decode cX4_settle 53 = .ok (.getfield 97, 3) := by decide +kernel
theorem dX4_settle_56 : decode cX4_settle 56 = .ok (.iastore, 1) := by decide +kernel
theorem dX4_settle_57 : decode cX4_settle 57 = .ok (.aload_n 0, 1) := by decide +kernel
theorem dX4_settle_58 : decode cX4_settle 58 = .ok (.getfield 53, 3) := by decide +kernel
theorem dX4_settle_61 : decode cX4_settle 61 = .ok (.iload_n 1, 1) := by decide +kernel
theorem dX4_settle_62 : decode cX4_settle 62 = .ok (.iaload, 1) := by decide +kernel
theorem dX4_settle_63 : decode cX4_settle 63 = .ok (.ireturn, 1) := by decide +kernel
set_option maxRecDepth 20000 in
theorem ggX4_owes_X4_isContract : GoodIn wsX4_owes wsX4_isContract := goodIn_r _ [11, 12, 13, 14, 10, 15, 19, 20, 21, 22, 23, 24, 25, 26, 27, 28, 29, 30, 31, 32, 33, 34, 35, 36, 37, 38, 39, 40] (by decide +kernel) (by decide +kernel)
set_option maxRecDepth 20000 in
theorem gX4_owes_X4_isContract : GoodIn wsX4_owes (wsV RX4 86 RX4 yX4_isContract wsX4_isContract) := goodIn_app (goodIn_of _ (by decide +kernel)) ggX4_owes_X4_isContract
set_option maxRecDepth 20000 in
theorem ggX4_owes_X4_isSide : GoodIn wsX4_owes wsX4_isSide := goodIn_r _ [18, 13, 14, 10, 15] (by decide +kernel) (by decide +kernel)
set_option maxRecDepth 20000 in
theorem gX4_owes_X4_isSide : GoodIn wsX4_owes (va_wsS RX4 83 yX4_isSide wsX4_isSide) := goodIn_app (goodIn_of _ (by decide +kernel)) ggX4_owes_X4_isSide
theorem dX4_owes_0 : decode cX4_owes 0 = .ok (.aload_n 0, 1) := by decide +kernel
theorem dX4_owes_1 : decode cX4_owes 1 = .ok (.aload_n 0, 1) := by decide +kernel
theorem dX4_owes_2 : decode cX4_owes 2 = .ok (.iload_n 1, 1) := by decide +kernel
theorem dX4_owes_3 : decode cX4_owes 3 = .ok (.invokevirtual 86, 3) := by decide +kernel
theorem dX4_owes_6 : decode cX4_owes 6 = .ok (.ifCond .ne 7, 3) := by decide +kernel
theorem dX4_owes_9 : decode cX4_owes 9 = .ok (.iconst 1, 1) := by decide +kernel
theorem dX4_owes_10 : decode cX4_owes 10 = .ok (.goto 15, 3) := by decide +kernel
theorem dX4_owes_13 : decode cX4_owes 13 = .ok (.iload_n 2, 1) := by decide +kernel
theorem dX4_owes_14 : decode cX4_owes 14 = .ok (.invokestatic 83, 3) := by decide +kernel
theorem dX4_owes_17 : decode cX4_owes 17 = .ok (.ifCond .eq 7, 3) := by decide +kernel
theorem dX4_owes_20 : decode cX4_owes 20 = .ok (.iconst 0, 1) := by decide +kernel
theorem dX4_owes_21 : decode cX4_owes 21 = .ok (.goto 4, 3) := by decide +kernel
theorem dX4_owes_24 : decode cX4_owes 24 = .ok (.iconst 2, 1) := by decide +kernel
theorem dX4_owes_25 : decode cX4_owes 25 = .ok (.putfield 65, 3) := by decide +kernel
theorem dX4_owes_28 : decode cX4_owes 28 = .ok (.iconst 0, 1) := by decide +kernel
theorem dX4_owes_29 : decode cX4_owes 29 = .ok (.istore_n 3, 1) := by decide +kernel
theorem dX4_owes_30 : decode cX4_owes 30 = .ok (.iconst 0, 1) := by decide +kernel
theorem dX4_owes_31 : decode cX4_owes 31 = .ok (.istore 4, 2) := by decide +kernel
theorem dX4_owes_33 : decode cX4_owes 33 = .ok (.iload 4, 2) := by decide +kernel
theorem dX4_owes_35 : decode cX4_owes 35 = .ok (.aload_n 0, 1) := by decide +kernel
theorem dX4_owes_36 : decode cX4_owes 36 = .ok (.getfield 76, 3) := by decide +kernel
theorem dX4_owes_39 : decode cX4_owes 39 = .ok (.if_icmp .ge 86, 3) := by decide +kernel
theorem dX4_owes_42 : decode cX4_owes 42 = .ok (.aload_n 0, 1) := by decide +kernel
theorem dX4_owes_43 : decode cX4_owes 43 = .ok (.getfield 65, 3) := by decide +kernel
theorem dX4_owes_46 : decode cX4_owes 46 = .ok (.ifCond .ne 79, 3) := by decide +kernel
theorem dX4_owes_49 : decode cX4_owes 49 = .ok (.aload_n 0, 1) := by decide +kernel
theorem dX4_owes_50 : decode cX4_owes 50 = .ok (.getfield 44, 3) := by decide +kernel
theorem dX4_owes_53 : decode cX4_owes 53 = .ok (.iload 4, 2) := by decide +kernel
theorem dX4_owes_55 : decode cX4_owes 55 = .ok (.iaload, 1) := by decide +kernel
theorem dX4_owes_56 : decode cX4_owes 56 = .ok (.iload_n 1, 1) := by decide +kernel
theorem dX4_owes_57 : decode cX4_owes 57 = .ok (.if_icmp .ne 18, 3) := by decide +kernel
theorem dX4_owes_60 : decode cX4_owes 60 = .ok (.aload_n 0, 1) := by decide +kernel
theorem dX4_owes_61 : decode cX4_owes 61 = .ok (.getfield 56, 3) := by decide +kernel
theorem dX4_owes_64 : decode cX4_owes 64 = .ok (.iload 4, 2) := by decide +kernel
theorem dX4_owes_66 : decode cX4_owes 66 = .ok (.iaload, 1) := by decide +kernel
theorem dX4_owes_67 : decode cX4_owes 67 = .ok (.iconst 3, 1) := by decide +kernel
theorem dX4_owes_68 : decode cX4_owes 68 = .ok (.if_icmp .ne 7, 3) := by decide +kernel
theorem dX4_owes_71 : decode cX4_owes 71 = .ok (.iconst 1, 1) := by decide +kernel
theorem dX4_owes_72 : decode cX4_owes 72 = .ok (.goto 4, 3) := by decide +kernel
theorem dX4_owes_75 : decode cX4_owes 75 = .ok (.iconst 0, 1) := by decide +kernel
theorem dX4_owes_76 : decode cX4_owes 76 = .ok (.istore 5, 2) := by decide +kernel
theorem dX4_owes_78 : decode cX4_owes 78 = .ok (.iload_n 3, 1) := by decide +kernel
theorem dX4_owes_79 : decode cX4_owes 79 = .ok (.iload 5, 2) := by decide +kernel
theorem dX4_owes_81 : decode cX4_owes 81 = .ok (.ifCond .ne 7, 3) := by decide +kernel
theorem dX4_owes_84 : decode cX4_owes 84 = .ok (.iconst 0, 1) := by decide +kernel
theorem dX4_owes_85 : decode cX4_owes 85 = .ok (.goto 32, 3) := by decide +kernel
theorem dX4_owes_88 : decode cX4_owes 88 = .ok (.aload_n 0, 1) := by decide +kernel
theorem dX4_owes_89 : decode cX4_owes 89 = .ok (.getfield 47, 3) := by decide +kernel
theorem dX4_owes_92 : decode cX4_owes 92 = .ok (.iload 4, 2) := by decide +kernel
theorem dX4_owes_94 : decode cX4_owes 94 = .ok (.iaload, 1) := by decide +kernel
theorem dX4_owes_95 : decode cX4_owes 95 = .ok (.iload_n 2, 1) := by decide +kernel
theorem dX4_owes_96 : decode cX4_owes 96 = .ok (.if_icmp .ne 13, 3) := by decide +kernel
theorem dX4_owes_99 : decode cX4_owes 99 = .ok (.aload_n 0, 1) := by decide +kernel
theorem dX4_owes_100 : decode cX4_owes 100 = .ok (.getfield 53, 3) := by decide +kernel
theorem dX4_owes_103 : decode cX4_owes 103 = .ok (.iload 4, 2) := by decide +kernel
theorem dX4_owes_105 : decode cX4_owes 105 = .ok (.iaload, 1) := by decide +kernel
theorem dX4_owes_106 : decode cX4_owes 106 = .ok (.goto 11, 3) := by decide +kernel
theorem dX4_owes_109 : decode cX4_owes 109 = .ok (.aload_n 0, 1) := by decide +kernel
theorem dX4_owes_110 : decode cX4_owes 110 = .ok (.getfield 53, 3) := by decide +kernel
theorem dX4_owes_113 : decode cX4_owes 113 = .ok (.iload 4, 2) := by decide +kernel
theorem dX4_owes_115 : decode cX4_owes 115 = .ok (.iaload, 1) := by decide +kernel
theorem dX4_owes_116 : decode cX4_owes 116 = .ok (.ineg, 1) := by decide +kernel
theorem dX4_owes_117 : decode cX4_owes 117 = .ok (.iadd, 1) := by decide +kernel
theorem dX4_owes_118 : decode cX4_owes 118 = .ok (.istore_n 3, 1) := by decide +kernel
theorem dX4_owes_119 : decode cX4_owes 119 = .ok (.iinc 4 1, 3) := by decide +kernel
theorem dX4_owes_122 : decode cX4_owes 122 = .ok (.goto (-89), 3) := by decide +kernel
theorem dX4_owes_125 : decode cX4_owes 125 = .ok (.iload_n 3, 1) := by decide +kernel
theorem dX4_owes_126 : decode cX4_owes 126 = .ok (.ifCond .ge 7, 3) := by decide +kernel
theorem dX4_owes_129 : decode cX4_owes 129 = .ok (.iconst 0, 1) := by decide +kernel
theorem dX4_owes_130 : decode cX4_owes 130 = .ok (.goto 4, 3) := by decide +kernel
theorem dX4_owes_133 : decode cX4_owes 133 = .ok (.iload_n 3, 1) := by decide +kernel
theorem dX4_owes_134 : decode cX4_owes 134 = .ok (.ireturn, 1) := by decide +kernel
theorem dJ9_max_7cf53_0 : decode cJ9_max_7cf53 0 = .ok (.iload_n 0, 1) := by decide +kernel
theorem dJ9_max_7cf53_1 : decode cJ9_max_7cf53 1 = .ok (.iload_n 1, 1) := by decide +kernel
theorem dJ9_max_7cf53_2 : decode cJ9_max_7cf53 2 = .ok (.if_icmp .lt 7, 3) := by decide +kernel
theorem dJ9_max_7cf53_5 : decode cJ9_max_7cf53 5 = .ok (.iload_n 0, 1) := by decide +kernel
theorem dJ9_max_7cf53_6 : decode cJ9_max_7cf53 6 = .ok (.goto 4, 3) := by decide +kernel
theorem dJ9_max_7cf53_9 : decode cJ9_max_7cf53 9 = .ok (.iload_n 1, 1) := by decide +kernel
theorem dJ9_max_7cf53_10 : decode cJ9_max_7cf53 10 = .ok (.ireturn, 1) := by decide +kernel
theorem dJ9_min_7cf53_0 : decode cJ9_min_7cf53 0 = .ok (.iload_n 0, 1) := by decide +kernel
theorem dJ9_min_7cf53_1 : decode cJ9_min_7cf53 1 = .ok (.iload_n 1, 1) := by decide +kernel
theorem dJ9_min_7cf53_2 : decode cJ9_min_7cf53 2 = .ok (.if_icmp .gt 7, 3) := by decide +kernel
theorem dJ9_min_7cf53_5 : decode cJ9_min_7cf53 5 = .ok (.iload_n 0, 1) := by decide +kernel
theorem dJ9_min_7cf53_6 : decode cJ9_min_7cf53 6 = .ok (.goto 4, 3) := by decide +kernel
theorem dJ9_min_7cf53_9 : decode cJ9_min_7cf53 9 = .ok (.iload_n 1, 1) := by decide +kernel
theorem dJ9_min_7cf53_10 : decode cJ9_min_7cf53 10 = .ok (.ireturn, 1) := by decide +kernel
theorem dJxa1e45_init_da8c8_0 : decode cJxa1e45_init_da8c8 0 = .ok (.aload_n 0, 1) := by decide +kernel
theorem dJxa1e45_init_da8c8_1 : decode cJxa1e45_init_da8c8 1 = .ok (.invokespecial 1, 3) := by decide +kernel
theorem dJxa1e45_init_da8c8_4 : decode cJxa1e45_init_da8c8 4 = .ok (.return_, 1) := by decide +kernel
set_option maxRecDepth 20000 in
theorem ggJxc12de_init_da8c8_Jxa1e45_init_da8c8 : GoodIn wsJxc12de_init_da8c8 wsJxa1e45_init_da8c8 := goodIn_r _ [5, 6, 7, 8] (by decide +kernel) (by decide +kernel)
set_option maxRecDepth 20000 in
theorem gJxc12de_init_da8c8_Jxa1e45_init_da8c8 : GoodIn wsJxc12de_init_da8c8 (wsJxa1e45_init_da8c8) := ggJxc12de_init_da8c8_Jxa1e45_init_da8c8
theorem dJxc12de_init_da8c8_0 : decode cJxc12de_init_da8c8 0 = .ok (.aload_n 0, 1) := by decide +kernel
theorem dJxc12de_init_da8c8_1 : decode cJxc12de_init_da8c8 1 = .ok (.invokespecial 1, 3) := by decide +kernel
theorem dJxc12de_init_da8c8_4 : decode cJxc12de_init_da8c8 4 = .ok (.aload_n 0, 1) := by decide +kernel
theorem dJxc12de_init_da8c8_5 : decode cJxc12de_init_da8c8 5 = .ok (.iconst 0, 1) := by decide +kernel
theorem dJxc12de_init_da8c8_6 : decode cJxc12de_init_da8c8 6 = .ok (.putfield 7, 3) := by decide +kernel
theorem dJxc12de_init_da8c8_9 : decode cJxc12de_init_da8c8 9 = .ok (.return_, 1) := by decide +kernel
set_option maxRecDepth 20000 in
theorem ggJx4a65c_init_da8c8_Jxc12de_init_da8c8 : GoodIn wsJx4a65c_init_da8c8 wsJxc12de_init_da8c8 := goodIn_r _ [6, 7, 8, 9, 10, 11, 12, 13, 14, 15, 16, 17] (by decide +kernel) (by decide +kernel)
set_option maxRecDepth 20000 in
theorem gJx4a65c_init_da8c8_Jxc12de_init_da8c8 : GoodIn wsJx4a65c_init_da8c8 (wsJxc12de_init_da8c8) := ggJx4a65c_init_da8c8_Jxc12de_init_da8c8
theorem dJx4a65c_init_da8c8_0 : decode cJx4a65c_init_da8c8 0 = .ok (.aload_n 0, 1) := by decide +kernel
theorem dJx4a65c_init_da8c8_1 : decode cJx4a65c_init_da8c8 1 = .ok (.invokespecial 1, 3) := by decide +kernel
theorem dJx4a65c_init_da8c8_4 : decode cJx4a65c_init_da8c8 4 = .ok (.aload_n 0, 1) := by decide +kernel
theorem dJx4a65c_init_da8c8_5 : decode cJx4a65c_init_da8c8 5 = .ok (.getstatic 39, 3) := by decide +kernel
theorem dJx4a65c_init_da8c8_8 : decode cJx4a65c_init_da8c8 8 = .ok (.putfield 9, 3) := by decide +kernel
theorem dJx4a65c_init_da8c8_11 : decode cJx4a65c_init_da8c8 11 = .ok (.return_, 1) := by decide +kernel
set_option maxRecDepth 20000 in
theorem ggJx4a65c_grow_92f84_J8_newLength_cabcc : GoodIn wsJx4a65c_grow_92f84 wsJ8_newLength_cabcc := goodIn_r _ [11, 12, 4, 5, 6, 13, 14, 15, 10, 16] (by decide +kernel) (by decide +kernel)
set_option maxRecDepth 20000 in
theorem gJx4a65c_grow_92f84_J8_newLength_cabcc : GoodIn wsJx4a65c_grow_92f84 (va_wsS RJx4a65c 73 yJ8_newLength_cabcc wsJ8_newLength_cabcc) := goodIn_app (goodIn_of _ (by decide +kernel)) ggJx4a65c_grow_92f84_J8_newLength_cabcc
set_option maxRecDepth 20000 in
theorem ggJx4a65c_grow_92f84_J7_copyOf_1904c : GoodIn wsJx4a65c_grow_92f84 wsJ7_copyOf_1904c := goodIn_r _ [20, 21, 22, 23, 24, 25, 26, 19, 27, 28, 29, 30, 31, 5, 32, 33, 34, 35, 36] (by decide +kernel) (by decide +kernel)
set_option maxRecDepth 20000 in
theorem gJx4a65c_grow_92f84_J7_copyOf_1904c : GoodIn wsJx4a65c_grow_92f84 (va_wsS RJx4a65c 66 yJ7_copyOf_1904c wsJ7_copyOf_1904c) := goodIn_app (goodIn_of _ (by decide +kernel)) ggJx4a65c_grow_92f84_J7_copyOf_1904c
theorem dJx4a65c_grow_92f84_0 : decode cJx4a65c_grow_92f84 0 = .ok (.aload_n 0, 1) := by decide +kernel
theorem dJx4a65c_grow_92f84_1 : decode cJx4a65c_grow_92f84 1 = .ok (.getfield 9, 3) := by decide +kernel
theorem dJx4a65c_grow_92f84_4 : decode cJx4a65c_grow_92f84 4 = .ok (.arraylength, 1) := by decide +kernel
theorem dJx4a65c_grow_92f84_5 : decode cJx4a65c_grow_92f84 5 = .ok (.istore_n 2, 1) := by decide +kernel
theorem dJx4a65c_grow_92f84_6 : decode cJx4a65c_grow_92f84 6 = .ok (.iload_n 2, 1) := by decide +kernel
theorem dJx4a65c_grow_92f84_7 : decode cJx4a65c_grow_92f84 7 = .ok (.ifCond .gt 13, 3) := by decide +kernel
theorem dJx4a65c_grow_92f84_10 : decode cJx4a65c_grow_92f84 10 = .ok (.aload_n 0, 1) := by decide +kernel
theorem dJx4a65c_grow_92f84_11 : decode cJx4a65c_grow_92f84 11 = .ok (.getfield 9, 3) := by decide +kernel
theorem dJx4a65c_grow_92f84_14 : decode cJx4a65c_grow_92f84 14 = .ok (.getstatic 39, 3) := by decide +kernel
theorem dJx4a65c_grow_92f84_17 : decode cJx4a65c_grow_92f84 17 = .ok (.if_acmp .eq 28, 3) := by decide +kernel
theorem dJx4a65c_grow_92f84_20 : decode cJx4a65c_grow_92f84 20 = .ok (.iload_n 2, 1) := by decide +kernel
theorem dJx4a65c_grow_92f84_21 : decode cJx4a65c_grow_92f84 21 = .ok (.iload_n 1, 1) := by decide +kernel
theorem dJx4a65c_grow_92f84_22 : decode cJx4a65c_grow_92f84 22 = .ok (.iload_n 2, 1) := by decide +kernel
theorem dJx4a65c_grow_92f84_23 : decode cJx4a65c_grow_92f84 23 = .ok (.isub, 1) := by decide +kernel
theorem dJx4a65c_grow_92f84_24 : decode cJx4a65c_grow_92f84 24 = .ok (.iload_n 2, 1) := by decide +kernel
theorem dJx4a65c_grow_92f84_25 : decode cJx4a65c_grow_92f84 25 = .ok (.iconst 1, 1) := by decide +kernel
theorem dJx4a65c_grow_92f84_26 : decode cJx4a65c_grow_92f84 26 = .ok (.ishr, 1) := by decide +kernel
theorem dJx4a65c_grow_92f84_27 : decode cJx4a65c_grow_92f84 27 = .ok (.invokestatic 73, 3) := by decide +kernel
theorem dJx4a65c_grow_92f84_30 : decode cJx4a65c_grow_92f84 30 = .ok (.istore_n 3, 1) := by decide +kernel
theorem dJx4a65c_grow_92f84_31 : decode cJx4a65c_grow_92f84 31 = .ok (.aload_n 0, 1) := by decide +kernel
theorem dJx4a65c_grow_92f84_32 : decode cJx4a65c_grow_92f84 32 = .ok (.aload_n 0, 1) := by decide +kernel
theorem dJx4a65c_grow_92f84_33 : decode cJx4a65c_grow_92f84 33 = .ok (.getfield 9, 3) := by decide +kernel
theorem dJx4a65c_grow_92f84_36 : decode cJx4a65c_grow_92f84 36 = .ok (.iload_n 3, 1) := by decide +kernel
theorem dJx4a65c_grow_92f84_37 : decode cJx4a65c_grow_92f84 37 = .ok (.invokestatic 66, 3) := by decide +kernel
theorem dJx4a65c_grow_92f84_40 : decode cJx4a65c_grow_92f84 40 = .ok (.dup_x1, 1) := by decide +kernel
theorem dJx4a65c_grow_92f84_41 : decode cJx4a65c_grow_92f84 41 = .ok (.putfield 9, 3) := by decide +kernel
theorem dJx4a65c_grow_92f84_44 : decode cJx4a65c_grow_92f84 44 = .ok (.areturn, 1) := by decide +kernel
theorem dJx4a65c_grow_92f84_45 : decode cJx4a65c_grow_92f84 45 = .ok (.aload_n 0, 1) := by decide +kernel
theorem dJx4a65c_grow_92f84_46 : decode cJx4a65c_grow_92f84 46 = .ok (.bipush 10, 2) := by decide +kernel
theorem dJx4a65c_grow_92f84_48 : decode cJx4a65c_grow_92f84 48 = .ok (.iload_n 1, 1) := by decide +kernel
theorem dJx4a65c_grow_92f84_49 : decode cJx4a65c_grow_92f84 49 = .ok (.invokestatic 79, 3) := by decide +kernel
theorem dJx4a65c_grow_92f84_52 : decode cJx4a65c_grow_92f84 52 = .ok (.anewarray 7, 3) := by decide +kernel
theorem dJx4a65c_grow_92f84_55 : decode cJx4a65c_grow_92f84 55 = .ok (.dup_x1, 1) := by decide +kernel
theorem dJx4a65c_grow_92f84_56 : decode cJx4a65c_grow_92f84 56 = .ok (.putfield 9, 3) := by decide +kernel
theorem dJx4a65c_grow_92f84_59 : decode cJx4a65c_grow_92f84 59 = .ok (.areturn, 1) := by decide +kernel
set_option maxRecDepth 20000 in
theorem ggJx4a65c_grow_d5877_Jx4a65c_grow_92f84 : GoodIn wsJx4a65c_grow_d5877 wsJx4a65c_grow_92f84 := goodIn_r _ [6, 7, 8, 9, 10, 11, 12, 13, 14, 15, 16, 17, 18, 19, 20, 21, 22, 23, 24, 25, 26, 27, 28, 29, 30, 31, 32, 33, 34, 35, 36, 37, 38, 39, 40, 41, 42, 43, 44, 45] (by decide +kernel) (by decide +kernel)
set_option maxRecDepth 20000 in
theorem gJx4a65c_grow_d5877_Jx4a65c_grow_92f84 : GoodIn wsJx4a65c_grow_d5877 (wsV RJx4a65c 69 RJx4a65c yJx4a65c_grow_92f84 wsJx4a65c_grow_92f84) := goodIn_app (goodIn_of _ (by decide +kernel)) ggJx4a65c_grow_d5877_Jx4a65c_grow_92f84
theorem dJx4a65c_grow_d5877_0 : decode cJx4a65c_grow_d5877 0 = .ok (.aload_n 0, 1) := by decide +kernel
theorem dJx4a65c_grow_d5877_1 : decode cJx4a65c_grow_d5877 1 = .ok (.aload_n 0, 1) := by decide +kernel
theorem dJx4a65c_grow_d5877_2 : decode cJx4a65c_grow_d5877 2 = .ok (.getfield 48, 3) := by decide +kernel
theorem dJx4a65c_grow_d5877_5 : decode cJx4a65c_grow_d5877 5 = .ok (.iconst 1, 1) := by decide +kernel
theorem dJx4a65c_grow_d5877_6 : decode cJx4a65c_grow_d5877 6 = .ok (.iadd, 1) := by decide +kernel
theorem dJx4a65c_grow_d5877_7 : decode cJx4a65c_grow_d5877 7 = .ok (.invokevirtual 69, 3) := by decide +kernel
theorem dJx4a65c_grow_d5877_10 : decode cJx4a65c_grow_d5877 10 = .ok (.areturn, 1) := by decide +kernel
theorem dJx4a65c_size_8abf5_0 : decode cJx4a65c_size_8abf5 0 = .ok (.aload_n 0, 1) := by decide +kernel
theorem dJx4a65c_size_8abf5_1 : decode cJx4a65c_size_8abf5 1 = .ok (.getfield 48, 3) := by decide +kernel
theorem dJx4a65c_size_8abf5_4 : decode cJx4a65c_size_8abf5 4 = .ok (.ireturn, 1) := by decide +kernel
theorem dJx4a65c_elementData_915e3_0 : decode cJx4a65c_elementData_915e3 0 = .ok (.aload_n 0, 1) := by decide +kernel
theorem dJx4a65c_elementData_915e3_1 : decode cJx4a65c_elementData_915e3 1 = .ok (.getfield 9, 3) := by decide +kernel
theorem dJx4a65c_elementData_915e3_4 : decode cJx4a65c_elementData_915e3 4 = .ok (.iload_n 1, 1) := by decide +kernel
theorem dJx4a65c_elementData_915e3_5 : decode cJx4a65c_elementData_915e3 5 = .ok (.aaload, 1) := by decide +kernel
theorem dJx4a65c_elementData_915e3_6 : decode cJx4a65c_elementData_915e3 6 = .ok (.areturn, 1) := by decide +kernel
set_option maxRecDepth 20000 in
theorem ggJx4a65c_get_915e3_J15_checkIndex_7cf53 : GoodIn wsJx4a65c_get_915e3 wsJ15_checkIndex_7cf53 := goodIn_r _ [5, 6, 7, 8, 9] (by decide +kernel) (by decide +kernel)
set_option maxRecDepth 20000 in
theorem gJx4a65c_get_915e3_J15_checkIndex_7cf53 : GoodIn wsJx4a65c_get_915e3 (va_wsS RJx4a65c 118 yJ15_checkIndex_7cf53 wsJ15_checkIndex_7cf53) := goodIn_app (goodIn_of _ (by decide +kernel)) ggJx4a65c_get_915e3_J15_checkIndex_7cf53
set_option maxRecDepth 20000 in
theorem ggJx4a65c_get_915e3_Jx4a65c_elementData_915e3 : GoodIn wsJx4a65c_get_915e3 wsJx4a65c_elementData_915e3 := goodIn_r _ [14, 15, 16, 17, 18] (by decide +kernel) (by decide +kernel)
set_option maxRecDepth 20000 in
theorem gJx4a65c_get_915e3_Jx4a65c_elementData_915e3 : GoodIn wsJx4a65c_get_915e3 (wsV RJx4a65c 123 RJx4a65c yJx4a65c_elementData_915e3 wsJx4a65c_elementData_915e3) := goodIn_app (goodIn_of _ (by decide +kernel)) ggJx4a65c_get_915e3_Jx4a65c_elementData_915e3
theorem dJx4a65c_get_915e3_0 : decode cJx4a65c_get_915e3 0 = .ok (.iload_n 1, 1) := by decide +kernel
theorem dJx4a65c_get_915e3_1 : decode cJx4a65c_get_915e3 1 = .ok (.aload_n 0, 1) := by decide +kernel
theorem dJx4a65c_get_915e3_2 : decode cJx4a65c_get_915e3 2 = .ok (.getfield 48, 3) := by decide +kernel
theorem dJx4a65c_get_915e3_5 : decode cJx4a65c_get_915e3 5 = .ok (.invokestatic 118, 3) := by decide +kernel
theorem dJx4a65c_get_915e3_8 : decode cJx4a65c_get_915e3 8 = .ok (.pop, 1) := by decide +kernel
theorem dJx4a65c_get_915e3_9 : decode cJx4a65c_get_915e3 9 = .ok (.aload_n 0, 1) := by decide +kernel
theorem dJx4a65c_get_915e3_10 : decode cJx4a65c_get_915e3 10 = .ok (.iload_n 1, 1) := by decide +kernel
theorem dJx4a65c_get_915e3_11 : decode cJx4a65c_get_915e3 11 = .ok (.invokevirtual 123, 3) := by decide +kernel
theorem dJx4a65c_get_915e3_14 : decode cJx4a65c_get_915e3 14 = .ok (.areturn, 1) := by decide +kernel
set_option maxRecDepth 20000 in
theorem ggJx4a65c_add_72be8_Jx4a65c_grow_d5877 : GoodIn wsJx4a65c_add_72be8 wsJx4a65c_grow_d5877 := goodIn_r _ [6, 1, 7, 8, 9, 5, 10, 11, 12, 13, 14, 15, 16, 17, 18, 19, 20, 21, 22, 23, 24, 25, 26, 27, 28, 29, 30, 31, 32, 33, 34, 35, 36, 37, 38, 39, 40, 41, 42, 43, 44, 45, 46, 47, 48, 49] (by decide +kernel) (by decide +kernel)
set_option maxRecDepth 20000 in
theorem gJx4a65c_add_72be8_Jx4a65c_grow_d5877 : GoodIn wsJx4a65c_add_72be8 (wsV RJx4a65c 129 RJx4a65c yJx4a65c_grow_d5877 wsJx4a65c_grow_d5877) := goodIn_app (goodIn_of _ (by decide +kernel)) ggJx4a65c_add_72be8_Jx4a65c_grow_d5877
theorem dJx4a65c_add_72be8_0 : decode cJx4a65c_add_72be8 0 = .ok (.iload_n 3, 1) := by decide +kernel
theorem dJx4a65c_add_72be8_1 : decode cJx4a65c_add_72be8 1 = .ok (.aload_n 2, 1) := by decide +kernel
theorem dJx4a65c_add_72be8_2 : decode cJx4a65c_add_72be8 2 = .ok (.arraylength, 1) := by decide +kernel
theorem dJx4a65c_add_72be8_3 : decode cJx4a65c_add_72be8 3 = .ok (.if_icmp .ne 8, 3) := by decide +kernel
theorem dJx4a65c_add_72be8_6 : decode cJx4a65c_add_72be8 6 = .ok (.aload_n 0, 1) := by decide +kernel
theorem dJx4a65c_add_72be8_7 : decode cJx4a65c_add_72be8 7 = .ok (.invokevirtual 129, 3) := by decide +kernel
theorem dJx4a65c_add_72be8_10 : decode cJx4a65c_add_72be8 10 = .ok (.astore_n 2, 1) := by decide +kernel
theorem dJx4a65c_add_72be8_11 : decode cJx4a65c_add_72be8 11 = .ok (.aload_n 2, 1) := by decide +kernel
theorem dJx4a65c_add_72be8_12 : decode cJx4a65c_add_72be8 12 = .ok (.iload_n 3, 1) := by decide +kernel
theorem dJx4a65c_add_72be8_13 : decode cJx4a65c_add_72be8 13 = .ok (.aload_n 1, 1) := by decide +kernel
theorem dJx4a65c_add_72be8_14 : decode cJx4a65c_add_72be8 14 = .ok (.aastore, 1) := by decide +kernel
theorem dJx4a65c_add_72be8_15 : decode cJx4a65c_add_72be8 15 = .ok (.aload_n 0, 1) := by decide +kernel
theorem dJx4a65c_add_72be8_16 : decode cJx4a65c_add_72be8 16 = .ok (.iload_n 3, 1) := by decide +kernel
theorem dJx4a65c_add_72be8_17 : decode cJx4a65c_add_72be8 17 = .ok (.iconst 1, 1) := by decide +kernel
theorem dJx4a65c_add_72be8_18 : decode cJx4a65c_add_72be8 18 = .ok (.iadd, 1) := by decide +kernel
theorem dJx4a65c_add_72be8_19 : decode cJx4a65c_add_72be8 19 = .ok (.putfield 48, 3) := by decide +kernel
theorem dJx4a65c_add_72be8_22 : decode cJx4a65c_add_72be8 22 = .ok (.return_, 1) := by decide +kernel
set_option maxRecDepth 20000 in
theorem ggJx4a65c_add_9ea2d_Jx4a65c_add_72be8 : GoodIn wsJx4a65c_add_9ea2d wsJx4a65c_add_72be8 := goodIn_r _ [9, 4, 10, 11, 12, 8, 13, 14, 15, 16, 17, 3, 18, 19, 20, 21, 22, 23, 24, 25, 26, 27, 28, 29, 30, 31, 32, 33, 34, 35, 36, 37, 38, 39, 40, 41, 42, 43, 44, 45, 46, 47, 48, 49, 50, 51, 52, 53, 54, 55] (by decide +kernel) (by decide +kernel)
set_option maxRecDepth 20000 in
theorem gJx4a65c_add_9ea2d_Jx4a65c_add_72be8 : GoodIn wsJx4a65c_add_9ea2d (wsV RJx4a65c 131 RJx4a65c yJx4a65c_add_72be8 wsJx4a65c_add_72be8) := goodIn_app (goodIn_of _ (by decide +kernel)) ggJx4a65c_add_9ea2d_Jx4a65c_add_72be8
theorem dJx4a65c_add_9ea2d_0 : decode cJx4a65c_add_9ea2d 0 = .ok (.aload_n 0, 1) := by decide +kernel
theorem dJx4a65c_add_9ea2d_1 : decode cJx4a65c_add_9ea2d 1 = .ok (.dup, 1) := by decide +kernel
theorem dJx4a65c_add_9ea2d_2 : decode cJx4a65c_add_9ea2d 2 = .ok (.getfield 63, 3) := by decide +kernel
theorem dJx4a65c_add_9ea2d_5 : decode cJx4a65c_add_9ea2d 5 = .ok (.iconst 1, 1) := by decide +kernel
theorem dJx4a65c_add_9ea2d_6 : decode cJx4a65c_add_9ea2d 6 = .ok (.iadd, 1) := by decide +kernel
theorem dJx4a65c_add_9ea2d_7 : decode cJx4a65c_add_9ea2d 7 = .ok (.putfield 63, 3) := by decide +kernel
theorem dJx4a65c_add_9ea2d_10 : decode cJx4a65c_add_9ea2d 10 = .ok (.aload_n 0, 1) := by decide +kernel
theorem dJx4a65c_add_9ea2d_11 : decode cJx4a65c_add_9ea2d 11 = .ok (.aload_n 1, 1) := by decide +kernel
theorem dJx4a65c_add_9ea2d_12 : decode cJx4a65c_add_9ea2d 12 = .ok (.aload_n 0, 1) := by decide +kernel
theorem dJx4a65c_add_9ea2d_13 : decode cJx4a65c_add_9ea2d 13 = .ok (.getfield 9, 3) := by decide +kernel
theorem dJx4a65c_add_9ea2d_16 : decode cJx4a65c_add_9ea2d 16 = .ok (.aload_n 0, 1) := by decide +kernel
theorem dJx4a65c_add_9ea2d_17 : decode cJx4a65c_add_9ea2d 17 = .ok (.getfield 48, 3) := by decide +kernel
theorem dJx4a65c_add_9ea2d_20 : decode cJx4a65c_add_9ea2d 20 = .ok (.invokevirtual 131, 3) := by decide +kernel
theorem dJx4a65c_add_9ea2d_23 : decode cJx4a65c_add_9ea2d 23 = .ok (.iconst 1, 1) := by decide +kernel
theorem dJx4a65c_add_9ea2d_24 : decode cJx4a65c_add_9ea2d 24 = .ok (.ireturn, 1) := by decide +kernel
set_option maxRecDepth 20000 in
theorem ggJ7_copyOf_1904c_J7_copyOf_6403c : GoodIn wsJ7_copyOf_1904c wsJ7_copyOf_6403c := goodIn_r _ [8, 9, 10, 11, 12, 13, 14, 15, 16, 17, 18] (by decide +kernel) (by decide +kernel)
set_option maxRecDepth 20000 in
theorem gJ7_copyOf_1904c_J7_copyOf_6403c : GoodIn wsJ7_copyOf_1904c (va_wsS RJ7 300 yJ7_copyOf_6403c wsJ7_copyOf_6403c) := goodIn_app (goodIn_of _ (by decide +kernel)) ggJ7_copyOf_1904c_J7_copyOf_6403c
theorem dJ7_copyOf_1904c_0 : decode cJ7_copyOf_1904c 0 = .ok (.aload_n 0, 1) := by decide +kernel
theorem dJ7_copyOf_1904c_1 : decode cJ7_copyOf_1904c 1 = .ok (.iload_n 1, 1) := by decide +kernel
theorem dJ7_copyOf_1904c_2 : decode cJ7_copyOf_1904c 2 = .ok (.aload_n 0, 1) := by decide +kernel
theorem dJ7_copyOf_1904c_3 : decode cJ7_copyOf_1904c 3 = .ok (.invokevirtual 86, 3) := by decide +kernel
theorem dJ7_copyOf_1904c_6 : decode cJ7_copyOf_1904c 6 = .ok (.invokestatic 300, 3) := by decide +kernel
theorem dJ7_copyOf_1904c_9 : decode cJ7_copyOf_1904c 9 = .ok (.areturn, 1) := by decide +kernel
theorem dJ7_copyOf_6403c_0 : decode cJ7_copyOf_6403c 0 = .ok (.aload_n 2, 1) := by decide +kernel
theorem dJ7_copyOf_6403c_1 : decode cJ7_copyOf_6403c 1 = .ok (.ldc 110, 2) := by decide +kernel
theorem dJ7_copyOf_6403c_3 : decode cJ7_copyOf_6403c 3 = .ok (.if_acmp .ne 10, 3) := by decide +kernel
theorem dJ7_copyOf_6403c_6 : decode cJ7_copyOf_6403c 6 = .ok (.iload_n 1, 1) := by decide +kernel
theorem dJ7_copyOf_6403c_7 : decode cJ7_copyOf_6403c 7 = .ok (.anewarray 2, 3) := by decide +kernel
theorem dJ7_copyOf_6403c_10 : decode cJ7_copyOf_6403c 10 = .ok (.goto 14, 3) := by decide +kernel
theorem dJ7_copyOf_6403c_13 : decode cJ7_copyOf_6403c 13 = .ok (.aload_n 2, 1) := by decide +kernel
theorem dJ7_copyOf_6403c_14 : decode cJ7_copyOf_6403c 14 = .ok (.invokevirtual 90, 3) := by decide +kernel
theorem dJ7_copyOf_6403c_17 : decode cJ7_copyOf_6403c 17 = .ok (.iload_n 1, 1) := by decide +kernel
theorem dJ7_copyOf_6403c_18 : decode cJ7_copyOf_6403c 18 = .ok (.invokestatic 95, 3) := by decide +kernel
theorem dJ7_copyOf_6403c_21 : decode cJ7_copyOf_6403c 21 = .ok (.checkcast 110, 3) := by decide +kernel
theorem dJ7_copyOf_6403c_24 : decode cJ7_copyOf_6403c 24 = .ok (.astore_n 3, 1) := by decide +kernel
theorem dJ7_copyOf_6403c_25 : decode cJ7_copyOf_6403c 25 = .ok (.aload_n 0, 1) := by decide +kernel
theorem dJ7_copyOf_6403c_26 : decode cJ7_copyOf_6403c 26 = .ok (.iconst 0, 1) := by decide +kernel
theorem dJ7_copyOf_6403c_27 : decode cJ7_copyOf_6403c 27 = .ok (.aload_n 3, 1) := by decide +kernel
theorem dJ7_copyOf_6403c_28 : decode cJ7_copyOf_6403c 28 = .ok (.iconst 0, 1) := by decide +kernel
theorem dJ7_copyOf_6403c_29 : decode cJ7_copyOf_6403c 29 = .ok (.aload_n 0, 1) := by decide +kernel
theorem dJ7_copyOf_6403c_30 : decode cJ7_copyOf_6403c 30 = .ok (.arraylength, 1) := by decide +kernel
theorem dJ7_copyOf_6403c_31 : decode cJ7_copyOf_6403c 31 = .ok (.iload_n 1, 1) := by decide +kernel
theorem dJ7_copyOf_6403c_32 : decode cJ7_copyOf_6403c 32 = .ok (.invokestatic 304, 3) := by decide +kernel
theorem dJ7_copyOf_6403c_35 : decode cJ7_copyOf_6403c 35 = .ok (.invokestatic 150, 3) := by decide +kernel
theorem dJ7_copyOf_6403c_38 : decode cJ7_copyOf_6403c 38 = .ok (.aload_n 3, 1) := by decide +kernel
theorem dJ7_copyOf_6403c_39 : decode cJ7_copyOf_6403c 39 = .ok (.areturn, 1) := by decide +kernel
set_option maxRecDepth 20000 in
theorem ggJ15_checkIndex_7cf53_J3_checkIndex_8e157 : GoodIn wsJ15_checkIndex_7cf53 wsJ3_checkIndex_8e157 := goodIn_r _ [4] (by decide +kernel) (by decide +kernel)
set_option maxRecDepth 20000 in
theorem gJ15_checkIndex_7cf53_J3_checkIndex_8e157 : GoodIn wsJ15_checkIndex_7cf53 (va_wsS RJ15 105 yJ3_checkIndex_8e157 wsJ3_checkIndex_8e157) := goodIn_app (goodIn_of _ (by decide +kernel)) ggJ15_checkIndex_7cf53_J3_checkIndex_8e157
theorem dJ15_checkIndex_7cf53_0 : decode cJ15_checkIndex_7cf53 0 = .ok (.iload_n 0, 1) := by decide +kernel
theorem dJ15_checkIndex_7cf53_1 : decode cJ15_checkIndex_7cf53 1 = .ok (.iload_n 1, 1) := by decide +kernel
theorem dJ15_checkIndex_7cf53_2 : decode cJ15_checkIndex_7cf53 2 = .ok (.aconst_null, 1) := by decide +kernel
theorem dJ15_checkIndex_7cf53_3 : decode cJ15_checkIndex_7cf53 3 = .ok (.invokestatic 105, 3) := by decide +kernel
theorem dJ15_checkIndex_7cf53_6 : decode cJ15_checkIndex_7cf53 6 = .ok (.ireturn, 1) := by decide +kernel
set_option maxRecDepth 20000 in
theorem ggJ8_newLength_cabcc_J8_hugeLength_7cf53 : GoodIn wsJ8_newLength_cabcc wsJ8_hugeLength_7cf53 := goodIn_r _ [9, 5] (by decide +kernel) (by decide +kernel)
set_option maxRecDepth 20000 in
theorem gJ8_newLength_cabcc_J8_hugeLength_7cf53 : GoodIn wsJ8_newLength_cabcc (va_wsS RJ8 201 yJ8_hugeLength_7cf53 wsJ8_hugeLength_7cf53) := goodIn_app (goodIn_of _ (by decide +kernel)) ggJ8_newLength_cabcc_J8_hugeLength_7cf53
theorem dJ8_newLength_cabcc_0 : decode cJ8_newLength_cabcc 0 = .ok (.iload_n 0, 1) := by decide +kernel
theorem dJ8_newLength_cabcc_1 : decode cJ8_newLength_cabcc 1 = .ok (.iload_n 1, 1) := by decide +kernel
theorem dJ8_newLength_cabcc_2 : decode cJ8_newLength_cabcc 2 = .ok (.iload_n 2, 1) := by decide +kernel
theorem dJ8_newLength_cabcc_3 : decode cJ8_newLength_cabcc 3 = .ok (.invokestatic 194, 3) := by decide +kernel
theorem dJ8_newLength_cabcc_6 : decode cJ8_newLength_cabcc 6 = .ok (.iadd, 1) := by decide +kernel
theorem dJ8_newLength_cabcc_7 : decode cJ8_newLength_cabcc 7 = .ok (.istore_n 3, 1) := by decide +kernel
theorem dJ8_newLength_cabcc_8 : decode cJ8_newLength_cabcc 8 = .ok (.iconst 0, 1) := by decide +kernel
theorem dJ8_newLength_cabcc_9 : decode cJ8_newLength_cabcc 9 = .ok (.iload_n 3, 1) := by decide +kernel
theorem dJ8_newLength_cabcc_10 : decode cJ8_newLength_cabcc 10 = .ok (.if_icmp .ge 11, 3) := by decide +kernel
theorem dJ8_newLength_cabcc_13 : decode cJ8_newLength_cabcc 13 = .ok (.iload_n 3, 1) := by decide +kernel
theorem dJ8_newLength_cabcc_14 : decode cJ8_newLength_cabcc 14 = .ok (.ldc 200, 2) := by decide +kernel
theorem dJ8_newLength_cabcc_16 : decode cJ8_newLength_cabcc 16 = .ok (.if_icmp .gt 5, 3) := by decide +kernel
theorem dJ8_newLength_cabcc_19 : decode cJ8_newLength_cabcc 19 = .ok (.iload_n 3, 1) := by decide +kernel
theorem dJ8_newLength_cabcc_20 : decode cJ8_newLength_cabcc 20 = .ok (.ireturn, 1) := by decide +kernel
theorem dJ8_newLength_cabcc_21 : decode cJ8_newLength_cabcc 21 = .ok (.iload_n 0, 1) := by decide +kernel
theorem dJ8_newLength_cabcc_22 : decode cJ8_newLength_cabcc 22 = .ok (.iload_n 1, 1) := by decide +kernel
theorem dJ8_newLength_cabcc_23 : decode cJ8_newLength_cabcc 23 = .ok (.invokestatic 201, 3) := by decide +kernel
theorem dJ8_newLength_cabcc_26 : decode cJ8_newLength_cabcc 26 = .ok (.ireturn, 1) := by decide +kernel
theorem dJ8_hugeLength_7cf53_0 : decode cJ8_hugeLength_7cf53 0 = .ok (.iload_n 0, 1) := by decide +kernel
theorem dJ8_hugeLength_7cf53_1 : decode cJ8_hugeLength_7cf53 1 = .ok (.iload_n 1, 1) := by decide +kernel
theorem dJ8_hugeLength_7cf53_2 : decode cJ8_hugeLength_7cf53 2 = .ok (.iadd, 1) := by decide +kernel
theorem dJ8_hugeLength_7cf53_3 : decode cJ8_hugeLength_7cf53 3 = .ok (.istore_n 2, 1) := by decide +kernel
theorem dJ8_hugeLength_7cf53_4 : decode cJ8_hugeLength_7cf53 4 = .ok (.iload_n 2, 1) := by decide +kernel
theorem dJ8_hugeLength_7cf53_5 : decode cJ8_hugeLength_7cf53 5 = .ok (.ifCond .ge 44, 3) := by decide +kernel
theorem dJ8_hugeLength_7cf53_8 : decode cJ8_hugeLength_7cf53 8 = .ok (.new 204, 3) := by decide +kernel
theorem dJ8_hugeLength_7cf53_11 : decode cJ8_hugeLength_7cf53 11 = .ok (.dup, 1) := by decide +kernel
theorem dJ8_hugeLength_7cf53_12 : decode cJ8_hugeLength_7cf53 12 = .ok (.new 89, 3) := by decide +kernel
theorem dJ8_hugeLength_7cf53_15 : decode cJ8_hugeLength_7cf53 15 = .ok (.dup, 1) := by decide +kernel
theorem dJ8_hugeLength_7cf53_16 : decode cJ8_hugeLength_7cf53 16 = .ok (.invokespecial 91, 3) := by decide +kernel
theorem dJ8_hugeLength_7cf53_19 : decode cJ8_hugeLength_7cf53 19 = .ok (.ldc 206, 2) := by decide +kernel
theorem dJ8_hugeLength_7cf53_21 : decode cJ8_hugeLength_7cf53 21 = .ok (.invokevirtual 94, 3) := by decide +kernel
theorem dJ8_hugeLength_7cf53_24 : decode cJ8_hugeLength_7cf53 24 = .ok (.iload_n 0, 1) := by decide +kernel
theorem dJ8_hugeLength_7cf53_25 : decode cJ8_hugeLength_7cf53 25 = .ok (.invokevirtual 98, 3) := by decide +kernel
theorem dJ8_hugeLength_7cf53_28 : decode cJ8_hugeLength_7cf53 28 = .ok (.ldc 208, 2) := by decide +kernel
theorem dJ8_hugeLength_7cf53_30 : decode cJ8_hugeLength_7cf53 30 = .ok (.invokevirtual 94, 3) := by decide +kernel
theorem dJ8_hugeLength_7cf53_33 : decode cJ8_hugeLength_7cf53 33 = .ok (.iload_n 1, 1) := by decide +kernel
theorem dJ8_hugeLength_7cf53_34 : decode cJ8_hugeLength_7cf53 34 = .ok (.invokevirtual 98, 3) := by decide +kernel
theorem dJ8_hugeLength_7cf53_37 : decode cJ8_hugeLength_7cf53 37 = .ok (.ldc 210, 2) := by decide +kernel
theorem dJ8_hugeLength_7cf53_39 : decode cJ8_hugeLength_7cf53 39 = .ok (.invokevirtual 94, 3) := by decide +kernel
theorem dJ8_hugeLength_7cf53_42 : decode cJ8_hugeLength_7cf53 42 = .ok (.invokevirtual 101, 3) := by decide +kernel
theorem dJ8_hugeLength_7cf53_45 : decode cJ8_hugeLength_7cf53 45 = .ok (.invokespecial 212, 3) := by decide +kernel
theorem dJ8_hugeLength_7cf53_48 : decode cJ8_hugeLength_7cf53 48 = .ok (.athrow, 1) := by decide +kernel
theorem dJ8_hugeLength_7cf53_49 : decode cJ8_hugeLength_7cf53 49 = .ok (.iload_n 2, 1) := by decide +kernel
theorem dJ8_hugeLength_7cf53_50 : decode cJ8_hugeLength_7cf53 50 = .ok (.ldc 200, 2) := by decide +kernel
theorem dJ8_hugeLength_7cf53_52 : decode cJ8_hugeLength_7cf53 52 = .ok (.if_icmp .gt 6, 3) := by decide +kernel
theorem dJ8_hugeLength_7cf53_55 : decode cJ8_hugeLength_7cf53 55 = .ok (.ldc 200, 2) := by decide +kernel
theorem dJ8_hugeLength_7cf53_57 : decode cJ8_hugeLength_7cf53 57 = .ok (.ireturn, 1) := by decide +kernel
theorem dJ8_hugeLength_7cf53_58 : decode cJ8_hugeLength_7cf53 58 = .ok (.iload_n 2, 1) := by decide +kernel
theorem dJ8_hugeLength_7cf53_59 : decode cJ8_hugeLength_7cf53 59 = .ok (.ireturn, 1) := by decide +kernel
theorem dJ3_checkIndex_8e157_0 : decode cJ3_checkIndex_8e157 0 = .ok (.iload_n 0, 1) := by decide +kernel
theorem dJ3_checkIndex_8e157_1 : decode cJ3_checkIndex_8e157 1 = .ok (.ifCond .lt 8, 3) := by decide +kernel
theorem dJ3_checkIndex_8e157_4 : decode cJ3_checkIndex_8e157 4 = .ok (.iload_n 0, 1) := by decide +kernel
theorem dJ3_checkIndex_8e157_5 : decode cJ3_checkIndex_8e157 5 = .ok (.iload_n 1, 1) := by decide +kernel
theorem dJ3_checkIndex_8e157_6 : decode cJ3_checkIndex_8e157 6 = .ok (.if_icmp .lt 10, 3) := by decide +kernel
theorem dJ3_checkIndex_8e157_9 : decode cJ3_checkIndex_8e157 9 = .ok (.aload_n 2, 1) := by decide +kernel
theorem dJ3_checkIndex_8e157_10 : decode cJ3_checkIndex_8e157 10 = .ok (.iload_n 0, 1) := by decide +kernel
theorem dJ3_checkIndex_8e157_11 : decode cJ3_checkIndex_8e157 11 = .ok (.iload_n 1, 1) := by decide +kernel
theorem dJ3_checkIndex_8e157_12 : decode cJ3_checkIndex_8e157 12 = .ok (.invokestatic 95, 3) := by decide +kernel
theorem dJ3_checkIndex_8e157_15 : decode cJ3_checkIndex_8e157 15 = .ok (.athrow, 1) := by decide +kernel
theorem dJ3_checkIndex_8e157_16 : decode cJ3_checkIndex_8e157 16 = .ok (.iload_n 0, 1) := by decide +kernel
theorem dJ3_checkIndex_8e157_17 : decode cJ3_checkIndex_8e157 17 = .ok (.ireturn, 1) := by decide +kernel
set_option maxRecDepth 20000 in
theorem ggL_issue_X3_issue : GoodIn wsL_issue wsX3_issue := goodIn_ca (goodIn_ca (goodIn_r _ [7, 8, 9, 10, 11, 12, 13, 14, 15, 16, 17, 6, 18, 19, 20, 21, 22, 23, 24, 25, 26, 27, 28, 29, 30, 31, 32, 33, 34, 35, 36, 37, 38, 39, 40, 41, 42, 43, 44, 45, 46, 47, 48, 49, 50, 51, 52, 53, 54] (by decide +kernel) (by decide +kernel)) (goodIn_sub (fun _ h => List.mem_cons_of_mem _ (List.mem_append_left _ (List.mem_append_right _ h))) (by decide +kernel))) (goodIn_sub (fun _ h => List.mem_cons_of_mem _ (List.mem_append_right _ h)) (by decide +kernel))
set_option maxRecDepth 20000 in
theorem gL_issue_X3_issue : GoodIn wsL_issue (wsV RL 7 RX3 yX3_issue wsX3_issue) := goodIn_app (goodIn_of _ (by decide +kernel)) ggL_issue_X3_issue
theorem dL_issue_0 : decode cL_issue 0 = .ok (.aload 6, 2) := by decide +kernel
theorem dL_issue_2 : decode cL_issue 2 = .ok (.iconst 0, 1) := by decide +kernel
theorem dL_issue_3 : decode cL_issue 3 = .ok (.aload_n 0, 1) := by decide +kernel
theorem dL_issue_4 : decode cL_issue 4 = .ok (.iload_n 1, 1) := by decide +kernel
theorem dL_issue_5 : decode cL_issue 5 = .ok (.iload_n 2, 1) := by decide +kernel
theorem dL_issue_6 : decode cL_issue 6 = .ok (.iload_n 3, 1) := by decide +kernel
theorem dL_issue_7 : decode cL_issue 7 = .ok (.iload 4, 2) := by decide +kernel
theorem dL_issue_9 : decode cL_issue 9 = .ok (.iload 5, 2) := by decide +kernel
theorem dL_issue_11 : decode cL_issue 11 = .ok (.invokevirtual 7, 3) := by decide +kernel
theorem dL_issue_14 : decode cL_issue 14 = .ok (.i2l, 1) := by decide +kernel
theorem dL_issue_15 : decode cL_issue 15 = .ok (.lastore, 1) := by decide +kernel
theorem dL_issue_16 : decode cL_issue 16 = .ok (.goto 11, 3) := by decide +kernel
theorem dL_issue_19 : decode cL_issue 19 = .ok (.astore 7, 2) := by decide +kernel
theorem dL_issue_21 : decode cL_issue 21 = .ok (.iconst 1, 1) := by decide +kernel
theorem dL_issue_22 : decode cL_issue 22 = .ok (.ireturn, 1) := by decide +kernel
theorem dL_issue_23 : decode cL_issue 23 = .ok (.astore 7, 2) := by decide +kernel
theorem dL_issue_25 : decode cL_issue 25 = .ok (.iconst 2, 1) := by decide +kernel
theorem dL_issue_26 : decode cL_issue 26 = .ok (.ireturn, 1) := by decide +kernel
theorem dL_issue_27 : decode cL_issue 27 = .ok (.iconst 0, 1) := by decide +kernel
theorem dL_issue_28 : decode cL_issue 28 = .ok (.ireturn, 1) := by decide +kernel
set_option maxRecDepth 20000 in
theorem ggL_relate_X3_relate : GoodIn wsL_relate wsX3_relate := goodIn_ca (goodIn_r _ [6, 7, 8, 9, 10, 5, 11, 12, 13, 14, 15, 16, 17, 18, 19, 20, 21, 22, 23, 24, 25] (by decide +kernel) (by decide +kernel)) (goodIn_sub (fun _ h => List.mem_cons_of_mem _ (List.mem_append_right _ h)) (by decide +kernel))
set_option maxRecDepth 20000 in
theorem gL_relate_X3_relate : GoodIn wsL_relate (wsV RL 17 RX3 yX3_relate wsX3_relate) := goodIn_app (goodIn_of _ (by decide +kernel)) ggL_relate_X3_relate
theorem dL_relate_0 : decode cL_relate 0 = .ok (.aload_n 0, 1) := by decide +kernel
theorem dL_relate_1 : decode cL_relate 1 = .ok (.iload_n 1, 1) := by decide +kernel
theorem dL_relate_2 : decode cL_relate 2 = .ok (.iload_n 2, 1) := by decide +kernel
theorem dL_relate_3 : decode cL_relate 3 = .ok (.iload_n 3, 1) := by decide +kernel
theorem dL_relate_4 : decode cL_relate 4 = .ok (.invokevirtual 17, 3) := by decide +kernel
theorem dL_relate_7 : decode cL_relate 7 = .ok (.goto 7, 3) := by decide +kernel
theorem dL_relate_10 : decode cL_relate 10 = .ok (.astore 4, 2) := by decide +kernel
theorem dL_relate_12 : decode cL_relate 12 = .ok (.iconst 1, 1) := by decide +kernel
theorem dL_relate_13 : decode cL_relate 13 = .ok (.ireturn, 1) := by decide +kernel
theorem dL_relate_14 : decode cL_relate 14 = .ok (.iconst 0, 1) := by decide +kernel
theorem dL_relate_15 : decode cL_relate 15 = .ok (.ireturn, 1) := by decide +kernel
set_option maxRecDepth 20000 in
theorem ggL_latest_X3_latest : GoodIn wsL_latest wsX3_latest := goodIn_ca (goodIn_r _ [6, 7, 8, 5, 9, 10, 11, 12, 13, 14, 15, 16, 17, 18, 19, 20, 21, 22, 23, 24, 25, 26, 27, 28, 29, 30, 31, 32, 33, 34] (by decide +kernel) (by decide +kernel)) (goodIn_sub (fun _ h => List.mem_cons_of_mem _ (List.mem_append_right _ h)) (by decide +kernel))
set_option maxRecDepth 20000 in
theorem gL_latest_X3_latest : GoodIn wsL_latest (wsV RL 21 RX3 yX3_latest wsX3_latest) := goodIn_app (goodIn_of _ (by decide +kernel)) ggL_latest_X3_latest
theorem dL_latest_0 : decode cL_latest 0 = .ok (.aload_n 2, 1) := by decide +kernel
theorem dL_latest_1 : decode cL_latest 1 = .ok (.iconst 0, 1) := by decide +kernel
theorem dL_latest_2 : decode cL_latest 2 = .ok (.aload_n 0, 1) := by decide +kernel
theorem dL_latest_3 : decode cL_latest 3 = .ok (.iload_n 1, 1) := by decide +kernel
theorem dL_latest_4 : decode cL_latest 4 = .ok (.invokevirtual 21, 3) := by decide +kernel
theorem dL_latest_7 : decode cL_latest 7 = .ok (.i2l, 1) := by decide +kernel
theorem dL_latest_8 : decode cL_latest 8 = .ok (.lastore, 1) := by decide +kernel
theorem dL_latest_9 : decode cL_latest 9 = .ok (.goto 6, 3) := by decide +kernel
theorem dL_latest_12 : decode cL_latest 12 = .ok (.astore_n 3, 1) := by decide +kernel
theorem dL_latest_13 : decode cL_latest 13 = .ok (.iconst 1, 1) := by decide +kernel
theorem dL_latest_14 : decode cL_latest 14 = .ok (.ireturn, 1) := by decide +kernel
theorem dL_latest_15 : decode cL_latest 15 = .ok (.iconst 0, 1) := by decide +kernel
theorem dL_latest_16 : decode cL_latest 16 = .ok (.ireturn, 1) := by decide +kernel
set_option maxRecDepth 20000 in
theorem ggL_begin_X3_begin : GoodIn wsL_begin wsX3_begin := goodIn_ca (goodIn_r _ [6, 7, 8, 9, 10, 11, 12, 13, 14, 15, 16, 17, 18, 19, 20, 21, 22, 23, 24, 25, 26, 27, 28, 29, 30, 31, 32, 33, 34, 35, 36, 37, 38, 39, 40, 41, 42, 43, 44, 45, 46, 47, 48, 49, 50, 51, 52, 53, 54, 55, 56, 57, 58, 59, 60, 61, 62, 63, 64, 65, 66, 67, 68, 69, 70, 71, 72, 73, 74, 75, 76, 77, 78, 79, 80, 81, 82, 83, 84, 85, 86, 87, 88, 89, 90, 91, 92, 93, 94, 95, 96, 97, 98, 99, 100] (by decide +kernel) (by decide +kernel)) (goodIn_sub (fun _ h => List.mem_cons_of_mem _ (List.mem_append_right _ h)) (by decide +kernel))
set_option maxRecDepth 20000 in
theorem gL_begin_X3_begin : GoodIn wsL_begin (wsV RL 25 RX3 yX3_begin wsX3_begin) := goodIn_app (goodIn_of _ (by decide +kernel)) ggL_begin_X3_begin
theorem dL_begin_0 : decode cL_begin 0 = .ok (.aload_n 1, 1) := by decide +kernel
theorem dL_begin_1 : decode cL_begin 1 = .ok (.iconst 0, 1) := by decide +kernel
theorem dL_begin_2 : decode cL_begin 2 = .ok (.aload_n 0, 1) := by decide +kernel
theorem dL_begin_3 : decode cL_begin 3 = .ok (.invokevirtual 25, 3) := by decide +kernel
theorem dL_begin_6 : decode cL_begin 6 = .ok (.i2l, 1) := by decide +kernel
theorem dL_begin_7 : decode cL_begin 7 = .ok (.lastore, 1) := by decide +kernel
theorem dL_begin_8 : decode cL_begin 8 = .ok (.goto 6, 3) := by decide +kernel
theorem dL_begin_11 : decode cL_begin 11 = .ok (.astore_n 2, 1) := by decide +kernel
theorem dL_begin_12 : decode cL_begin 12 = .ok (.iconst 1, 1) := by decide +kernel
theorem dL_begin_13 : decode cL_begin 13 = .ok (.ireturn, 1) := by decide +kernel
theorem dL_begin_14 : decode cL_begin 14 = .ok (.iconst 0, 1) := by decide +kernel
theorem dL_begin_15 : decode cL_begin 15 = .ok (.ireturn, 1) := by decide +kernel
set_option maxRecDepth 20000 in
theorem ggL_mark_X3_mark : GoodIn wsL_mark wsX3_mark := goodIn_ca (goodIn_ca (goodIn_ca (goodIn_r _ [8, 9, 10, 11, 12, 13, 14, 15, 16, 17, 18, 7, 19, 20, 21, 22, 23, 24, 25, 26, 27, 28, 29, 30, 31, 32, 33, 34, 35, 36, 37, 38, 39, 40, 41, 42, 43, 44, 45, 46, 47, 48, 49, 50, 51, 52, 53, 54, 55, 56, 57, 58, 59, 60, 61, 62, 63, 64, 65, 66, 67, 68, 69, 70, 71, 72, 73, 74, 75, 76, 77, 78, 79, 80, 81, 82, 83, 84, 85, 86, 87, 88, 89, 90, 91, 92] (by decide +kernel) (by decide +kernel)) (goodIn_sub (fun _ h => List.mem_cons_of_mem _ (List.mem_append_left _ (List.mem_append_left _ (List.mem_append_right _ h)))) (by decide +kernel))) (goodIn_sub (fun _ h => List.mem_cons_of_mem _ (List.mem_append_left _ (List.mem_append_right _ h))) (by decide +kernel))) (goodIn_sub (fun _ h => List.mem_cons_of_mem _ (List.mem_append_right _ h)) (by decide +kernel))
set_option maxRecDepth 20000 in
theorem gL_mark_X3_mark : GoodIn wsL_mark (wsV RL 29 RX3 yX3_mark wsX3_mark) := goodIn_app (goodIn_of _ (by decide +kernel)) ggL_mark_X3_mark
theorem dL_mark_0 : decode cL_mark 0 = .ok (.aload 5, 2) := by decide +kernel
theorem dL_mark_2 : decode cL_mark 2 = .ok (.iconst 0, 1) := by decide +kernel
theorem dL_mark_3 : decode cL_mark 3 = .ok (.aload_n 0, 1) := by decide +kernel
theorem dL_mark_4 : decode cL_mark 4 = .ok (.iload_n 1, 1) := by decide +kernel
theorem dL_mark_5 : decode cL_mark 5 = .ok (.iload_n 2, 1) := by decide +kernel
theorem dL_mark_6 : decode cL_mark 6 = .ok (.iload_n 3, 1) := by decide +kernel
theorem dL_mark_7 : decode cL_mark 7 = .ok (.iload 4, 2) := by decide +kernel
theorem dL_mark_9 : decode cL_mark 9 = .ok (.invokevirtual 29, 3) := by decide +kernel
theorem dL_mark_12 : decode cL_mark 12 = .ok (.i2l, 1) := by decide +kernel
theorem dL_mark_13 : decode cL_mark 13 = .ok (.lastore, 1) := by decide +kernel
theorem dL_mark_14 : decode cL_mark 14 = .ok (.goto 15, 3) := by decide +kernel
theorem dL_mark_17 : decode cL_mark 17 = .ok (.astore 6, 2) := by decide +kernel
theorem dL_mark_19 : decode cL_mark 19 = .ok (.iconst 1, 1) := by decide +kernel
theorem dL_mark_20 : decode cL_mark 20 = .ok (.ireturn, 1) := by decide +kernel
theorem dL_mark_21 : decode cL_mark 21 = .ok (.astore 6, 2) := by decide +kernel
theorem dL_mark_23 : decode cL_mark 23 = .ok (.iconst 2, 1) := by decide +kernel
theorem dL_mark_24 : decode cL_mark 24 = .ok (.ireturn, 1) := by decide +kernel
theorem dL_mark_25 : decode cL_mark 25 = .ok (.astore 6, 2) := by decide +kernel
theorem dL_mark_27 : decode cL_mark 27 = .ok (.iconst 3, 1) := by decide +kernel
theorem dL_mark_28 : decode cL_mark 28 = .ok (.ireturn, 1) := by decide +kernel
theorem dL_mark_29 : decode cL_mark 29 = .ok (.iconst 0, 1) := by decide +kernel
theorem dL_mark_30 : decode cL_mark 30 = .ok (.ireturn, 1) := by decide +kernel
set_option maxRecDepth 20000 in
theorem ggL_renew_X3_renew : GoodIn wsL_renew wsX3_renew := goodIn_ca (goodIn_ca (goodIn_ca (goodIn_r _ [8, 9, 10, 11, 12, 13, 14, 7, 15, 16, 17, 18, 19, 20, 21, 22, 23, 24, 25, 26, 27, 28, 29, 30, 31, 32, 33, 34, 35, 36, 37, 38, 39, 40, 41, 42, 43, 44, 45, 46, 47, 48, 49, 50, 51, 52, 53, 54, 55, 56, 57, 58, 59, 60, 61, 62, 63, 64, 65, 66, 67, 68, 69, 70, 71, 72, 73, 74, 75, 76, 77, 78, 79, 80, 81, 82, 83, 84, 85, 86, 87, 88, 89, 90, 91, 92, 93, 94, 95, 96, 97, 98, 99, 100, 101, 102, 103, 104, 105, 106, 107] (by decide +kernel) (by decide +kernel)) (goodIn_sub (fun _ h => List.mem_cons_of_mem _ (List.mem_append_left _ (List.mem_append_left _ (List.mem_append_right _ h)))) (by decide +kernel))) (goodIn_sub (fun _ h => List.mem_cons_of_mem _ (List.mem_append_left _ (List.mem_append_right _ h))) (by decide +kernel))) (goodIn_sub (fun _ h => List.mem_cons_of_mem _ (List.mem_append_right _ h)) (by decide +kernel))
set_option maxRecDepth 20000 in
theorem gL_renew_X3_renew : GoodIn wsL_renew (wsV RL 35 RX3 yX3_renew wsX3_renew) := goodIn_app (goodIn_of _ (by decide +kernel)) ggL_renew_X3_renew
theorem dL_renew_0 : decode cL_renew 0 = .ok (.aload 4, 2) := by decide +kernel
theorem dL_renew_2 : decode cL_renew 2 = .ok (.iconst 0, 1) := by decide +kernel
theorem dL_renew_3 : decode cL_renew 3 = .ok (.aload_n 0, 1) := by decide +kernel
theorem dL_renew_4 : decode cL_renew 4 = .ok (.iload_n 1, 1) := by decide +kernel
theorem dL_renew_5 : decode cL_renew 5 = .ok (.iload_n 2, 1) := by decide +kernel
theorem dL_renew_6 : decode cL_renew 6 = .ok (.iload_n 3, 1) := by decide +kernel
theorem dL_renew_7 : decode cL_renew 7 = .ok (.invokevirtual 35, 3) := by decide +kernel
theorem dL_renew_10 : decode cL_renew 10 = .ok (.i2l, 1) := by decide +kernel
theorem dL_renew_11 : decode cL_renew 11 = .ok (.lastore, 1) := by decide +kernel
theorem dL_renew_12 : decode cL_renew 12 = .ok (.goto 15, 3) := by decide +kernel
theorem dL_renew_15 : decode cL_renew 15 = .ok (.astore 5, 2) := by decide +kernel
theorem dL_renew_17 : decode cL_renew 17 = .ok (.iconst 1, 1) := by decide +kernel
theorem dL_renew_18 : decode cL_renew 18 = .ok (.ireturn, 1) := by decide +kernel
theorem dL_renew_19 : decode cL_renew 19 = .ok (.astore 5, 2) := by decide +kernel
theorem dL_renew_21 : decode cL_renew 21 = .ok (.iconst 2, 1) := by decide +kernel
theorem dL_renew_22 : decode cL_renew 22 = .ok (.ireturn, 1) := by decide +kernel
theorem dL_renew_23 : decode cL_renew 23 = .ok (.astore 5, 2) := by decide +kernel
theorem dL_renew_25 : decode cL_renew 25 = .ok (.iconst 3, 1) := by decide +kernel
theorem dL_renew_26 : decode cL_renew 26 = .ok (.ireturn, 1) := by decide +kernel
theorem dL_renew_27 : decode cL_renew 27 = .ok (.iconst 0, 1) := by decide +kernel
theorem dL_renew_28 : decode cL_renew 28 = .ok (.ireturn, 1) := by decide +kernel
set_option maxRecDepth 20000 in
theorem ggL_version_X3_version : GoodIn wsL_version wsX3_version := goodIn_ca (goodIn_ca (goodIn_r _ [7, 8, 9, 10, 6, 11, 12, 13, 14, 15, 16, 17, 18, 19, 20, 21, 22, 23, 24, 25, 26, 27, 28, 29, 30, 31, 32, 33, 34, 35, 36, 37, 38, 39, 40, 41, 42, 43, 44, 45, 46, 47, 48, 49, 50, 51, 52, 53, 54, 55, 56, 57, 58, 59, 60, 61, 62, 63, 64, 65, 66, 67, 68, 69, 70, 71, 72, 73] (by decide +kernel) (by decide +kernel)) (goodIn_sub (fun _ h => List.mem_cons_of_mem _ (List.mem_append_left _ (List.mem_append_right _ h))) (by decide +kernel))) (goodIn_sub (fun _ h => List.mem_cons_of_mem _ (List.mem_append_right _ h)) (by decide +kernel))
set_option maxRecDepth 20000 in
theorem gL_version_X3_version : GoodIn wsL_version (wsV RL 39 RX3 yX3_version wsX3_version) := goodIn_app (goodIn_of _ (by decide +kernel)) ggL_version_X3_version
theorem dL_version_0 : decode cL_version 0 = .ok (.aload_n 3, 1) := by decide +kernel
theorem dL_version_1 : decode cL_version 1 = .ok (.iconst 0, 1) := by decide +kernel
theorem dL_version_2 : decode cL_version 2 = .ok (.aload_n 0, 1) := by decide +kernel
theorem dL_version_3 : decode cL_version 3 = .ok (.iload_n 1, 1) := by decide +kernel
theorem dL_version_4 : decode cL_version 4 = .ok (.iload_n 2, 1) := by decide +kernel
theorem dL_version_5 : decode cL_version 5 = .ok (.invokevirtual 39, 3) := by decide +kernel
theorem dL_version_8 : decode cL_version 8 = .ok (.i2l, 1) := by decide +kernel
theorem dL_version_9 : decode cL_version 9 = .ok (.lastore, 1) := by decide +kernel
theorem dL_version_10 : decode cL_version 10 = .ok (.goto 11, 3) := by decide +kernel
theorem dL_version_13 : decode cL_version 13 = .ok (.astore 4, 2) := by decide +kernel
theorem dL_version_15 : decode cL_version 15 = .ok (.iconst 1, 1) := by decide +kernel
theorem dL_version_16 : decode cL_version 16 = .ok (.ireturn, 1) := by decide +kernel
theorem dL_version_17 : decode cL_version 17 = .ok (.astore 4, 2) := by decide +kernel
theorem dL_version_19 : decode cL_version 19 = .ok (.iconst 2, 1) := by decide +kernel
theorem dL_version_20 : decode cL_version 20 = .ok (.ireturn, 1) := by decide +kernel
theorem dL_version_21 : decode cL_version 21 = .ok (.iconst 0, 1) := by decide +kernel
theorem dL_version_22 : decode cL_version 22 = .ok (.ireturn, 1) := by decide +kernel
set_option maxRecDepth 20000 in
theorem ggL_offered_X3_offered : GoodIn wsL_offered wsX3_offered := goodIn_ca (goodIn_r _ [6, 7, 8, 9, 5, 10, 11, 12, 13, 14, 15, 16, 17, 18, 19, 20, 21, 22, 23, 24, 25, 26, 27, 28, 29, 30, 31, 32, 33, 34, 35, 36, 37, 38, 39, 40, 41, 42, 43, 44, 45, 46, 47, 48, 49, 50, 51, 52, 53, 54, 55, 56, 57, 58, 59, 60, 61, 62, 63, 64, 65, 66, 67, 68, 69, 70, 71, 72, 73, 74, 75, 76, 77, 78, 79, 80, 81, 82] (by decide +kernel) (by decide +kernel)) (goodIn_sub (fun _ h => List.mem_cons_of_mem _ (List.mem_append_right _ h)) (by decide +kernel))
set_option maxRecDepth 20000 in
theorem gL_offered_X3_offered : GoodIn wsL_offered (wsV RL 43 RX3 yX3_offered wsX3_offered) := goodIn_app (goodIn_of _ (by decide +kernel)) ggL_offered_X3_offered
theorem dL_offered_0 : decode cL_offered 0 = .ok (.aload_n 2, 1) := by decide +kernel
theorem dL_offered_1 : decode cL_offered 1 = .ok (.iconst 0, 1) := by decide +kernel
theorem dL_offered_2 : decode cL_offered 2 = .ok (.aload_n 0, 1) := by decide +kernel
theorem dL_offered_3 : decode cL_offered 3 = .ok (.iload_n 1, 1) := by decide +kernel
theorem dL_offered_4 : decode cL_offered 4 = .ok (.invokevirtual 43, 3) := by decide +kernel
theorem dL_offered_7 : decode cL_offered 7 = .ok (.i2l, 1) := by decide +kernel
theorem dL_offered_8 : decode cL_offered 8 = .ok (.lastore, 1) := by decide +kernel
theorem dL_offered_9 : decode cL_offered 9 = .ok (.goto 6, 3) := by decide +kernel
theorem dL_offered_12 : decode cL_offered 12 = .ok (.astore_n 3, 1) := by decide +kernel
theorem dL_offered_13 : decode cL_offered 13 = .ok (.iconst 1, 1) := by decide +kernel
theorem dL_offered_14 : decode cL_offered 14 = .ok (.ireturn, 1) := by decide +kernel
theorem dL_offered_15 : decode cL_offered 15 = .ok (.iconst 0, 1) := by decide +kernel
theorem dL_offered_16 : decode cL_offered 16 = .ok (.ireturn, 1) := by decide +kernel
set_option maxRecDepth 20000 in
theorem ggL_whyNot_X3_whyNot : GoodIn wsL_whyNot wsX3_whyNot := goodIn_ca (goodIn_r _ [6, 7, 8, 9, 5, 10, 11, 12, 13, 14, 15, 16, 17, 18, 19, 20, 21, 22, 23, 24, 25, 26, 27, 28, 29, 30, 31, 32, 33, 34, 35, 36, 37, 38, 39, 40, 41, 42, 43, 44, 45, 46, 47, 48, 49, 50, 51, 52, 53, 54, 55, 56, 57, 58, 59, 60, 61, 62, 63, 64, 65, 66, 67, 68, 69, 70, 71, 72, 73, 74, 75, 76, 77, 78, 79] (by decide +kernel) (by decide +kernel)) (goodIn_sub (fun _ h => List.mem_cons_of_mem _ (List.mem_append_right _ h)) (by decide +kernel))
set_option maxRecDepth 20000 in
theorem gL_whyNot_X3_whyNot : GoodIn wsL_whyNot (wsV RL 46 RX3 yX3_whyNot wsX3_whyNot) := goodIn_app (goodIn_of _ (by decide +kernel)) ggL_whyNot_X3_whyNot
theorem dL_whyNot_0 : decode cL_whyNot 0 = .ok (.aload_n 2, 1) := by decide +kernel
theorem dL_whyNot_1 : decode cL_whyNot 1 = .ok (.iconst 0, 1) := by decide +kernel
theorem dL_whyNot_2 : decode cL_whyNot 2 = .ok (.aload_n 0, 1) := by decide +kernel
theorem dL_whyNot_3 : decode cL_whyNot 3 = .ok (.iload_n 1, 1) := by decide +kernel
theorem dL_whyNot_4 : decode cL_whyNot 4 = .ok (.invokevirtual 46, 3) := by decide +kernel
theorem dL_whyNot_7 : decode cL_whyNot 7 = .ok (.i2l, 1) := by decide +kernel
theorem dL_whyNot_8 : decode cL_whyNot 8 = .ok (.lastore, 1) := by decide +kernel
theorem dL_whyNot_9 : decode cL_whyNot 9 = .ok (.goto 6, 3) := by decide +kernel
theorem dL_whyNot_12 : decode cL_whyNot 12 = .ok (.astore_n 3, 1) := by decide +kernel
theorem dL_whyNot_13 : decode cL_whyNot 13 = .ok (.iconst 1, 1) := by decide +kernel
theorem dL_whyNot_14 : decode cL_whyNot 14 = .ok (.ireturn, 1) := by decide +kernel
theorem dL_whyNot_15 : decode cL_whyNot 15 = .ok (.iconst 0, 1) := by decide +kernel
theorem dL_whyNot_16 : decode cL_whyNot 16 = .ok (.ireturn, 1) := by decide +kernel
set_option maxRecDepth 20000 in
theorem ggL_sign_X3_sign : GoodIn wsL_sign wsX3_sign := goodIn_ca (goodIn_ca (goodIn_ca (goodIn_r _ [8, 9, 10, 11, 12, 13, 14, 7, 15, 16, 17, 18, 19, 20, 21, 22, 23, 24, 25, 26, 27, 28, 29, 30, 31, 32, 33, 34, 35, 36, 37, 38, 39, 40, 41, 42, 43, 44, 45, 46, 47, 48, 49, 50, 51, 52, 53, 54, 55, 56, 57, 58, 59, 60, 61, 62, 63, 64, 65, 66, 67, 68, 69, 70, 71, 72, 73, 74, 75, 76, 77, 78, 79, 80, 81, 82, 83, 84, 85, 86, 87, 88, 89, 90, 91, 92, 93, 94, 95, 96, 97, 98, 99, 100, 101, 102, 103, 104, 105, 106, 107, 108, 109, 110, 111, 112, 113, 114, 115, 116, 117, 118, 119, 120, 121, 122, 123, 124, 125, 126, 127, 128, 129, 130, 131, 132, 133, 134, 135, 136, 137, 138, 139, 140, 141, 142, 143, 144, 145, 146, 147, 148, 149, 150, 151, 152, 153, 154, 155, 156, 157, 158, 159, 160, 161, 162, 163, 164, 165, 166, 167, 168, 169, 170, 171, 172] (by decide +kernel) (by decide +kernel)) (goodIn_sub (fun _ h => List.mem_cons_of_mem _ (List.mem_append_left _ (List.mem_append_left _ (List.mem_append_right _ h)))) (by decide +kernel))) (goodIn_sub (fun _ h => List.mem_cons_of_mem _ (List.mem_append_left _ (List.mem_append_right _ h))) (by decide +kernel))) (goodIn_sub (fun _ h => List.mem_cons_of_mem _ (List.mem_append_right _ h)) (by decide +kernel))
set_option maxRecDepth 20000 in
theorem gL_sign_X3_sign : GoodIn wsL_sign (wsV RL 49 RX3 yX3_sign wsX3_sign) := goodIn_app (goodIn_of _ (by decide +kernel)) ggL_sign_X3_sign
theorem dL_sign_0 : decode cL_sign 0 = .ok (.aload_n 3, 1) := by decide +kernel
theorem dL_sign_1 : decode cL_sign 1 = .ok (.iconst 0, 1) := by decide +kernel
theorem dL_sign_2 : decode cL_sign 2 = .ok (.aload_n 0, 1) := by decide +kernel
theorem dL_sign_3 : decode cL_sign 3 = .ok (.iload_n 1, 1) := by decide +kernel
theorem dL_sign_4 : decode cL_sign 4 = .ok (.iload_n 2, 1) := by decide +kernel
theorem dL_sign_5 : decode cL_sign 5 = .ok (.invokevirtual 49, 3) := by decide +kernel
theorem dL_sign_8 : decode cL_sign 8 = .ok (.i2l, 1) := by decide +kernel
theorem dL_sign_9 : decode cL_sign 9 = .ok (.lastore, 1) := by decide +kernel
theorem dL_sign_10 : decode cL_sign 10 = .ok (.goto 15, 3) := by decide +kernel
theorem dL_sign_13 : decode cL_sign 13 = .ok (.astore 4, 2) := by decide +kernel
theorem dL_sign_15 : decode cL_sign 15 = .ok (.iconst 1, 1) := by decide +kernel
theorem dL_sign_16 : decode cL_sign 16 = .ok (.ireturn, 1) := by decide +kernel
theorem dL_sign_17 : decode cL_sign 17 = .ok (.astore 4, 2) := by decide +kernel
theorem dL_sign_19 : decode cL_sign 19 = .ok (.iconst 2, 1) := by decide +kernel
theorem dL_sign_20 : decode cL_sign 20 = .ok (.ireturn, 1) := by decide +kernel
theorem dL_sign_21 : decode cL_sign 21 = .ok (.astore 4, 2) := by decide +kernel
theorem dL_sign_23 : decode cL_sign 23 = .ok (.iconst 3, 1) := by decide +kernel
end
section
theorem dL_sign_24 : decode cL_sign 24 = .ok (.ireturn, 1) := by decide +kernel
theorem dL_sign_25 : decode cL_sign 25 = .ok (.iconst 0, 1) := by decide +kernel
theorem dL_sign_26 : decode cL_sign 26 = .ok (.ireturn, 1) := by decide +kernel
set_option maxRecDepth 20000 in
theorem ggL_pass_X3_pass : GoodIn wsL_pass wsX3_pass := goodIn_ca (goodIn_ca (goodIn_r _ [7, 8, 9, 10, 11, 12, 13, 14, 6, 15, 16, 17, 18, 19, 20, 21, 22, 23, 24, 25, 26, 27, 28, 29, 30, 31, 32, 33, 34, 35, 36, 37, 38, 39, 40, 41, 42, 43, 44, 45, 46, 47, 48, 49, 50, 51, 52, 53, 54, 55, 56, 57, 58, 59, 60, 61, 62, 63, 64, 65, 66, 67, 68, 69, 70, 71, 72, 73, 74, 75, 76, 77, 78, 79, 80, 81, 82, 83, 84, 85, 86, 87, 88, 89, 90, 91, 92, 93, 94, 95, 96, 97, 98] (by decide +kernel) (by decide +kernel)) (goodIn_sub (fun _ h => List.mem_cons_of_mem _ (List.mem_append_left _ (List.mem_append_right _ h))) (by decide +kernel))) (goodIn_sub (fun _ h => List.mem_cons_of_mem _ (List.mem_append_right _ h)) (by decide +kernel))
set_option maxRecDepth 20000 in
theorem gL_pass_X3_pass : GoodIn wsL_pass (wsV RL 52 RX3 yX3_pass wsX3_pass) := goodIn_app (goodIn_of _ (by decide +kernel)) ggL_pass_X3_pass
theorem dL_pass_0 : decode cL_pass 0 = .ok (.aload_n 2, 1) := by decide +kernel
theorem dL_pass_1 : decode cL_pass 1 = .ok (.iconst 0, 1) := by decide +kernel
theorem dL_pass_2 : decode cL_pass 2 = .ok (.aload_n 0, 1) := by decide +kernel
theorem dL_pass_3 : decode cL_pass 3 = .ok (.iload_n 1, 1) := by decide +kernel
theorem dL_pass_4 : decode cL_pass 4 = .ok (.invokevirtual 52, 3) := by decide +kernel
theorem dL_pass_7 : decode cL_pass 7 = .ok (.i2l, 1) := by decide +kernel
theorem dL_pass_8 : decode cL_pass 8 = .ok (.lastore, 1) := by decide +kernel
theorem dL_pass_9 : decode cL_pass 9 = .ok (.goto 9, 3) := by decide +kernel
theorem dL_pass_12 : decode cL_pass 12 = .ok (.astore_n 3, 1) := by decide +kernel
theorem dL_pass_13 : decode cL_pass 13 = .ok (.iconst 1, 1) := by decide +kernel
theorem dL_pass_14 : decode cL_pass 14 = .ok (.ireturn, 1) := by decide +kernel
theorem dL_pass_15 : decode cL_pass 15 = .ok (.astore_n 3, 1) := by decide +kernel
theorem dL_pass_16 : decode cL_pass 16 = .ok (.iconst 2, 1) := by decide +kernel
theorem dL_pass_17 : decode cL_pass 17 = .ok (.ireturn, 1) := by decide +kernel
theorem dL_pass_18 : decode cL_pass 18 = .ok (.iconst 0, 1) := by decide +kernel
theorem dL_pass_19 : decode cL_pass 19 = .ok (.ireturn, 1) := by decide +kernel
set_option maxRecDepth 20000 in
theorem ggL_state_X3_state : GoodIn wsL_state wsX3_state := goodIn_ca (goodIn_r _ [6, 7, 8, 9, 10, 5, 11, 12, 13, 14, 15, 16, 17, 18, 19, 20, 21, 22, 23, 24, 25, 26, 27, 28, 29, 30, 31, 32, 33, 34, 35, 36, 37, 38, 39, 40, 41, 42, 43, 44, 45, 46, 47, 48, 49, 50, 51, 52, 53, 54] (by decide +kernel) (by decide +kernel)) (goodIn_sub (fun _ h => List.mem_cons_of_mem _ (List.mem_append_right _ h)) (by decide +kernel))
set_option maxRecDepth 20000 in
theorem gL_state_X3_state : GoodIn wsL_state (wsV RL 55 RX3 yX3_state wsX3_state) := goodIn_app (goodIn_of _ (by decide +kernel)) ggL_state_X3_state
theorem dL_state_0 : decode cL_state 0 = .ok (.aload_n 2, 1) := by decide +kernel
theorem dL_state_1 : decode cL_state 1 = .ok (.iconst 0, 1) := by decide +kernel
theorem dL_state_2 : decode cL_state 2 = .ok (.aload_n 0, 1) := by decide +kernel
theorem dL_state_3 : decode cL_state 3 = .ok (.iload_n 1, 1) := by decide +kernel
theorem dL_state_4 : decode cL_state 4 = .ok (.invokevirtual 55, 3) := by decide +kernel
theorem dL_state_7 : decode cL_state 7 = .ok (.i2l, 1) := by decide +kernel
theorem dL_state_8 : decode cL_state 8 = .ok (.lastore, 1) := by decide +kernel
theorem dL_state_9 : decode cL_state 9 = .ok (.goto 6, 3) := by decide +kernel
theorem dL_state_12 : decode cL_state 12 = .ok (.astore_n 3, 1) := by decide +kernel
theorem dL_state_13 : decode cL_state 13 = .ok (.iconst 1, 1) := by decide +kernel
theorem dL_state_14 : decode cL_state 14 = .ok (.ireturn, 1) := by decide +kernel
theorem dL_state_15 : decode cL_state 15 = .ok (.iconst 0, 1) := by decide +kernel
theorem dL_state_16 : decode cL_state 16 = .ok (.ireturn, 1) := by decide +kernel
set_option maxRecDepth 20000 in
theorem ggL_day_X3_day : GoodIn wsL_day wsX3_day := goodIn_ca (goodIn_r _ [6, 7, 8, 9, 10, 5, 11, 12, 13, 14, 15, 16, 17, 18, 19, 20, 21, 22, 23, 24, 25, 26, 27, 28, 29, 30, 31, 32, 33, 34, 35, 36, 37, 38, 39, 40, 41, 42, 43, 44, 45, 46, 47, 48, 49, 50, 51, 52, 53, 54] (by decide +kernel) (by decide +kernel)) (goodIn_sub (fun _ h => List.mem_cons_of_mem _ (List.mem_append_right _ h)) (by decide +kernel))
set_option maxRecDepth 20000 in
theorem gL_day_X3_day : GoodIn wsL_day (wsV RL 58 RX3 yX3_day wsX3_day) := goodIn_app (goodIn_of _ (by decide +kernel)) ggL_day_X3_day
theorem dL_day_0 : decode cL_day 0 = .ok (.aload_n 2, 1) := by decide +kernel
theorem dL_day_1 : decode cL_day 1 = .ok (.iconst 0, 1) := by decide +kernel
theorem dL_day_2 : decode cL_day 2 = .ok (.aload_n 0, 1) := by decide +kernel
theorem dL_day_3 : decode cL_day 3 = .ok (.iload_n 1, 1) := by decide +kernel
theorem dL_day_4 : decode cL_day 4 = .ok (.invokevirtual 58, 3) := by decide +kernel
theorem dL_day_7 : decode cL_day 7 = .ok (.i2l, 1) := by decide +kernel
theorem dL_day_8 : decode cL_day 8 = .ok (.lastore, 1) := by decide +kernel
theorem dL_day_9 : decode cL_day 9 = .ok (.goto 6, 3) := by decide +kernel
theorem dL_day_12 : decode cL_day 12 = .ok (.astore_n 3, 1) := by decide +kernel
theorem dL_day_13 : decode cL_day 13 = .ok (.iconst 1, 1) := by decide +kernel
theorem dL_day_14 : decode cL_day 14 = .ok (.ireturn, 1) := by decide +kernel
theorem dL_day_15 : decode cL_day 15 = .ok (.iconst 0, 1) := by decide +kernel
theorem dL_day_16 : decode cL_day 16 = .ok (.ireturn, 1) := by decide +kernel
set_option maxRecDepth 20000 in
theorem ggL_isSuspended_X3_isSuspended : GoodIn wsL_isSuspended wsX3_isSuspended := goodIn_ca (goodIn_r _ [6, 7, 8, 9, 5, 10, 11, 12, 13, 14, 15, 16, 17, 18, 19, 20, 21, 22, 23, 24, 25, 26, 27, 28, 29, 30, 31, 32, 33, 34, 35, 36, 37, 38, 39, 40, 41, 42, 43, 44, 45, 46, 47, 48, 49, 50, 51, 52, 53, 54, 55, 56, 57, 58, 59, 60, 61, 62, 63, 64, 65, 66, 67, 68, 69, 70, 71, 72, 73, 74, 75, 76, 77] (by decide +kernel) (by decide +kernel)) (goodIn_sub (fun _ h => List.mem_cons_of_mem _ (List.mem_append_right _ h)) (by decide +kernel))
set_option maxRecDepth 20000 in
theorem gL_isSuspended_X3_isSuspended : GoodIn wsL_isSuspended (wsV RL 61 RX3 yX3_isSuspended wsX3_isSuspended) := goodIn_app (goodIn_of _ (by decide +kernel)) ggL_isSuspended_X3_isSuspended
theorem dL_isSuspended_0 : decode cL_isSuspended 0 = .ok (.aload_n 2, 1) := by decide +kernel
theorem dL_isSuspended_1 : decode cL_isSuspended 1 = .ok (.iconst 0, 1) := by decide +kernel
theorem dL_isSuspended_2 : decode cL_isSuspended 2 = .ok (.aload_n 0, 1) := by decide +kernel
theorem dL_isSuspended_3 : decode cL_isSuspended 3 = .ok (.iload_n 1, 1) := by decide +kernel
theorem dL_isSuspended_4 : decode cL_isSuspended 4 = .ok (.invokevirtual 61, 3) := by decide +kernel
theorem dL_isSuspended_7 : decode cL_isSuspended 7 = .ok (.ifCond .eq 7, 3) := by decide +kernel
theorem dL_isSuspended_10 : decode cL_isSuspended 10 = .ok (.lconst 1, 1) := by decide +kernel
theorem dL_isSuspended_11 : decode cL_isSuspended 11 = .ok (.goto 4, 3) := by decide +kernel
theorem dL_isSuspended_14 : decode cL_isSuspended 14 = .ok (.lconst 0, 1) := by decide +kernel
theorem dL_isSuspended_15 : decode cL_isSuspended 15 = .ok (.lastore, 1) := by decide +kernel
theorem dL_isSuspended_16 : decode cL_isSuspended 16 = .ok (.goto 6, 3) := by decide +kernel
theorem dL_isSuspended_19 : decode cL_isSuspended 19 = .ok (.astore_n 3, 1) := by decide +kernel
theorem dL_isSuspended_20 : decode cL_isSuspended 20 = .ok (.iconst 1, 1) := by decide +kernel
theorem dL_isSuspended_21 : decode cL_isSuspended 21 = .ok (.ireturn, 1) := by decide +kernel
theorem dL_isSuspended_22 : decode cL_isSuspended 22 = .ok (.iconst 0, 1) := by decide +kernel
theorem dL_isSuspended_23 : decode cL_isSuspended 23 = .ok (.ireturn, 1) := by decide +kernel
set_option maxRecDepth 20000 in
theorem ggL_perform_X3_perform : GoodIn wsL_perform wsX3_perform := goodIn_ca (goodIn_ca (goodIn_r _ [7, 8, 9, 10, 11, 12, 13, 14, 15, 6, 16, 17, 18, 19, 20, 21, 22, 23, 24, 25, 26, 27, 28, 29, 30, 31, 32, 33, 34, 35, 36, 37, 38, 39, 40, 41, 42, 43, 44, 45, 46, 47, 48, 49, 50, 51, 52, 53, 54, 55, 56, 57, 58, 59, 60, 61, 62, 63, 64, 65, 66, 67, 68, 69, 70] (by decide +kernel) (by decide +kernel)) (goodIn_sub (fun _ h => List.mem_cons_of_mem _ (List.mem_append_left _ (List.mem_append_right _ h))) (by decide +kernel))) (goodIn_sub (fun _ h => List.mem_cons_of_mem _ (List.mem_append_right _ h)) (by decide +kernel))
set_option maxRecDepth 20000 in
theorem gL_perform_X3_perform : GoodIn wsL_perform (wsV RL 65 RX3 yX3_perform wsX3_perform) := goodIn_app (goodIn_of _ (by decide +kernel)) ggL_perform_X3_perform
theorem dL_perform_0 : decode cL_perform 0 = .ok (.aload_n 2, 1) := by decide +kernel
theorem dL_perform_1 : decode cL_perform 1 = .ok (.iconst 0, 1) := by decide +kernel
theorem dL_perform_2 : decode cL_perform 2 = .ok (.aload_n 0, 1) := by decide +kernel
theorem dL_perform_3 : decode cL_perform 3 = .ok (.iload_n 1, 1) := by decide +kernel
theorem dL_perform_4 : decode cL_perform 4 = .ok (.invokevirtual 65, 3) := by decide +kernel
theorem dL_perform_7 : decode cL_perform 7 = .ok (.ifCond .eq 7, 3) := by decide +kernel
theorem dL_perform_10 : decode cL_perform 10 = .ok (.lconst 1, 1) := by decide +kernel
theorem dL_perform_11 : decode cL_perform 11 = .ok (.goto 4, 3) := by decide +kernel
theorem dL_perform_14 : decode cL_perform 14 = .ok (.lconst 0, 1) := by decide +kernel
theorem dL_perform_15 : decode cL_perform 15 = .ok (.lastore, 1) := by decide +kernel
theorem dL_perform_16 : decode cL_perform 16 = .ok (.goto 9, 3) := by decide +kernel
theorem dL_perform_19 : decode cL_perform 19 = .ok (.astore_n 3, 1) := by decide +kernel
theorem dL_perform_20 : decode cL_perform 20 = .ok (.iconst 1, 1) := by decide +kernel
theorem dL_perform_21 : decode cL_perform 21 = .ok (.ireturn, 1) := by decide +kernel
theorem dL_perform_22 : decode cL_perform 22 = .ok (.astore_n 3, 1) := by decide +kernel
theorem dL_perform_23 : decode cL_perform 23 = .ok (.iconst 2, 1) := by decide +kernel
theorem dL_perform_24 : decode cL_perform 24 = .ok (.ireturn, 1) := by decide +kernel
theorem dL_perform_25 : decode cL_perform 25 = .ok (.iconst 0, 1) := by decide +kernel
theorem dL_perform_26 : decode cL_perform 26 = .ok (.ireturn, 1) := by decide +kernel
set_option maxRecDepth 20000 in
theorem ggL_notice_X3_notice : GoodIn wsL_notice wsX3_notice := goodIn_ca (goodIn_ca (goodIn_r _ [7, 8, 9, 10, 11, 12, 13, 14, 15, 16, 17, 6, 18, 19, 20, 21, 22, 23, 24, 25, 26, 27, 28, 29, 30, 31, 32, 33, 34, 35, 36, 37, 38, 39, 40, 41, 42, 43, 44, 45, 46, 47, 48, 49, 50, 51, 52, 53, 54, 55, 56, 57, 58, 59, 60, 61, 62, 63, 64, 65, 66, 67, 68, 69, 70, 71, 72, 73] (by decide +kernel) (by decide +kernel)) (goodIn_sub (fun _ h => List.mem_cons_of_mem _ (List.mem_append_left _ (List.mem_append_right _ h))) (by decide +kernel))) (goodIn_sub (fun _ h => List.mem_cons_of_mem _ (List.mem_append_right _ h)) (by decide +kernel))
set_option maxRecDepth 20000 in
theorem gL_notice_X3_notice : GoodIn wsL_notice (wsV RL 68 RX3 yX3_notice wsX3_notice) := goodIn_app (goodIn_of _ (by decide +kernel)) ggL_notice_X3_notice
theorem dL_notice_0 : decode cL_notice 0 = .ok (.aload_n 2, 1) := by decide +kernel
theorem dL_notice_1 : decode cL_notice 1 = .ok (.iconst 0, 1) := by decide +kernel
theorem dL_notice_2 : decode cL_notice 2 = .ok (.aload_n 0, 1) := by decide +kernel
theorem dL_notice_3 : decode cL_notice 3 = .ok (.iload_n 1, 1) := by decide +kernel
theorem dL_notice_4 : decode cL_notice 4 = .ok (.invokevirtual 68, 3) := by decide +kernel
theorem dL_notice_7 : decode cL_notice 7 = .ok (.i2l, 1) := by decide +kernel
theorem dL_notice_8 : decode cL_notice 8 = .ok (.lastore, 1) := by decide +kernel
theorem dL_notice_9 : decode cL_notice 9 = .ok (.goto 9, 3) := by decide +kernel
theorem dL_notice_12 : decode cL_notice 12 = .ok (.astore_n 3, 1) := by decide +kernel
theorem dL_notice_13 : decode cL_notice 13 = .ok (.iconst 1, 1) := by decide +kernel
theorem dL_notice_14 : decode cL_notice 14 = .ok (.ireturn, 1) := by decide +kernel
theorem dL_notice_15 : decode cL_notice 15 = .ok (.astore_n 3, 1) := by decide +kernel
theorem dL_notice_16 : decode cL_notice 16 = .ok (.iconst 2, 1) := by decide +kernel
theorem dL_notice_17 : decode cL_notice 17 = .ok (.ireturn, 1) := by decide +kernel
theorem dL_notice_18 : decode cL_notice 18 = .ok (.iconst 0, 1) := by decide +kernel
theorem dL_notice_19 : decode cL_notice 19 = .ok (.ireturn, 1) := by decide +kernel
set_option maxRecDepth 20000 in
theorem ggL_settle_X3_settle : GoodIn wsL_settle wsX3_settle := goodIn_ca (goodIn_ca (goodIn_r _ [7, 8, 9, 10, 11, 12, 13, 14, 15, 16, 6, 17, 18, 19, 20, 21, 22, 23, 24, 25, 26, 27, 28, 29, 30, 31, 32, 33, 34, 35, 36, 37, 38, 39, 40, 41, 42, 43, 44, 45, 46, 47, 48, 49, 50, 51, 52, 53, 54, 55, 56, 57, 58, 59, 60, 61, 62, 63, 64, 65, 66, 67, 68, 69, 70, 71, 72, 73, 74, 75, 76, 77, 78, 79, 80, 81, 82, 83, 84, 85, 86, 87] (by decide +kernel) (by decide +kernel)) (goodIn_sub (fun _ h => List.mem_cons_of_mem _ (List.mem_append_left _ (List.mem_append_right _ h))) (by decide +kernel))) (goodIn_sub (fun _ h => List.mem_cons_of_mem _ (List.mem_append_right _ h)) (by decide +kernel))
set_option maxRecDepth 20000 in
theorem gL_settle_X3_settle : GoodIn wsL_settle (wsV RL 71 RX3 yX3_settle wsX3_settle) := goodIn_app (goodIn_of _ (by decide +kernel)) ggL_settle_X3_settle
theorem dL_settle_0 : decode cL_settle 0 = .ok (.aload_n 2, 1) := by decide +kernel
theorem dL_settle_1 : decode cL_settle 1 = .ok (.iconst 0, 1) := by decide +kernel
theorem dL_settle_2 : decode cL_settle 2 = .ok (.aload_n 0, 1) := by decide +kernel
theorem dL_settle_3 : decode cL_settle 3 = .ok (.iload_n 1, 1) := by decide +kernel
theorem dL_settle_4 : decode cL_settle 4 = .ok (.invokevirtual 71, 3) := by decide +kernel
theorem dL_settle_7 : decode cL_settle 7 = .ok (.i2l, 1) := by decide +kernel
theorem dL_settle_8 : decode cL_settle 8 = .ok (.lastore, 1) := by decide +kernel
theorem dL_settle_9 : decode cL_settle 9 = .ok (.goto 9, 3) := by decide +kernel
theorem dL_settle_12 : decode cL_settle 12 = .ok (.astore_n 3, 1) := by decide +kernel
theorem dL_settle_13 : decode cL_settle 13 = .ok (.iconst 1, 1) := by decide +kernel
theorem dL_settle_14 : decode cL_settle 14 = .ok (.ireturn, 1) := by decide +kernel
theorem dL_settle_15 : decode cL_settle 15 = .ok (.astore_n 3, 1) := by decide +kernel
theorem dL_settle_16 : decode cL_settle 16 = .ok (.iconst 2, 1) := by decide +kernel
theorem dL_settle_17 : decode cL_settle 17 = .ok (.ireturn, 1) := by decide +kernel
theorem dL_settle_18 : decode cL_settle 18 = .ok (.iconst 0, 1) := by decide +kernel
theorem dL_settle_19 : decode cL_settle 19 = .ok (.ireturn, 1) := by decide +kernel
set_option maxRecDepth 20000 in
theorem ggL_owes_X3_owes : GoodIn wsL_owes wsX3_owes := goodIn_ca (goodIn_ca (goodIn_r _ [7, 8, 9, 10, 11, 12, 13, 14, 15, 6, 16, 17, 18, 19, 20, 21, 22, 23, 24, 25, 26, 27, 28, 29, 30, 31, 32, 33, 34, 35, 36, 37, 38, 39, 40, 41, 42, 43, 44, 45, 46, 47, 48, 49, 50, 51, 52, 53, 54, 55, 56, 57, 58, 59, 60, 61, 62, 63, 64, 65] (by decide +kernel) (by decide +kernel)) (goodIn_sub (fun _ h => List.mem_cons_of_mem _ (List.mem_append_left _ (List.mem_append_right _ h))) (by decide +kernel))) (goodIn_sub (fun _ h => List.mem_cons_of_mem _ (List.mem_append_right _ h)) (by decide +kernel))
set_option maxRecDepth 20000 in
theorem gL_owes_X3_owes : GoodIn wsL_owes (wsV RL 74 RX3 yX3_owes wsX3_owes) := goodIn_app (goodIn_of _ (by decide +kernel)) ggL_owes_X3_owes
theorem dL_owes_0 : decode cL_owes 0 = .ok (.aload_n 3, 1) := by decide +kernel
theorem dL_owes_1 : decode cL_owes 1 = .ok (.iconst 0, 1) := by decide +kernel
theorem dL_owes_2 : decode cL_owes 2 = .ok (.aload_n 0, 1) := by decide +kernel
theorem dL_owes_3 : decode cL_owes 3 = .ok (.iload_n 1, 1) := by decide +kernel
theorem dL_owes_4 : decode cL_owes 4 = .ok (.iload_n 2, 1) := by decide +kernel
theorem dL_owes_5 : decode cL_owes 5 = .ok (.invokevirtual 74, 3) := by decide +kernel
theorem dL_owes_8 : decode cL_owes 8 = .ok (.i2l, 1) := by decide +kernel
theorem dL_owes_9 : decode cL_owes 9 = .ok (.lastore, 1) := by decide +kernel
theorem dL_owes_10 : decode cL_owes 10 = .ok (.goto 11, 3) := by decide +kernel
theorem dL_owes_13 : decode cL_owes 13 = .ok (.astore 4, 2) := by decide +kernel
theorem dL_owes_15 : decode cL_owes 15 = .ok (.iconst 1, 1) := by decide +kernel
theorem dL_owes_16 : decode cL_owes 16 = .ok (.ireturn, 1) := by decide +kernel
theorem dL_owes_17 : decode cL_owes 17 = .ok (.astore 4, 2) := by decide +kernel
theorem dL_owes_19 : decode cL_owes 19 = .ok (.iconst 2, 1) := by decide +kernel
theorem dL_owes_20 : decode cL_owes 20 = .ok (.ireturn, 1) := by decide +kernel
theorem dL_owes_21 : decode cL_owes 21 = .ok (.iconst 0, 1) := by decide +kernel
theorem dL_owes_22 : decode cL_owes 22 = .ok (.ireturn, 1) := by decide +kernel
set_option maxRecDepth 20000 in
theorem ggL_law_X3_init : GoodIn wsL_law wsX3_init := goodIn_r _ [9, 10, 11, 12, 13, 14, 15, 16, 17, 18, 19, 20, 21, 22, 23, 24, 25, 26, 27, 28, 29, 30, 31, 32, 33, 34, 35, 36, 37, 38, 546, 547, 548, 549, 550, 551, 574, 575, 576] (by decide +kernel) (by decide +kernel)
set_option maxRecDepth 20000 in
theorem gL_law_X3_init : GoodIn wsL_law (wsX3_init) := ggL_law_X3_init
set_option maxRecDepth 20000 in
theorem ggL_law_X4_init : GoodIn wsL_law wsX4_init := goodIn_r _ [41, 42, 11, 12, 15, 43, 44, 45, 46, 47, 48, 49, 50, 51, 52, 53, 54, 55, 56, 57, 58, 59, 60, 61, 552, 553, 554, 555, 556, 557, 558, 559, 560, 561, 562, 563, 564, 565, 566, 567, 568, 569, 570, 571, 572, 573] (by decide +kernel) (by decide +kernel)
set_option maxRecDepth 20000 in
theorem gL_law_X4_init : GoodIn wsL_law (wsX4_init) := ggL_law_X4_init
set_option maxRecDepth 20000 in
theorem ggL_law_L_issue : GoodIn wsL_law wsL_issue := goodIn_ca (goodIn_ca (goodIn_r _ [65, 66, 67, 68, 69, 70, 2, 71, 72, 73, 74, 75, 14, 13, 76, 77, 78, 79, 80, 81, 82, 83, 84, 85, 86, 87, 88, 89, 90, 91, 92, 93, 94, 95, 96, 97, 98, 11, 12, 99, 100, 101, 102, 103, 546, 547, 548, 549, 550, 551, 577, 578, 579, 580, 581] (by decide +kernel) (by decide +kernel)) (goodIn_sub (fun _ h => List.mem_append_left _ (List.mem_append_left _ (List.mem_append_right _ h))) (by decide +kernel))) (goodIn_sub (fun _ h => List.mem_append_left _ (List.mem_append_right _ h)) (by decide +kernel))
set_option maxRecDepth 20000 in
theorem gL_law_L_issue : GoodIn wsL_law (va_wsS RL 81 yL_issue wsL_issue) := goodIn_app (goodIn_of _ (by decide +kernel)) ggL_law_L_issue
set_option maxRecDepth 20000 in
theorem ggL_law_X4_issue : GoodIn wsL_law wsX4_issue := goodIn_r _ [107, 43, 108, 44, 45, 46, 47, 109, 110, 5, 111, 112, 113, 114, 115, 116, 117, 552, 553, 554, 555, 556, 557, 558, 559, 560, 561, 562, 563, 564, 565, 566, 567, 568, 569, 570, 571, 572, 573] (by decide +kernel) (by decide +kernel)
set_option maxRecDepth 20000 in
theorem gL_law_X4_issue : GoodIn wsL_law (wsV RL 86 RX4 yX4_issue wsX4_issue) := goodIn_app (goodIn_of _ (by decide +kernel)) ggL_law_X4_issue
set_option maxRecDepth 20000 in
theorem ggL_law_X4_thrown : GoodIn wsL_law wsX4_thrown := goodIn_r _ [121, 108, 552, 553, 554, 555, 556, 557, 558, 559, 560, 561, 562, 563, 564, 565, 566, 567, 568, 569, 570, 571, 572, 573] (by decide +kernel) (by decide +kernel)
set_option maxRecDepth 20000 in
theorem gL_law_X4_thrown : GoodIn wsL_law (wsV RL 87 RX4 yX4_thrown wsX4_thrown) := goodIn_app (goodIn_of _ (by decide +kernel)) ggL_law_X4_thrown
set_option maxRecDepth 20000 in
theorem ggL_law_L_relate : GoodIn wsL_law wsL_relate := goodIn_ca (goodIn_r _ [124, 66, 125, 126, 127, 2, 128, 16, 17, 78, 79, 80, 72, 73, 81, 82, 83, 129, 130, 131, 546, 547, 548, 549, 550, 551] (by decide +kernel) (by decide +kernel)) (goodIn_sub (fun _ h => List.mem_append_left _ (List.mem_append_left _ (List.mem_append_right _ h))) (by decide +kernel))
set_option maxRecDepth 20000 in
theorem gL_law_L_relate : GoodIn wsL_law (va_wsS RL 90 yL_relate wsL_relate) := goodIn_app (goodIn_of _ (by decide +kernel)) ggL_law_L_relate
set_option maxRecDepth 20000 in
theorem ggL_law_X4_relate : GoodIn wsL_law wsX4_relate := goodIn_r _ [135, 108, 48, 49, 109, 110, 5, 111, 112, 113, 114, 552, 553, 554, 555, 556, 557, 558, 559, 560, 561, 562, 563, 564, 565, 566, 567, 568, 569, 570, 571, 572, 573] (by decide +kernel) (by decide +kernel)
set_option maxRecDepth 20000 in
theorem gL_law_X4_relate : GoodIn wsL_law (wsV RL 93 RX4 yX4_relate wsX4_relate) := goodIn_app (goodIn_of _ (by decide +kernel)) ggL_law_X4_relate
set_option maxRecDepth 20000 in
theorem ggL_law_L_latest : GoodIn wsL_law wsL_latest := goodIn_ca (goodIn_r _ [138, 66, 139, 140, 141, 2, 142, 78, 79, 80, 72, 73, 81, 82, 83, 87, 88, 89, 90, 14, 91, 92, 93, 94, 546, 547, 548, 549, 550, 551, 577, 578, 579, 580, 581] (by decide +kernel) (by decide +kernel)) (goodIn_sub (fun _ h => List.mem_append_left _ (List.mem_append_left _ (List.mem_append_right _ h))) (by decide +kernel))
set_option maxRecDepth 20000 in
theorem gL_law_L_latest : GoodIn wsL_law (va_wsS RL 94 yL_latest wsL_latest) := goodIn_app (goodIn_of _ (by decide +kernel)) ggL_law_L_latest
set_option maxRecDepth 20000 in
theorem ggL_law_X4_latest : GoodIn wsL_law wsX4_latest := goodIn_r _ [146, 108, 43, 109, 110, 5, 111, 112, 113, 114, 552, 553, 554, 555, 556, 557, 558, 559, 560, 561, 562, 563, 564, 565, 566, 567, 568, 569, 570, 571, 572, 573] (by decide +kernel) (by decide +kernel)
set_option maxRecDepth 20000 in
theorem gL_law_X4_latest : GoodIn wsL_law (wsV RL 97 RX4 yX4_latest wsX4_latest) := goodIn_app (goodIn_of _ (by decide +kernel)) ggL_law_X4_latest
set_option maxRecDepth 20000 in
theorem ggL_law_L_begin : GoodIn wsL_law wsL_begin := goodIn_ca (goodIn_r _ [149, 67, 150, 151, 152, 2, 153, 74, 75, 21, 154, 155, 156, 157, 158, 159, 20, 160, 161, 162, 163, 164, 11, 12, 165, 166, 167, 15, 168, 50, 169, 170, 171, 172, 173, 174, 175, 176, 177, 28, 178, 179, 180, 181, 182, 183, 184, 185, 186, 187, 188, 189, 27, 190, 191, 192, 193, 194, 195, 196, 197, 198, 199, 200, 201, 202, 203, 204, 205, 206, 207, 208, 209, 210, 211, 212, 213, 214, 215, 216, 217, 218, 219, 220, 221, 222, 223, 546, 547, 548, 549, 550, 551, 582, 583, 584, 585, 586, 574, 575, 576] (by decide +kernel) (by decide +kernel)) (goodIn_sub (fun _ h => List.mem_append_left _ (List.mem_append_right _ h)) (by decide +kernel))
set_option maxRecDepth 20000 in
theorem gL_law_L_begin : GoodIn wsL_law (va_wsS RL 98 yL_begin wsL_begin) := goodIn_app (goodIn_of _ (by decide +kernel)) ggL_law_L_begin
set_option maxRecDepth 20000 in
theorem ggL_law_X4_begin : GoodIn wsL_law wsX4_begin := goodIn_r _ [227, 228, 108, 552, 553, 554, 555, 556, 557, 558, 559, 560, 561, 562, 563, 564, 565, 566, 567, 568, 569, 570, 571, 572, 573] (by decide +kernel) (by decide +kernel)
set_option maxRecDepth 20000 in
theorem gL_law_X4_begin : GoodIn wsL_law (wsV RL 101 RX4 yX4_begin wsX4_begin) := goodIn_app (goodIn_of _ (by decide +kernel)) ggL_law_X4_begin
set_option maxRecDepth 20000 in
theorem ggL_law_L_mark : GoodIn wsL_law wsL_mark := goodIn_ca (goodIn_ca (goodIn_ca (goodIn_r _ [231, 232, 66, 67, 233, 234, 235, 2, 236, 72, 73, 74, 75, 237, 14, 238, 239, 240, 241, 242, 243, 244, 21, 245, 157, 158, 159, 20, 160, 161, 81, 82, 83, 246, 247, 248, 249, 250, 251, 252, 253, 254, 255, 256, 257, 258, 259, 260, 261, 28, 84, 85, 86, 78, 79, 80, 262, 263, 264, 265, 266, 267, 156, 268, 169, 269, 270, 271, 272, 166, 168, 273, 274, 275, 276, 277, 278, 279, 280, 582, 583, 584, 585, 586, 546, 547, 548, 549, 550, 551, 574, 575, 576] (by decide +kernel) (by decide +kernel)) (goodIn_sub (fun _ h => List.mem_append_left _ (List.mem_append_left _ (List.mem_append_right _ h))) (by decide +kernel))) (goodIn_sub (fun _ h => List.mem_append_left _ (List.mem_append_right _ h)) (by decide +kernel))) (goodIn_sub (fun _ h => List.mem_append_right _ h) (by decide +kernel))
set_option maxRecDepth 20000 in
theorem gL_law_L_mark : GoodIn wsL_law (va_wsS RL 102 yL_mark wsL_mark) := goodIn_app (goodIn_of _ (by decide +kernel)) ggL_law_L_mark
set_option maxRecDepth 20000 in
theorem ggL_law_X4_mark : GoodIn wsL_law wsX4_mark := goodIn_r _ [284, 108, 53, 51, 43, 54, 285, 286, 287, 5, 288, 228, 112, 113, 114, 115, 116, 117, 109, 110, 111, 289, 290, 291, 292, 52, 552, 553, 554, 555, 556, 557, 558, 559, 560, 561, 562, 563, 564, 565, 566, 567, 568, 569, 570, 571, 572, 573] (by decide +kernel) (by decide +kernel)
set_option maxRecDepth 20000 in
theorem gL_law_X4_mark : GoodIn wsL_law (wsV RL 105 RX4 yX4_mark wsX4_mark) := goodIn_app (goodIn_of _ (by decide +kernel)) ggL_law_X4_mark
set_option maxRecDepth 20000 in
theorem ggL_law_L_renew : GoodIn wsL_law wsL_renew := goodIn_ca (goodIn_ca (goodIn_ca (goodIn_r _ [295, 232, 66, 67, 296, 297, 298, 2, 299, 74, 75, 14, 239, 240, 241, 242, 243, 244, 21, 245, 157, 158, 159, 20, 160, 161, 81, 82, 83, 246, 247, 248, 249, 250, 251, 252, 253, 254, 255, 256, 257, 258, 259, 260, 261, 28, 84, 85, 86, 72, 73, 78, 79, 80, 262, 263, 264, 265, 266, 267, 156, 268, 169, 300, 301, 302, 303, 237, 304, 305, 306, 91, 92, 93, 94, 87, 88, 89, 90, 269, 270, 271, 272, 166, 168, 273, 274, 275, 276, 546, 547, 548, 549, 550, 551, 574, 575, 576, 582, 583, 584, 585, 586, 577, 578, 579, 580, 581] (by decide +kernel) (by decide +kernel)) (goodIn_sub (fun _ h => List.mem_append_left _ (List.mem_append_right _ h)) (by decide +kernel))) (goodIn_sub (fun _ h => List.mem_append_right _ h) (by decide +kernel))) (goodIn_sub (fun _ h => List.mem_append_left _ (List.mem_append_left _ (List.mem_append_right _ h))) (by decide +kernel))
set_option maxRecDepth 20000 in
theorem gL_law_L_renew : GoodIn wsL_law (va_wsS RL 106 yL_renew wsL_renew) := goodIn_app (goodIn_of _ (by decide +kernel)) ggL_law_L_renew
set_option maxRecDepth 20000 in
theorem ggL_law_X4_renew : GoodIn wsL_law wsX4_renew := goodIn_r _ [310, 108, 51, 53, 43, 54, 52, 285, 286, 287, 5, 288, 228, 112, 113, 114, 115, 116, 117, 109, 110, 111, 552, 553, 554, 555, 556, 557, 558, 559, 560, 561, 562, 563, 564, 565, 566, 567, 568, 569, 570, 571, 572, 573] (by decide +kernel) (by decide +kernel)
set_option maxRecDepth 20000 in
theorem gL_law_X4_renew : GoodIn wsL_law (wsV RL 109 RX4 yX4_renew wsX4_renew) := goodIn_app (goodIn_of _ (by decide +kernel)) ggL_law_X4_renew
set_option maxRecDepth 20000 in
theorem ggL_law_L_version : GoodIn wsL_law wsL_version := goodIn_ca (goodIn_ca (goodIn_r _ [313, 232, 66, 314, 315, 316, 2, 317, 239, 240, 241, 242, 243, 244, 21, 245, 157, 158, 159, 20, 160, 161, 81, 82, 83, 246, 247, 248, 249, 250, 251, 252, 253, 254, 255, 256, 257, 258, 259, 260, 261, 28, 78, 79, 80, 72, 73, 304, 305, 306, 237, 91, 92, 93, 94, 546, 547, 548, 549, 550, 551, 574, 575, 576, 582, 583, 584, 585, 586, 577, 578, 579, 580, 581] (by decide +kernel) (by decide +kernel)) (goodIn_sub (fun _ h => List.mem_append_right _ h) (by decide +kernel))) (goodIn_sub (fun _ h => List.mem_append_left _ (List.mem_append_left _ (List.mem_append_right _ h))) (by decide +kernel))
set_option maxRecDepth 20000 in
theorem gL_law_L_version : GoodIn wsL_law (va_wsS RL 110 yL_version wsL_version) := goodIn_app (goodIn_of _ (by decide +kernel)) ggL_law_L_version
set_option maxRecDepth 20000 in
theorem ggL_law_X4_version : GoodIn wsL_law wsX4_version := goodIn_r _ [321, 108, 53, 285, 286, 287, 5, 288, 228, 112, 113, 114, 109, 110, 111, 552, 553, 554, 555, 556, 557, 558, 559, 560, 561, 562, 563, 564, 565, 566, 567, 568, 569, 570, 571, 572, 573] (by decide +kernel) (by decide +kernel)
set_option maxRecDepth 20000 in
theorem gL_law_X4_version : GoodIn wsL_law (wsV RL 113 RX4 yX4_version wsX4_version) := goodIn_app (goodIn_of _ (by decide +kernel)) ggL_law_X4_version
set_option maxRecDepth 20000 in
theorem ggL_law_L_offered : GoodIn wsL_law wsL_offered := goodIn_ca (goodIn_r _ [324, 232, 325, 326, 327, 2, 328, 239, 240, 241, 242, 243, 244, 21, 245, 157, 158, 159, 20, 160, 161, 81, 82, 83, 246, 247, 248, 249, 250, 251, 252, 253, 254, 255, 256, 257, 258, 259, 260, 261, 28, 265, 266, 267, 156, 268, 169, 300, 301, 302, 303, 237, 304, 305, 306, 91, 92, 93, 94, 87, 88, 89, 90, 14, 546, 547, 548, 549, 550, 551, 574, 575, 576, 582, 583, 584, 585, 586, 577, 578, 579, 580, 581] (by decide +kernel) (by decide +kernel)) (goodIn_sub (fun _ h => List.mem_append_right _ h) (by decide +kernel))
set_option maxRecDepth 20000 in
theorem gL_law_L_offered : GoodIn wsL_law (va_wsS RL 114 yL_offered wsL_offered) := goodIn_app (goodIn_of _ (by decide +kernel)) ggL_law_L_offered
set_option maxRecDepth 20000 in
theorem ggL_law_X4_offered : GoodIn wsL_law wsX4_offered := goodIn_r _ [332, 108, 51, 53, 43, 285, 286, 287, 5, 288, 228, 112, 113, 114, 552, 553, 554, 555, 556, 557, 558, 559, 560, 561, 562, 563, 564, 565, 566, 567, 568, 569, 570, 571, 572, 573] (by decide +kernel) (by decide +kernel)
set_option maxRecDepth 20000 in
theorem gL_law_X4_offered : GoodIn wsL_law (wsV RL 116 RX4 yX4_offered wsX4_offered) := goodIn_app (goodIn_of _ (by decide +kernel)) ggL_law_X4_offered
set_option maxRecDepth 20000 in
theorem ggL_law_L_whyNot : GoodIn wsL_law wsL_whyNot := goodIn_ca (goodIn_r _ [335, 232, 336, 337, 338, 2, 339, 239, 240, 241, 242, 243, 244, 21, 245, 157, 158, 159, 20, 160, 161, 81, 82, 83, 246, 247, 248, 249, 250, 251, 252, 253, 254, 255, 256, 257, 258, 259, 260, 261, 28, 340, 341, 342, 343, 16, 17, 344, 345, 346, 156, 347, 166, 265, 266, 267, 268, 169, 348, 349, 350, 351, 168, 352, 353, 354, 546, 547, 548, 549, 550, 551, 574, 575, 576, 582, 583, 584, 585, 586] (by decide +kernel) (by decide +kernel)) (goodIn_sub (fun _ h => List.mem_append_right _ h) (by decide +kernel))
set_option maxRecDepth 20000 in
theorem gL_law_L_whyNot : GoodIn wsL_law (va_wsS RL 117 yL_whyNot wsL_whyNot) := goodIn_app (goodIn_of _ (by decide +kernel)) ggL_law_L_whyNot
set_option maxRecDepth 20000 in
theorem ggL_law_X4_whyNot : GoodIn wsL_law wsX4_whyNot := goodIn_r _ [358, 108, 285, 286, 287, 5, 288, 228, 112, 113, 114, 359, 360, 361, 362, 53, 48, 49, 54, 51, 552, 553, 554, 555, 556, 557, 558, 559, 560, 561, 562, 563, 564, 565, 566, 567, 568, 569, 570, 571, 572, 573] (by decide +kernel) (by decide +kernel)
set_option maxRecDepth 20000 in
theorem gL_law_X4_whyNot : GoodIn wsL_law (wsV RL 119 RX4 yX4_whyNot wsX4_whyNot) := goodIn_app (goodIn_of _ (by decide +kernel)) ggL_law_X4_whyNot
set_option maxRecDepth 20000 in
theorem ggL_law_L_sign : GoodIn wsL_law wsL_sign := goodIn_ca (goodIn_ca (goodIn_ca (goodIn_r _ [365, 232, 66, 67, 366, 367, 368, 2, 369, 74, 75, 370, 239, 240, 241, 242, 243, 244, 21, 245, 157, 158, 159, 20, 160, 161, 81, 82, 83, 246, 247, 248, 249, 250, 251, 252, 253, 254, 255, 256, 257, 258, 259, 260, 261, 28, 84, 85, 86, 72, 73, 340, 341, 342, 343, 16, 17, 344, 345, 346, 156, 347, 166, 265, 266, 267, 268, 169, 348, 349, 350, 351, 168, 352, 353, 354, 371, 372, 373, 374, 237, 22, 375, 376, 377, 23, 378, 379, 380, 381, 382, 11, 12, 383, 384, 385, 386, 172, 173, 174, 175, 176, 177, 178, 179, 180, 181, 182, 183, 184, 185, 186, 187, 188, 189, 27, 190, 191, 192, 193, 194, 195, 196, 197, 198, 199, 200, 201, 202, 203, 204, 205, 206, 207, 208, 209, 210, 211, 212, 213, 214, 215, 216, 217, 218, 219, 220, 221, 222, 223, 582, 583, 584, 585, 586, 546, 547, 548, 549, 550, 551, 574, 575, 576, 587, 588, 589, 590, 577, 578, 579, 580, 581] (by decide +kernel) (by decide +kernel)) (goodIn_sub (fun _ h => List.mem_append_left _ (List.mem_append_right _ h)) (by decide +kernel))) (goodIn_sub (fun _ h => List.mem_append_right _ h) (by decide +kernel))) (goodIn_sub (fun _ h => List.mem_append_left _ (List.mem_append_left _ (List.mem_append_right _ h))) (by decide +kernel))
set_option maxRecDepth 20000 in
theorem gL_law_L_sign : GoodIn wsL_law (va_wsS RL 120 yL_sign wsL_sign) := goodIn_app (goodIn_of _ (by decide +kernel)) ggL_law_L_sign
set_option maxRecDepth 20000 in
theorem ggL_law_X4_sign : GoodIn wsL_law wsX4_sign := goodIn_r _ [390, 52, 108, 51, 285, 286, 287, 5, 288, 228, 112, 113, 114, 115, 116, 117, 359, 360, 361, 362, 53, 48, 49, 54, 391, 392, 393, 394, 55, 395, 56, 44, 57, 46, 58, 47, 59, 60, 396, 45, 552, 553, 554, 555, 556, 557, 558, 559, 560, 561, 562, 563, 564, 565, 566, 567, 568, 569, 570, 571, 572, 573] (by decide +kernel) (by decide +kernel)
set_option maxRecDepth 20000 in
theorem gL_law_X4_sign : GoodIn wsL_law (wsV RL 122 RX4 yX4_sign wsX4_sign) := goodIn_app (goodIn_of _ (by decide +kernel)) ggL_law_X4_sign
set_option maxRecDepth 20000 in
theorem ggL_law_L_pass : GoodIn wsL_law wsL_pass := goodIn_ca (goodIn_ca (goodIn_r _ [399, 66, 67, 400, 401, 402, 2, 403, 72, 73, 74, 75, 23, 81, 82, 83, 404, 405, 406, 407, 22, 408, 409, 157, 158, 159, 20, 160, 161, 246, 247, 248, 249, 250, 251, 252, 253, 254, 255, 256, 257, 258, 259, 260, 261, 28, 410, 411, 412, 377, 413, 384, 414, 385, 415, 416, 417, 418, 419, 383, 420, 421, 422, 423, 424, 425, 426, 427, 428, 386, 429, 430, 431, 432, 433, 434, 546, 547, 548, 549, 550, 551, 587, 588, 589, 590, 574, 575, 576, 582, 583, 584, 585, 586, 577, 578, 579, 580, 581] (by decide +kernel) (by decide +kernel)) (goodIn_sub (fun _ h => List.mem_append_left _ (List.mem_append_left _ (List.mem_append_right _ h))) (by decide +kernel))) (goodIn_sub (fun _ h => List.mem_append_left _ (List.mem_append_right _ h)) (by decide +kernel))
set_option maxRecDepth 20000 in
theorem gL_law_L_pass : GoodIn wsL_law (va_wsS RL 123 yL_pass wsL_pass) := goodIn_app (goodIn_of _ (by decide +kernel)) ggL_law_L_pass
set_option maxRecDepth 20000 in
theorem ggL_law_X4_pass : GoodIn wsL_law wsX4_pass := goodIn_r _ [438, 396, 108, 112, 113, 5, 114, 439, 440, 441, 442, 395, 61, 60, 59, 443, 444, 445, 446, 55, 56, 552, 553, 554, 555, 556, 557, 558, 559, 560, 561, 562, 563, 564, 565, 566, 567, 568, 569, 570, 571, 572, 573] (by decide +kernel) (by decide +kernel)
set_option maxRecDepth 20000 in
theorem gL_law_X4_pass : GoodIn wsL_law (wsV RL 125 RX4 yX4_pass wsX4_pass) := goodIn_app (goodIn_of _ (by decide +kernel)) ggL_law_X4_pass
set_option maxRecDepth 20000 in
theorem ggL_law_X3_duties : GoodIn wsL_law wsX3_duties := goodIn_r _ [450, 22, 157, 158, 159, 20, 160, 161, 546, 547, 548, 549, 550, 551, 574, 575, 576] (by decide +kernel) (by decide +kernel)
set_option maxRecDepth 20000 in
theorem gL_law_X3_duties : GoodIn wsL_law (wsV RL 126 RX3 yX3_duties wsX3_duties) := goodIn_app (goodIn_of _ (by decide +kernel)) ggL_law_X3_duties
set_option maxRecDepth 20000 in
theorem ggL_law_X4_duties : GoodIn wsL_law wsX4_duties := goodIn_r _ [454, 108, 395, 552, 553, 554, 555, 556, 557, 558, 559, 560, 561, 562, 563, 564, 565, 566, 567, 568, 569, 570, 571, 572, 573] (by decide +kernel) (by decide +kernel)
set_option maxRecDepth 20000 in
theorem gL_law_X4_duties : GoodIn wsL_law (wsV RL 129 RX4 yX4_duties wsX4_duties) := goodIn_app (goodIn_of _ (by decide +kernel)) ggL_law_X4_duties
set_option maxRecDepth 20000 in
theorem ggL_law_L_state : GoodIn wsL_law wsL_state := goodIn_ca (goodIn_r _ [457, 232, 458, 459, 460, 2, 461, 424, 462, 463, 464, 465, 243, 244, 22, 408, 157, 158, 159, 20, 160, 161, 81, 82, 83, 246, 247, 248, 249, 250, 251, 252, 253, 254, 255, 256, 257, 258, 259, 260, 261, 28, 587, 588, 589, 590, 546, 547, 548, 549, 550, 551, 574, 575, 576] (by decide +kernel) (by decide +kernel)) (goodIn_sub (fun _ h => List.mem_append_right _ h) (by decide +kernel))
set_option maxRecDepth 20000 in
theorem gL_law_L_state : GoodIn wsL_law (va_wsS RL 130 yL_state wsL_state) := goodIn_app (goodIn_of _ (by decide +kernel)) ggL_law_L_state
set_option maxRecDepth 20000 in
theorem ggL_law_X4_state : GoodIn wsL_law wsX4_state := goodIn_r _ [469, 108, 59, 470, 471, 472, 5, 473, 395, 112, 113, 114, 552, 553, 554, 555, 556, 557, 558, 559, 560, 561, 562, 563, 564, 565, 566, 567, 568, 569, 570, 571, 572, 573] (by decide +kernel) (by decide +kernel)
set_option maxRecDepth 20000 in
theorem gL_law_X4_state : GoodIn wsL_law (wsV RL 132 RX4 yX4_state wsX4_state) := goodIn_app (goodIn_of _ (by decide +kernel)) ggL_law_X4_state
set_option maxRecDepth 20000 in
theorem ggL_law_L_day : GoodIn wsL_law wsL_day := goodIn_ca (goodIn_r _ [476, 232, 477, 478, 479, 2, 480, 409, 462, 463, 464, 465, 243, 244, 22, 408, 157, 158, 159, 20, 160, 161, 81, 82, 83, 246, 247, 248, 249, 250, 251, 252, 253, 254, 255, 256, 257, 258, 259, 260, 261, 28, 587, 588, 589, 590, 546, 547, 548, 549, 550, 551, 574, 575, 576] (by decide +kernel) (by decide +kernel)) (goodIn_sub (fun _ h => List.mem_append_right _ h) (by decide +kernel))
set_option maxRecDepth 20000 in
theorem gL_law_L_day : GoodIn wsL_law (va_wsS RL 133 yL_day wsL_day) := goodIn_app (goodIn_of _ (by decide +kernel)) ggL_law_L_day
set_option maxRecDepth 20000 in
theorem ggL_law_X4_day : GoodIn wsL_law wsX4_day := goodIn_r _ [484, 108, 60, 470, 471, 472, 5, 473, 395, 112, 113, 114, 552, 553, 554, 555, 556, 557, 558, 559, 560, 561, 562, 563, 564, 565, 566, 567, 568, 569, 570, 571, 572, 573] (by decide +kernel) (by decide +kernel)
set_option maxRecDepth 20000 in
theorem gL_law_X4_day : GoodIn wsL_law (wsV RL 135 RX4 yX4_day wsX4_day) := goodIn_app (goodIn_of _ (by decide +kernel)) ggL_law_X4_day
set_option maxRecDepth 20000 in
theorem ggL_law_L_isSuspended : GoodIn wsL_law wsL_isSuspended := goodIn_ca (goodIn_r _ [487, 232, 488, 489, 490, 2, 491, 462, 463, 464, 465, 243, 244, 22, 408, 157, 158, 159, 20, 160, 161, 81, 82, 83, 246, 247, 248, 249, 250, 251, 252, 253, 254, 255, 256, 257, 258, 259, 260, 261, 28, 410, 411, 412, 377, 413, 384, 414, 385, 415, 416, 417, 418, 419, 383, 546, 547, 548, 549, 550, 551, 574, 575, 576, 587, 588, 589, 590, 582, 583, 584, 585, 586, 577, 578, 579, 580, 581] (by decide +kernel) (by decide +kernel)) (goodIn_sub (fun _ h => List.mem_append_right _ h) (by decide +kernel))
set_option maxRecDepth 20000 in
theorem gL_law_L_isSuspended : GoodIn wsL_law (va_wsS RL 136 yL_isSuspended wsL_isSuspended) := goodIn_app (goodIn_of _ (by decide +kernel)) ggL_law_L_isSuspended
set_option maxRecDepth 20000 in
theorem ggL_law_X4_isSuspended : GoodIn wsL_law wsX4_isSuspended := goodIn_r _ [495, 108, 470, 471, 472, 5, 473, 395, 112, 113, 114, 443, 444, 445, 446, 55, 56, 59, 552, 553, 554, 555, 556, 557, 558, 559, 560, 561, 562, 563, 564, 565, 566, 567, 568, 569, 570, 571, 572, 573] (by decide +kernel) (by decide +kernel)
set_option maxRecDepth 20000 in
theorem gL_law_X4_isSuspended : GoodIn wsL_law (wsV RL 138 RX4 yX4_isSuspended wsX4_isSuspended) := goodIn_app (goodIn_of _ (by decide +kernel)) ggL_law_X4_isSuspended
set_option maxRecDepth 20000 in
theorem ggL_law_L_perform : GoodIn wsL_law wsL_perform := goodIn_ca (goodIn_ca (goodIn_r _ [498, 232, 67, 499, 500, 501, 2, 502, 74, 75, 424, 23, 409, 462, 463, 464, 465, 243, 244, 22, 408, 157, 158, 159, 20, 160, 161, 81, 82, 83, 246, 247, 248, 249, 250, 251, 252, 253, 254, 255, 256, 257, 258, 259, 260, 261, 28, 503, 417, 418, 377, 419, 383, 425, 426, 427, 428, 386, 587, 588, 589, 590, 546, 547, 548, 549, 550, 551, 574, 575, 576] (by decide +kernel) (by decide +kernel)) (goodIn_sub (fun _ h => List.mem_append_left _ (List.mem_append_right _ h)) (by decide +kernel))) (goodIn_sub (fun _ h => List.mem_append_right _ h) (by decide +kernel))
set_option maxRecDepth 20000 in
theorem gL_law_L_perform : GoodIn wsL_law (va_wsS RL 139 yL_perform wsL_perform) := goodIn_app (goodIn_of _ (by decide +kernel)) ggL_law_L_perform
set_option maxRecDepth 20000 in
theorem ggL_law_X4_perform : GoodIn wsL_law wsX4_perform := goodIn_r _ [507, 59, 108, 396, 60, 470, 471, 472, 5, 473, 395, 112, 113, 114, 552, 553, 554, 555, 556, 557, 558, 559, 560, 561, 562, 563, 564, 565, 566, 567, 568, 569, 570, 571, 572, 573] (by decide +kernel) (by decide +kernel)
set_option maxRecDepth 20000 in
theorem gL_law_X4_perform : GoodIn wsL_law (wsV RL 141 RX4 yX4_perform wsX4_perform) := goodIn_app (goodIn_of _ (by decide +kernel)) ggL_law_X4_perform
set_option maxRecDepth 20000 in
theorem ggL_law_L_notice : GoodIn wsL_law wsL_notice := goodIn_ca (goodIn_ca (goodIn_r _ [510, 232, 67, 511, 512, 513, 2, 514, 74, 75, 424, 23, 409, 515, 516, 462, 463, 464, 465, 243, 244, 22, 408, 157, 158, 159, 20, 160, 161, 81, 82, 83, 246, 247, 248, 249, 250, 251, 252, 253, 254, 255, 256, 257, 258, 259, 260, 261, 28, 425, 426, 427, 377, 428, 383, 386, 587, 588, 589, 590, 546, 547, 548, 549, 550, 551, 577, 578, 579, 580, 581, 574, 575, 576] (by decide +kernel) (by decide +kernel)) (goodIn_sub (fun _ h => List.mem_append_left _ (List.mem_append_right _ h)) (by decide +kernel))) (goodIn_sub (fun _ h => List.mem_append_right _ h) (by decide +kernel))
set_option maxRecDepth 20000 in
theorem gL_law_L_notice : GoodIn wsL_law (va_wsS RL 142 yL_notice wsL_notice) := goodIn_app (goodIn_of _ (by decide +kernel)) ggL_law_L_notice
set_option maxRecDepth 20000 in
theorem ggL_law_X4_notice : GoodIn wsL_law wsX4_notice := goodIn_r _ [520, 59, 396, 60, 108, 57, 470, 471, 472, 5, 473, 395, 112, 113, 114, 552, 553, 554, 555, 556, 557, 558, 559, 560, 561, 562, 563, 564, 565, 566, 567, 568, 569, 570, 571, 572, 573] (by decide +kernel) (by decide +kernel)
set_option maxRecDepth 20000 in
theorem gL_law_X4_notice : GoodIn wsL_law (wsV RL 144 RX4 yX4_notice wsX4_notice) := goodIn_app (goodIn_of _ (by decide +kernel)) ggL_law_X4_notice
set_option maxRecDepth 20000 in
theorem ggL_law_L_settle : GoodIn wsL_law wsL_settle := goodIn_ca (goodIn_ca (goodIn_r _ [523, 232, 67, 524, 525, 526, 2, 527, 74, 75, 424, 23, 515, 528, 462, 463, 464, 465, 243, 244, 22, 408, 157, 158, 159, 20, 160, 161, 81, 82, 83, 246, 247, 248, 249, 250, 251, 252, 253, 254, 255, 256, 257, 258, 259, 260, 261, 28, 425, 426, 427, 377, 428, 383, 386, 429, 430, 431, 432, 384, 414, 385, 415, 433, 434, 587, 588, 589, 590, 546, 547, 548, 549, 550, 551, 577, 578, 579, 580, 581, 574, 575, 576, 582, 583, 584, 585, 586] (by decide +kernel) (by decide +kernel)) (goodIn_sub (fun _ h => List.mem_append_left _ (List.mem_append_right _ h)) (by decide +kernel))) (goodIn_sub (fun _ h => List.mem_append_right _ h) (by decide +kernel))
set_option maxRecDepth 20000 in
theorem gL_law_L_settle : GoodIn wsL_law (va_wsS RL 145 yL_settle wsL_settle) := goodIn_app (goodIn_of _ (by decide +kernel)) ggL_law_L_settle
set_option maxRecDepth 20000 in
theorem ggL_law_X4_settle : GoodIn wsL_law wsX4_settle := goodIn_r _ [532, 59, 108, 60, 396, 58, 470, 471, 472, 5, 473, 395, 112, 113, 114, 552, 553, 554, 555, 556, 557, 558, 559, 560, 561, 562, 563, 564, 565, 566, 567, 568, 569, 570, 571, 572, 573] (by decide +kernel) (by decide +kernel)
set_option maxRecDepth 20000 in
theorem gL_law_X4_settle : GoodIn wsL_law (wsV RL 147 RX4 yX4_settle wsX4_settle) := goodIn_app (goodIn_of _ (by decide +kernel)) ggL_law_X4_settle
set_option maxRecDepth 20000 in
theorem ggL_law_L_owes : GoodIn wsL_law wsL_owes := goodIn_ca (goodIn_ca (goodIn_r _ [535, 232, 66, 536, 537, 538, 2, 539, 540, 541, 191, 192, 193, 239, 240, 241, 242, 243, 244, 21, 245, 157, 158, 159, 20, 160, 161, 81, 82, 83, 246, 247, 248, 249, 250, 251, 252, 253, 254, 255, 256, 257, 258, 259, 260, 261, 28, 84, 85, 86, 72, 73, 582, 583, 584, 585, 586, 546, 547, 548, 549, 550, 551, 574, 575, 576] (by decide +kernel) (by decide +kernel)) (goodIn_sub (fun _ h => List.mem_append_right _ h) (by decide +kernel))) (goodIn_sub (fun _ h => List.mem_append_left _ (List.mem_append_left _ (List.mem_append_right _ h))) (by decide +kernel))
set_option maxRecDepth 20000 in
theorem gL_law_L_owes : GoodIn wsL_law (va_wsS RL 148 yL_owes wsL_owes) := goodIn_app (goodIn_of _ (by decide +kernel)) ggL_law_L_owes
set_option maxRecDepth 20000 in
theorem ggL_law_X4_owes : GoodIn wsL_law wsX4_owes := goodIn_r _ [545, 108, 395, 55, 59, 56, 58, 285, 286, 287, 5, 288, 228, 112, 113, 114, 115, 116, 117, 552, 553, 554, 555, 556, 557, 558, 559, 560, 561, 562, 563, 564, 565, 566, 567, 568, 569, 570, 571, 572, 573] (by decide +kernel) (by decide +kernel)
set_option maxRecDepth 20000 in
theorem gL_law_X4_owes : GoodIn wsL_law (wsV RL 150 RX4 yX4_owes wsX4_owes) := goodIn_app (goodIn_of _ (by decide +kernel)) ggL_law_X4_owes
theorem dL_law_0 : decode cL_law 0 = .ok (.new 8, 3) := by decide +kernel
theorem dL_law_3 : decode cL_law 3 = .ok (.dup, 1) := by decide +kernel
theorem dL_law_4 : decode cL_law 4 = .ok (.invokespecial 77, 3) := by decide +kernel
theorem dL_law_7 : decode cL_law 7 = .ok (.astore_n 1, 1) := by decide +kernel
theorem dL_law_8 : decode cL_law 8 = .ok (.new 78, 3) := by decide +kernel
theorem dL_law_11 : decode cL_law 11 = .ok (.dup, 1) := by decide +kernel
theorem dL_law_12 : decode cL_law 12 = .ok (.invokespecial 80, 3) := by decide +kernel
theorem dL_law_15 : decode cL_law 15 = .ok (.astore_n 2, 1) := by decide +kernel
theorem dL_law_16 : decode cL_law 16 = .ok (.iconst 1, 1) := by decide +kernel
theorem dL_law_17 : decode cL_law 17 = .ok (.newarray .long, 2) := by decide +kernel
theorem dL_law_19 : decode cL_law 19 = .ok (.astore_n 3, 1) := by decide +kernel
theorem dL_law_20 : decode cL_law 20 = .ok (.iconst 0, 1) := by decide +kernel
theorem dL_law_21 : decode cL_law 21 = .ok (.istore 4, 2) := by decide +kernel
theorem dL_law_23 : decode cL_law 23 = .ok (.iload 4, 2) := by decide +kernel
theorem dL_law_25 : decode cL_law 25 = .ok (.aload_n 0, 1) := by decide +kernel
theorem dL_law_26 : decode cL_law 26 = .ok (.arraylength, 1) := by decide +kernel
theorem dL_law_27 : decode cL_law 27 = .ok (.bipush 6, 2) := by decide +kernel
theorem dL_law_29 : decode cL_law 29 = .ok (.isub, 1) := by decide +kernel
theorem dL_law_30 : decode cL_law 30 = .ok (.if_icmp .gt 1279, 3) := by decide +kernel
theorem dL_law_33 : decode cL_law 33 = .ok (.aload_n 0, 1) := by decide +kernel
theorem dL_law_34 : decode cL_law 34 = .ok (.iload 4, 2) := by decide +kernel
theorem dL_law_36 : decode cL_law 36 = .ok (.iaload, 1) := by decide +kernel
theorem dL_law_37 : decode cL_law 37 = .ok (.bipush 31, 2) := by decide +kernel
theorem dL_law_39 : decode cL_law 39 = .ok (.iand, 1) := by decide +kernel
theorem dL_law_40 : decode cL_law 40 = .ok (.tableswitch 1263 0 18 #[92, 196, 256, 312, 356, 448, 528, 596, 652, 708, 776, 832, 845, 901, 957, 1020, 1083, 1139, 1195], 92) := by decide +kernel
theorem dL_law_132 : decode cL_law 132 = .ok (.aload_n 1, 1) := by decide +kernel
theorem dL_law_133 : decode cL_law 133 = .ok (.aload_n 0, 1) := by decide +kernel
theorem dL_law_134 : decode cL_law 134 = .ok (.iload 4, 2) := by decide +kernel
theorem dL_law_136 : decode cL_law 136 = .ok (.iconst 1, 1) := by decide +kernel
theorem dL_law_137 : decode cL_law 137 = .ok (.iadd, 1) := by decide +kernel
theorem dL_law_138 : decode cL_law 138 = .ok (.iaload, 1) := by decide +kernel
theorem dL_law_139 : decode cL_law 139 = .ok (.aload_n 0, 1) := by decide +kernel
theorem dL_law_140 : decode cL_law 140 = .ok (.iload 4, 2) := by decide +kernel
theorem dL_law_142 : decode cL_law 142 = .ok (.iconst 2, 1) := by decide +kernel
theorem dL_law_143 : decode cL_law 143 = .ok (.iadd, 1) := by decide +kernel
theorem dL_law_144 : decode cL_law 144 = .ok (.iaload, 1) := by decide +kernel
theorem dL_law_145 : decode cL_law 145 = .ok (.aload_n 0, 1) := by decide +kernel
theorem dL_law_146 : decode cL_law 146 = .ok (.iload 4, 2) := by decide +kernel
theorem dL_law_148 : decode cL_law 148 = .ok (.iconst 3, 1) := by decide +kernel
theorem dL_law_149 : decode cL_law 149 = .ok (.iadd, 1) := by decide +kernel
theorem dL_law_150 : decode cL_law 150 = .ok (.iaload, 1) := by decide +kernel
theorem dL_law_151 : decode cL_law 151 = .ok (.aload_n 0, 1) := by decide +kernel
theorem dL_law_152 : decode cL_law 152 = .ok (.iload 4, 2) := by decide +kernel
theorem dL_law_154 : decode cL_law 154 = .ok (.iconst 4, 1) := by decide +kernel
theorem dL_law_155 : decode cL_law 155 = .ok (.iadd, 1) := by decide +kernel
theorem dL_law_156 : decode cL_law 156 = .ok (.iaload, 1) := by decide +kernel
theorem dL_law_157 : decode cL_law 157 = .ok (.aload_n 0, 1) := by decide +kernel
theorem dL_law_158 : decode cL_law 158 = .ok (.iload 4, 2) := by decide +kernel
theorem dL_law_160 : decode cL_law 160 = .ok (.iconst 5, 1) := by decide +kernel
theorem dL_law_161 : decode cL_law 161 = .ok (.iadd, 1) := by decide +kernel
theorem dL_law_162 : decode cL_law 162 = .ok (.iaload, 1) := by decide +kernel
theorem dL_law_163 : decode cL_law 163 = .ok (.aload_n 3, 1) := by decide +kernel
theorem dL_law_164 : decode cL_law 164 = .ok (.invokestatic 81, 3) := by decide +kernel
theorem dL_law_167 : decode cL_law 167 = .ok (.istore 5, 2) := by decide +kernel
theorem dL_law_169 : decode cL_law 169 = .ok (.aload_n 2, 1) := by decide +kernel
theorem dL_law_170 : decode cL_law 170 = .ok (.aload_n 0, 1) := by decide +kernel
theorem dL_law_171 : decode cL_law 171 = .ok (.iload 4, 2) := by decide +kernel
theorem dL_law_173 : decode cL_law 173 = .ok (.iconst 1, 1) := by decide +kernel
theorem dL_law_174 : decode cL_law 174 = .ok (.iadd, 1) := by decide +kernel
theorem dL_law_175 : decode cL_law 175 = .ok (.iaload, 1) := by decide +kernel
theorem dL_law_176 : decode cL_law 176 = .ok (.aload_n 0, 1) := by decide +kernel
theorem dL_law_177 : decode cL_law 177 = .ok (.iload 4, 2) := by decide +kernel
theorem dL_law_179 : decode cL_law 179 = .ok (.iconst 2, 1) := by decide +kernel
theorem dL_law_180 : decode cL_law 180 = .ok (.iadd, 1) := by decide +kernel
theorem dL_law_181 : decode cL_law 181 = .ok (.iaload, 1) := by decide +kernel
theorem dL_law_182 : decode cL_law 182 = .ok (.aload_n 0, 1) := by decide +kernel
theorem dL_law_183 : decode cL_law 183 = .ok (.iload 4, 2) := by decide +kernel
theorem dL_law_185 : decode cL_law 185 = .ok (.iconst 3, 1) := by decide +kernel
theorem dL_law_186 : decode cL_law 186 = .ok (.iadd, 1) := by decide +kernel
theorem dL_law_187 : decode cL_law 187 = .ok (.iaload, 1) := by decide +kernel
theorem dL_law_188 : decode cL_law 188 = .ok (.aload_n 0, 1) := by decide +kernel
theorem dL_law_189 : decode cL_law 189 = .ok (.iload 4, 2) := by decide +kernel
theorem dL_law_191 : decode cL_law 191 = .ok (.iconst 4, 1) := by decide +kernel
theorem dL_law_192 : decode cL_law 192 = .ok (.iadd, 1) := by decide +kernel
theorem dL_law_193 : decode cL_law 193 = .ok (.iaload, 1) := by decide +kernel
theorem dL_law_194 : decode cL_law 194 = .ok (.aload_n 0, 1) := by decide +kernel
theorem dL_law_195 : decode cL_law 195 = .ok (.iload 4, 2) := by decide +kernel
theorem dL_law_197 : decode cL_law 197 = .ok (.iconst 5, 1) := by decide +kernel
theorem dL_law_198 : decode cL_law 198 = .ok (.iadd, 1) := by decide +kernel
theorem dL_law_199 : decode cL_law 199 = .ok (.iaload, 1) := by decide +kernel
theorem dL_law_200 : decode cL_law 200 = .ok (.invokevirtual 86, 3) := by decide +kernel
theorem dL_law_203 : decode cL_law 203 = .ok (.istore 6, 2) := by decide +kernel
theorem dL_law_205 : decode cL_law 205 = .ok (.aload_n 2, 1) := by decide +kernel
theorem dL_law_206 : decode cL_law 206 = .ok (.invokevirtual 87, 3) := by decide +kernel
theorem dL_law_209 : decode cL_law 209 = .ok (.iload 5, 2) := by decide +kernel
theorem dL_law_211 : decode cL_law 211 = .ok (.if_icmp .eq 5, 3) := by decide +kernel
theorem dL_law_214 : decode cL_law 214 = .ok (.iconst 0, 1) := by decide +kernel
theorem dL_law_215 : decode cL_law 215 = .ok (.ireturn, 1) := by decide +kernel
theorem dL_law_216 : decode cL_law 216 = .ok (.iload 5, 2) := by decide +kernel
theorem dL_law_218 : decode cL_law 218 = .ok (.ifCond .ne 15, 3) := by decide +kernel
theorem dL_law_221 : decode cL_law 221 = .ok (.aload_n 3, 1) := by decide +kernel
theorem dL_law_222 : decode cL_law 222 = .ok (.iconst 0, 1) := by decide +kernel
theorem dL_law_223 : decode cL_law 223 = .ok (.laload, 1) := by decide +kernel
theorem dL_law_224 : decode cL_law 224 = .ok (.iload 6, 2) := by decide +kernel
theorem dL_law_226 : decode cL_law 226 = .ok (.i2l, 1) := by decide +kernel
theorem dL_law_227 : decode cL_law 227 = .ok (.lcmp, 1) := by decide +kernel
theorem dL_law_228 : decode cL_law 228 = .ok (.ifCond .eq 5, 3) := by decide +kernel
theorem dL_law_231 : decode cL_law 231 = .ok (.iconst 0, 1) := by decide +kernel
theorem dL_law_232 : decode cL_law 232 = .ok (.ireturn, 1) := by decide +kernel
theorem dL_law_233 : decode cL_law 233 = .ok (.goto 1070, 3) := by decide +kernel
theorem dL_law_236 : decode cL_law 236 = .ok (.aload_n 1, 1) := by decide +kernel
theorem dL_law_237 : decode cL_law 237 = .ok (.aload_n 0, 1) := by decide +kernel
theorem dL_law_238 : decode cL_law 238 = .ok (.iload 4, 2) := by decide +kernel
theorem dL_law_240 : decode cL_law 240 = .ok (.iconst 1, 1) := by decide +kernel
theorem dL_law_241 : decode cL_law 241 = .ok (.iadd, 1) := by decide +kernel
theorem dL_law_242 : decode cL_law 242 = .ok (.iaload, 1) := by decide +kernel
theorem dL_law_243 : decode cL_law 243 = .ok (.aload_n 0, 1) := by decide +kernel
theorem dL_law_244 : decode cL_law 244 = .ok (.iload 4, 2) := by decide +kernel
theorem dL_law_246 : decode cL_law 246 = .ok (.iconst 2, 1) := by decide +kernel
theorem dL_law_247 : decode cL_law 247 = .ok (.iadd, 1) := by decide +kernel
theorem dL_law_248 : decode cL_law 248 = .ok (.iaload, 1) := by decide +kernel
theorem dL_law_249 : decode cL_law 249 = .ok (.aload_n 0, 1) := by decide +kernel
theorem dL_law_250 : decode cL_law 250 = .ok (.iload 4, 2) := by decide +kernel
theorem dL_law_252 : decode cL_law 252 = .ok (.iconst 3, 1) := by decide +kernel
theorem dL_law_253 : decode cL_law 253 = .ok (.iadd, 1) := by decide +kernel
theorem dL_law_254 : decode cL_law 254 = .ok (.iaload, 1) := by decide +kernel
theorem dL_law_255 : decode cL_law 255 = .ok (.invokestatic 90, 3) := by decide +kernel
theorem dL_law_258 : decode cL_law 258 = .ok (.istore 5, 2) := by decide +kernel
theorem dL_law_260 : decode cL_law 260 = .ok (.aload_n 2, 1) := by decide +kernel
theorem dL_law_261 : decode cL_law 261 = .ok (.aload_n 0, 1) := by decide +kernel
theorem dL_law_262 : decode cL_law 262 = .ok (.iload 4, 2) := by decide +kernel
theorem dL_law_264 : decode cL_law 264 = .ok (.iconst 1, 1) := by decide +kernel
theorem dL_law_265 : decode cL_law 265 = .ok (.iadd, 1) := by decide +kernel
theorem dL_law_266 : decode cL_law 266 = .ok (.iaload, 1) := by decide +kernel
theorem dL_law_267 : decode cL_law 267 = .ok (.aload_n 0, 1) := by decide +kernel
theorem dL_law_268 : decode cL_law 268 = .ok (.iload 4, 2) := by decide +kernel
theorem dL_law_270 : decode cL_law 270 = .ok (.iconst 2, 1) := by decide +kernel
theorem dL_law_271 : decode cL_law 271 = .ok (.iadd, 1) := by decide +kernel
theorem dL_law_272 : decode cL_law 272 = .ok (.iaload, 1) := by decide +kernel
theorem dL_law_273 : decode cL_law 273 = .ok (.aload_n 0, 1) := by decide +kernel
theorem dL_law_274 : decode cL_law 274 = .ok (.iload 4, 2) := by decide +kernel
theorem dL_law_276 : decode cL_law 276 = .ok (.iconst 3, 1) := by decide +kernel
theorem dL_law_277 : decode cL_law 277 = .ok (.iadd, 1) := by decide +kernel
theorem dL_law_278 : decode cL_law 278 = .ok (.iaload, 1) := by decide +kernel
theorem dL_law_279 : decode cL_law 279 = .ok (.invokevirtual 93, 3) := by decide +kernel
theorem dL_law_282 : decode cL_law 282 = .ok (.aload_n 2, 1) := by decide +kernel
theorem dL_law_283 : decode cL_law 283 = .ok (.invokevirtual 87, 3) := by decide +kernel
theorem dL_law_286 : decode cL_law 286 = .ok (.iload 5, 2) := by decide +kernel
theorem dL_law_288 : decode cL_law 288 = .ok (.if_icmp .eq 5, 3) := by decide +kernel
theorem dL_law_291 : decode cL_law 291 = .ok (.iconst 0, 1) := by decide +kernel
theorem dL_law_292 : decode cL_law 292 = .ok (.ireturn, 1) := by decide +kernel
theorem dL_law_293 : decode cL_law 293 = .ok (.goto 1010, 3) := by decide +kernel
theorem dL_law_296 : decode cL_law 296 = .ok (.aload_n 1, 1) := by decide +kernel
theorem dL_law_297 : decode cL_law 297 = .ok (.aload_n 0, 1) := by decide +kernel
theorem dL_law_298 : decode cL_law 298 = .ok (.iload 4, 2) := by decide +kernel
theorem dL_law_300 : decode cL_law 300 = .ok (.iconst 1, 1) := by decide +kernel
theorem dL_law_301 : decode cL_law 301 = .ok (.iadd, 1) := by decide +kernel
theorem dL_law_302 : decode cL_law 302 = .ok (.iaload, 1) := by decide +kernel
theorem dL_law_303 : decode cL_law 303 = .ok (.aload_n 3, 1) := by decide +kernel
theorem dL_law_304 : decode cL_law 304 = .ok (.invokestatic 94, 3) := by decide +kernel
theorem dL_law_307 : decode cL_law 307 = .ok (.istore 5, 2) := by decide +kernel
theorem dL_law_309 : decode cL_law 309 = .ok (.aload_n 2, 1) := by decide +kernel
theorem dL_law_310 : decode cL_law 310 = .ok (.aload_n 0, 1) := by decide +kernel
theorem dL_law_311 : decode cL_law 311 = .ok (.iload 4, 2) := by decide +kernel
theorem dL_law_313 : decode cL_law 313 = .ok (.iconst 1, 1) := by decide +kernel
theorem dL_law_314 : decode cL_law 314 = .ok (.iadd, 1) := by decide +kernel
theorem dL_law_315 : decode cL_law 315 = .ok (.iaload, 1) := by decide +kernel
theorem dL_law_316 : decode cL_law 316 = .ok (.invokevirtual 97, 3) := by decide +kernel
theorem dL_law_319 : decode cL_law 319 = .ok (.istore 6, 2) := by decide +kernel
theorem dL_law_321 : decode cL_law 321 = .ok (.aload_n 2, 1) := by decide +kernel
theorem dL_law_322 : decode cL_law 322 = .ok (.invokevirtual 87, 3) := by decide +kernel
theorem dL_law_325 : decode cL_law 325 = .ok (.iload 5, 2) := by decide +kernel
theorem dL_law_327 : decode cL_law 327 = .ok (.if_icmp .eq 5, 3) := by decide +kernel
theorem dL_law_330 : decode cL_law 330 = .ok (.iconst 0, 1) := by decide +kernel
theorem dL_law_331 : decode cL_law 331 = .ok (.ireturn, 1) := by decide +kernel
theorem dL_law_332 : decode cL_law 332 = .ok (.iload 5, 2) := by decide +kernel
theorem dL_law_334 : decode cL_law 334 = .ok (.ifCond .ne 15, 3) := by decide +kernel
theorem dL_law_337 : decode cL_law 337 = .ok (.aload_n 3, 1) := by decide +kernel
theorem dL_law_338 : decode cL_law 338 = .ok (.iconst 0, 1) := by decide +kernel
theorem dL_law_339 : decode cL_law 339 = .ok (.laload, 1) := by decide +kernel
theorem dL_law_340 : decode cL_law 340 = .ok (.iload 6, 2) := by decide +kernel
theorem dL_law_342 : decode cL_law 342 = .ok (.i2l, 1) := by decide +kernel
theorem dL_law_343 : decode cL_law 343 = .ok (.lcmp, 1) := by decide +kernel
theorem dL_law_344 : decode cL_law 344 = .ok (.ifCond .eq 5, 3) := by decide +kernel
theorem dL_law_347 : decode cL_law 347 = .ok (.iconst 0, 1) := by decide +kernel
theorem dL_law_348 : decode cL_law 348 = .ok (.ireturn, 1) := by decide +kernel
theorem dL_law_349 : decode cL_law 349 = .ok (.goto 954, 3) := by decide +kernel
theorem dL_law_352 : decode cL_law 352 = .ok (.aload_n 1, 1) := by decide +kernel
theorem dL_law_353 : decode cL_law 353 = .ok (.aload_n 3, 1) := by decide +kernel
theorem dL_law_354 : decode cL_law 354 = .ok (.invokestatic 98, 3) := by decide +kernel
theorem dL_law_357 : decode cL_law 357 = .ok (.istore 5, 2) := by decide +kernel
theorem dL_law_359 : decode cL_law 359 = .ok (.aload_n 2, 1) := by decide +kernel
theorem dL_law_360 : decode cL_law 360 = .ok (.invokevirtual 101, 3) := by decide +kernel
theorem dL_law_363 : decode cL_law 363 = .ok (.istore 6, 2) := by decide +kernel
theorem dL_law_365 : decode cL_law 365 = .ok (.aload_n 2, 1) := by decide +kernel
theorem dL_law_366 : decode cL_law 366 = .ok (.invokevirtual 87, 3) := by decide +kernel
theorem dL_law_369 : decode cL_law 369 = .ok (.iload 5, 2) := by decide +kernel
theorem dL_law_371 : decode cL_law 371 = .ok (.if_icmp .eq 5, 3) := by decide +kernel
theorem dL_law_374 : decode cL_law 374 = .ok (.iconst 0, 1) := by decide +kernel
theorem dL_law_375 : decode cL_law 375 = .ok (.ireturn, 1) := by decide +kernel
theorem dL_law_376 : decode cL_law 376 = .ok (.iload 5, 2) := by decide +kernel
theorem dL_law_378 : decode cL_law 378 = .ok (.ifCond .ne 15, 3) := by decide +kernel
theorem dL_law_381 : decode cL_law 381 = .ok (.aload_n 3, 1) := by decide +kernel
theorem dL_law_382 : decode cL_law 382 = .ok (.iconst 0, 1) := by decide +kernel
theorem dL_law_383 : decode cL_law 383 = .ok (.laload, 1) := by decide +kernel
theorem dL_law_384 : decode cL_law 384 = .ok (.iload 6, 2) := by decide +kernel
theorem dL_law_386 : decode cL_law 386 = .ok (.i2l, 1) := by decide +kernel
theorem dL_law_387 : decode cL_law 387 = .ok (.lcmp, 1) := by decide +kernel
theorem dL_law_388 : decode cL_law 388 = .ok (.ifCond .eq 5, 3) := by decide +kernel
theorem dL_law_391 : decode cL_law 391 = .ok (.iconst 0, 1) := by decide +kernel
theorem dL_law_392 : decode cL_law 392 = .ok (.ireturn, 1) := by decide +kernel
theorem dL_law_393 : decode cL_law 393 = .ok (.goto 910, 3) := by decide +kernel
theorem dL_law_396 : decode cL_law 396 = .ok (.aload_n 1, 1) := by decide +kernel
theorem dL_law_397 : decode cL_law 397 = .ok (.aload_n 0, 1) := by decide +kernel
theorem dL_law_398 : decode cL_law 398 = .ok (.iload 4, 2) := by decide +kernel
theorem dL_law_400 : decode cL_law 400 = .ok (.iconst 1, 1) := by decide +kernel
theorem dL_law_401 : decode cL_law 401 = .ok (.iadd, 1) := by decide +kernel
theorem dL_law_402 : decode cL_law 402 = .ok (.iaload, 1) := by decide +kernel
theorem dL_law_403 : decode cL_law 403 = .ok (.aload_n 0, 1) := by decide +kernel
theorem dL_law_404 : decode cL_law 404 = .ok (.iload 4, 2) := by decide +kernel
theorem dL_law_406 : decode cL_law 406 = .ok (.iconst 2, 1) := by decide +kernel
theorem dL_law_407 : decode cL_law 407 = .ok (.iadd, 1) := by decide +kernel
theorem dL_law_408 : decode cL_law 408 = .ok (.iaload, 1) := by decide +kernel
theorem dL_law_409 : decode cL_law 409 = .ok (.aload_n 0, 1) := by decide +kernel
theorem dL_law_410 : decode cL_law 410 = .ok (.iload 4, 2) := by decide +kernel
theorem dL_law_412 : decode cL_law 412 = .ok (.iconst 3, 1) := by decide +kernel
theorem dL_law_413 : decode cL_law 413 = .ok (.iadd, 1) := by decide +kernel
theorem dL_law_414 : decode cL_law 414 = .ok (.iaload, 1) := by decide +kernel
theorem dL_law_415 : decode cL_law 415 = .ok (.aload_n 0, 1) := by decide +kernel
theorem dL_law_416 : decode cL_law 416 = .ok (.iload 4, 2) := by decide +kernel
theorem dL_law_418 : decode cL_law 418 = .ok (.iconst 4, 1) := by decide +kernel
theorem dL_law_419 : decode cL_law 419 = .ok (.iadd, 1) := by decide +kernel
theorem dL_law_420 : decode cL_law 420 = .ok (.iaload, 1) := by decide +kernel
theorem dL_law_421 : decode cL_law 421 = .ok (.aload_n 3, 1) := by decide +kernel
theorem dL_law_422 : decode cL_law 422 = .ok (.invokestatic 102, 3) := by decide +kernel
theorem dL_law_425 : decode cL_law 425 = .ok (.istore 5, 2) := by decide +kernel
theorem dL_law_427 : decode cL_law 427 = .ok (.aload_n 2, 1) := by decide +kernel
theorem dL_law_428 : decode cL_law 428 = .ok (.aload_n 0, 1) := by decide +kernel
theorem dL_law_429 : decode cL_law 429 = .ok (.iload 4, 2) := by decide +kernel
theorem dL_law_431 : decode cL_law 431 = .ok (.iconst 1, 1) := by decide +kernel
theorem dL_law_432 : decode cL_law 432 = .ok (.iadd, 1) := by decide +kernel
theorem dL_law_433 : decode cL_law 433 = .ok (.iaload, 1) := by decide +kernel
theorem dL_law_434 : decode cL_law 434 = .ok (.aload_n 0, 1) := by decide +kernel
theorem dL_law_435 : decode cL_law 435 = .ok (.iload 4, 2) := by decide +kernel
theorem dL_law_437 : decode cL_law 437 = .ok (.iconst 2, 1) := by decide +kernel
theorem dL_law_438 : decode cL_law 438 = .ok (.iadd, 1) := by decide +kernel
theorem dL_law_439 : decode cL_law 439 = .ok (.iaload, 1) := by decide +kernel
theorem dL_law_440 : decode cL_law 440 = .ok (.aload_n 0, 1) := by decide +kernel
theorem dL_law_441 : decode cL_law 441 = .ok (.iload 4, 2) := by decide +kernel
theorem dL_law_443 : decode cL_law 443 = .ok (.iconst 3, 1) := by decide +kernel
theorem dL_law_444 : decode cL_law 444 = .ok (.iadd, 1) := by decide +kernel
theorem dL_law_445 : decode cL_law 445 = .ok (.iaload, 1) := by decide +kernel
theorem dL_law_446 : decode cL_law 446 = .ok (.aload_n 0, 1) := by decide +kernel
theorem dL_law_447 : decode cL_law 447 = .ok (.iload 4, 2) := by decide +kernel
theorem dL_law_449 : decode cL_law 449 = .ok (.iconst 4, 1) := by decide +kernel
theorem dL_law_450 : decode cL_law 450 = .ok (.iadd, 1) := by decide +kernel
theorem dL_law_451 : decode cL_law 451 = .ok (.iaload, 1) := by decide +kernel
theorem dL_law_452 : decode cL_law 452 = .ok (.invokevirtual 105, 3) := by decide +kernel
theorem dL_law_455 : decode cL_law 455 = .ok (.istore 6, 2) := by decide +kernel
theorem dL_law_457 : decode cL_law 457 = .ok (.aload_n 2, 1) := by decide +kernel
theorem dL_law_458 : decode cL_law 458 = .ok (.invokevirtual 87, 3) := by decide +kernel
theorem dL_law_461 : decode cL_law 461 = .ok (.iload 5, 2) := by decide +kernel
theorem dL_law_463 : decode cL_law 463 = .ok (.if_icmp .eq 5, 3) := by decide +kernel
theorem dL_law_466 : decode cL_law 466 = .ok (.iconst 0, 1) := by decide +kernel
theorem dL_law_467 : decode cL_law 467 = .ok (.ireturn, 1) := by decide +kernel
theorem dL_law_468 : decode cL_law 468 = .ok (.iload 5, 2) := by decide +kernel
theorem dL_law_470 : decode cL_law 470 = .ok (.ifCond .ne 15, 3) := by decide +kernel
theorem dL_law_473 : decode cL_law 473 = .ok (.aload_n 3, 1) := by decide +kernel
theorem dL_law_474 : decode cL_law 474 = .ok (.iconst 0, 1) := by decide +kernel
theorem dL_law_475 : decode cL_law 475 = .ok (.laload, 1) := by decide +kernel
theorem dL_law_476 : decode cL_law 476 = .ok (.iload 6, 2) := by decide +kernel
theorem dL_law_478 : decode cL_law 478 = .ok (.i2l, 1) := by decide +kernel
theorem dL_law_479 : decode cL_law 479 = .ok (.lcmp, 1) := by decide +kernel
theorem dL_law_480 : decode cL_law 480 = .ok (.ifCond .eq 5, 3) := by decide +kernel
theorem dL_law_483 : decode cL_law 483 = .ok (.iconst 0, 1) := by decide +kernel
theorem dL_law_484 : decode cL_law 484 = .ok (.ireturn, 1) := by decide +kernel
theorem dL_law_485 : decode cL_law 485 = .ok (.goto 818, 3) := by decide +kernel
theorem dL_law_488 : decode cL_law 488 = .ok (.aload_n 1, 1) := by decide +kernel
theorem dL_law_489 : decode cL_law 489 = .ok (.aload_n 0, 1) := by decide +kernel
theorem dL_law_490 : decode cL_law 490 = .ok (.iload 4, 2) := by decide +kernel
theorem dL_law_492 : decode cL_law 492 = .ok (.iconst 1, 1) := by decide +kernel
theorem dL_law_493 : decode cL_law 493 = .ok (.iadd, 1) := by decide +kernel
theorem dL_law_494 : decode cL_law 494 = .ok (.iaload, 1) := by decide +kernel
theorem dL_law_495 : decode cL_law 495 = .ok (.aload_n 0, 1) := by decide +kernel
theorem dL_law_496 : decode cL_law 496 = .ok (.iload 4, 2) := by decide +kernel
theorem dL_law_498 : decode cL_law 498 = .ok (.iconst 2, 1) := by decide +kernel
theorem dL_law_499 : decode cL_law 499 = .ok (.iadd, 1) := by decide +kernel
theorem dL_law_500 : decode cL_law 500 = .ok (.iaload, 1) := by decide +kernel
theorem dL_law_501 : decode cL_law 501 = .ok (.aload_n 0, 1) := by decide +kernel
theorem dL_law_502 : decode cL_law 502 = .ok (.iload 4, 2) := by decide +kernel
theorem dL_law_504 : decode cL_law 504 = .ok (.iconst 3, 1) := by decide +kernel
theorem dL_law_505 : decode cL_law 505 = .ok (.iadd, 1) := by decide +kernel
theorem dL_law_506 : decode cL_law 506 = .ok (.iaload, 1) := by decide +kernel
theorem dL_law_507 : decode cL_law 507 = .ok (.aload_n 3, 1) := by decide +kernel
theorem dL_law_508 : decode cL_law 508 = .ok (.invokestatic 106, 3) := by decide +kernel
theorem dL_law_511 : decode cL_law 511 = .ok (.istore 5, 2) := by decide +kernel
theorem dL_law_513 : decode cL_law 513 = .ok (.aload_n 2, 1) := by decide +kernel
theorem dL_law_514 : decode cL_law 514 = .ok (.aload_n 0, 1) := by decide +kernel
theorem dL_law_515 : decode cL_law 515 = .ok (.iload 4, 2) := by decide +kernel
theorem dL_law_517 : decode cL_law 517 = .ok (.iconst 1, 1) := by decide +kernel
theorem dL_law_518 : decode cL_law 518 = .ok (.iadd, 1) := by decide +kernel
theorem dL_law_519 : decode cL_law 519 = .ok (.iaload, 1) := by decide +kernel
theorem dL_law_520 : decode cL_law 520 = .ok (.aload_n 0, 1) := by decide +kernel
theorem dL_law_521 : decode cL_law 521 = .ok (.iload 4, 2) := by decide +kernel
theorem dL_law_523 : decode cL_law 523 = .ok (.iconst 2, 1) := by decide +kernel
theorem dL_law_524 : decode cL_law 524 = .ok (.iadd, 1) := by decide +kernel
theorem dL_law_525 : decode cL_law 525 = .ok (.iaload, 1) := by decide +kernel
theorem dL_law_526 : decode cL_law 526 = .ok (.aload_n 0, 1) := by decide +kernel
theorem dL_law_527 : decode cL_law 527 = .ok (.iload 4, 2) := by decide +kernel
theorem dL_law_529 : decode cL_law 529 = .ok (.iconst 3, 1) := by decide +kernel
theorem dL_law_530 : decode cL_law 530 = .ok (.iadd, 1) := by decide +kernel
theorem dL_law_531 : decode cL_law 531 = .ok (.iaload, 1) := by decide +kernel
theorem dL_law_532 : decode cL_law 532 = .ok (.invokevirtual 109, 3) := by decide +kernel
theorem dL_law_535 : decode cL_law 535 = .ok (.istore 6, 2) := by decide +kernel
theorem dL_law_537 : decode cL_law 537 = .ok (.aload_n 2, 1) := by decide +kernel
theorem dL_law_538 : decode cL_law 538 = .ok (.invokevirtual 87, 3) := by decide +kernel
theorem dL_law_541 : decode cL_law 541 = .ok (.iload 5, 2) := by decide +kernel
theorem dL_law_543 : decode cL_law 543 = .ok (.if_icmp .eq 5, 3) := by decide +kernel
theorem dL_law_546 : decode cL_law 546 = .ok (.iconst 0, 1) := by decide +kernel
theorem dL_law_547 : decode cL_law 547 = .ok (.ireturn, 1) := by decide +kernel
theorem dL_law_548 : decode cL_law 548 = .ok (.iload 5, 2) := by decide +kernel
theorem dL_law_550 : decode cL_law 550 = .ok (.ifCond .ne 15, 3) := by decide +kernel
theorem dL_law_553 : decode cL_law 553 = .ok (.aload_n 3, 1) := by decide +kernel
theorem dL_law_554 : decode cL_law 554 = .ok (.iconst 0, 1) := by decide +kernel
theorem dL_law_555 : decode cL_law 555 = .ok (.laload, 1) := by decide +kernel
theorem dL_law_556 : decode cL_law 556 = .ok (.iload 6, 2) := by decide +kernel
theorem dL_law_558 : decode cL_law 558 = .ok (.i2l, 1) := by decide +kernel
theorem dL_law_559 : decode cL_law 559 = .ok (.lcmp, 1) := by decide +kernel
theorem dL_law_560 : decode cL_law 560 = .ok (.ifCond .eq 5, 3) := by decide +kernel
theorem dL_law_563 : decode cL_law 563 = .ok (.iconst 0, 1) := by decide +kernel
theorem dL_law_564 : decode cL_law 564 = .ok (.ireturn, 1) := by decide +kernel
theorem dL_law_565 : decode cL_law 565 = .ok (.goto 738, 3) := by decide +kernel
theorem dL_law_568 : decode cL_law 568 = .ok (.aload_n 1, 1) := by decide +kernel
theorem dL_law_569 : decode cL_law 569 = .ok (.aload_n 0, 1) := by decide +kernel
theorem dL_law_570 : decode cL_law 570 = .ok (.iload 4, 2) := by decide +kernel
theorem dL_law_572 : decode cL_law 572 = .ok (.iconst 1, 1) := by decide +kernel
theorem dL_law_573 : decode cL_law 573 = .ok (.iadd, 1) := by decide +kernel
theorem dL_law_574 : decode cL_law 574 = .ok (.iaload, 1) := by decide +kernel
theorem dL_law_575 : decode cL_law 575 = .ok (.aload_n 0, 1) := by decide +kernel
theorem dL_law_576 : decode cL_law 576 = .ok (.iload 4, 2) := by decide +kernel
theorem dL_law_578 : decode cL_law 578 = .ok (.iconst 2, 1) := by decide +kernel
theorem dL_law_579 : decode cL_law 579 = .ok (.iadd, 1) := by decide +kernel
theorem dL_law_580 : decode cL_law 580 = .ok (.iaload, 1) := by decide +kernel
theorem dL_law_581 : decode cL_law 581 = .ok (.aload_n 3, 1) := by decide +kernel
theorem dL_law_582 : decode cL_law 582 = .ok (.invokestatic 110, 3) := by decide +kernel
theorem dL_law_585 : decode cL_law 585 = .ok (.istore 5, 2) := by decide +kernel
theorem dL_law_587 : decode cL_law 587 = .ok (.aload_n 2, 1) := by decide +kernel
theorem dL_law_588 : decode cL_law 588 = .ok (.aload_n 0, 1) := by decide +kernel
theorem dL_law_589 : decode cL_law 589 = .ok (.iload 4, 2) := by decide +kernel
theorem dL_law_591 : decode cL_law 591 = .ok (.iconst 1, 1) := by decide +kernel
theorem dL_law_592 : decode cL_law 592 = .ok (.iadd, 1) := by decide +kernel
theorem dL_law_593 : decode cL_law 593 = .ok (.iaload, 1) := by decide +kernel
theorem dL_law_594 : decode cL_law 594 = .ok (.aload_n 0, 1) := by decide +kernel
theorem dL_law_595 : decode cL_law 595 = .ok (.iload 4, 2) := by decide +kernel
theorem dL_law_597 : decode cL_law 597 = .ok (.iconst 2, 1) := by decide +kernel
theorem dL_law_598 : decode cL_law 598 = .ok (.iadd, 1) := by decide +kernel
theorem dL_law_599 : decode cL_law 599 = .ok (.iaload, 1) := by decide +kernel
theorem dL_law_600 : decode cL_law 600 = .ok (.invokevirtual 113, 3) := by decide +kernel
theorem dL_law_603 : decode cL_law 603 = .ok (.istore 6, 2) := by decide +kernel
theorem dL_law_605 : decode cL_law 605 = .ok (.aload_n 2, 1) := by decide +kernel
theorem dL_law_606 : decode cL_law 606 = .ok (.invokevirtual 87, 3) := by decide +kernel
theorem dL_law_609 : decode cL_law 609 = .ok (.iload 5, 2) := by decide +kernel
theorem dL_law_611 : decode cL_law 611 = .ok (.if_icmp .eq 5, 3) := by decide +kernel
theorem dL_law_614 : decode cL_law 614 = .ok (.iconst 0, 1) := by decide +kernel
theorem dL_law_615 : decode cL_law 615 = .ok (.ireturn, 1) := by decide +kernel
theorem dL_law_616 : decode cL_law 616 = .ok (.iload 5, 2) := by decide +kernel
theorem dL_law_618 : decode cL_law 618 = .ok (.ifCond .ne 15, 3) := by decide +kernel
theorem dL_law_621 : decode cL_law 621 = .ok (.aload_n 3, 1) := by decide +kernel
theorem dL_law_622 : decode cL_law 622 = .ok (.iconst 0, 1) := by decide +kernel
theorem dL_law_623 : decode cL_law 623 = .ok (.laload, 1) := by decide +kernel
theorem dL_law_624 : decode cL_law 624 = .ok (.iload 6, 2) := by decide +kernel
theorem dL_law_626 : decode cL_law 626 = .ok (.i2l, 1) := by decide +kernel
theorem dL_law_627 : decode cL_law 627 = .ok (.lcmp, 1) := by decide +kernel
theorem dL_law_628 : decode cL_law 628 = .ok (.ifCond .eq 5, 3) := by decide +kernel
theorem dL_law_631 : decode cL_law 631 = .ok (.iconst 0, 1) := by decide +kernel
theorem dL_law_632 : decode cL_law 632 = .ok (.ireturn, 1) := by decide +kernel
theorem dL_law_633 : decode cL_law 633 = .ok (.goto 670, 3) := by decide +kernel
theorem dL_law_636 : decode cL_law 636 = .ok (.aload_n 1, 1) := by decide +kernel
theorem dL_law_637 : decode cL_law 637 = .ok (.aload_n 0, 1) := by decide +kernel
theorem dL_law_638 : decode cL_law 638 = .ok (.iload 4, 2) := by decide +kernel
theorem dL_law_640 : decode cL_law 640 = .ok (.iconst 1, 1) := by decide +kernel
theorem dL_law_641 : decode cL_law 641 = .ok (.iadd, 1) := by decide +kernel
theorem dL_law_642 : decode cL_law 642 = .ok (.iaload, 1) := by decide +kernel
theorem dL_law_643 : decode cL_law 643 = .ok (.aload_n 3, 1) := by decide +kernel
theorem dL_law_644 : decode cL_law 644 = .ok (.invokestatic 114, 3) := by decide +kernel
theorem dL_law_647 : decode cL_law 647 = .ok (.istore 5, 2) := by decide +kernel
theorem dL_law_649 : decode cL_law 649 = .ok (.aload_n 2, 1) := by decide +kernel
theorem dL_law_650 : decode cL_law 650 = .ok (.aload_n 0, 1) := by decide +kernel
theorem dL_law_651 : decode cL_law 651 = .ok (.iload 4, 2) := by decide +kernel
theorem dL_law_653 : decode cL_law 653 = .ok (.iconst 1, 1) := by decide +kernel
theorem dL_law_654 : decode cL_law 654 = .ok (.iadd, 1) := by decide +kernel
theorem dL_law_655 : decode cL_law 655 = .ok (.iaload, 1) := by decide +kernel
theorem dL_law_656 : decode cL_law 656 = .ok (.invokevirtual 116, 3) := by decide +kernel
theorem dL_law_659 : decode cL_law 659 = .ok (.istore 6, 2) := by decide +kernel
theorem dL_law_661 : decode cL_law 661 = .ok (.aload_n 2, 1) := by decide +kernel
theorem dL_law_662 : decode cL_law 662 = .ok (.invokevirtual 87, 3) := by decide +kernel
theorem dL_law_665 : decode cL_law 665 = .ok (.iload 5, 2) := by decide +kernel
theorem dL_law_667 : decode cL_law 667 = .ok (.if_icmp .eq 5, 3) := by decide +kernel
theorem dL_law_670 : decode cL_law 670 = .ok (.iconst 0, 1) := by decide +kernel
theorem dL_law_671 : decode cL_law 671 = .ok (.ireturn, 1) := by decide +kernel
theorem dL_law_672 : decode cL_law 672 = .ok (.iload 5, 2) := by decide +kernel
theorem dL_law_674 : decode cL_law 674 = .ok (.ifCond .ne 15, 3) := by decide +kernel
theorem dL_law_677 : decode cL_law 677 = .ok (.aload_n 3, 1) := by decide +kernel
theorem dL_law_678 : decode cL_law 678 = .ok (.iconst 0, 1) := by decide +kernel
theorem dL_law_679 : decode cL_law 679 = .ok (.laload, 1) := by decide +kernel
theorem dL_law_680 : decode cL_law 680 = .ok (.iload 6, 2) := by decide +kernel
theorem dL_law_682 : decode cL_law 682 = .ok (.i2l, 1) := by decide +kernel
theorem dL_law_683 : decode cL_law 683 = .ok (.lcmp, 1) := by decide +kernel
theorem dL_law_684 : decode cL_law 684 = .ok (.ifCond .eq 5, 3) := by decide +kernel
theorem dL_law_687 : decode cL_law 687 = .ok (.iconst 0, 1) := by decide +kernel
theorem dL_law_688 : decode cL_law 688 = .ok (.ireturn, 1) := by decide +kernel
theorem dL_law_689 : decode cL_law 689 = .ok (.goto 614, 3) := by decide +kernel
theorem dL_law_692 : decode cL_law 692 = .ok (.aload_n 1, 1) := by decide +kernel
theorem dL_law_693 : decode cL_law 693 = .ok (.aload_n 0, 1) := by decide +kernel
theorem dL_law_694 : decode cL_law 694 = .ok (.iload 4, 2) := by decide +kernel
theorem dL_law_696 : decode cL_law 696 = .ok (.iconst 1, 1) := by decide +kernel
theorem dL_law_697 : decode cL_law 697 = .ok (.iadd, 1) := by decide +kernel
theorem dL_law_698 : decode cL_law 698 = .ok (.iaload, 1) := by decide +kernel
theorem dL_law_699 : decode cL_law 699 = .ok (.aload_n 3, 1) := by decide +kernel
theorem dL_law_700 : decode cL_law 700 = .ok (.invokestatic 117, 3) := by decide +kernel
theorem dL_law_703 : decode cL_law 703 = .ok (.istore 5, 2) := by decide +kernel
theorem dL_law_705 : decode cL_law 705 = .ok (.aload_n 2, 1) := by decide +kernel
theorem dL_law_706 : decode cL_law 706 = .ok (.aload_n 0, 1) := by decide +kernel
theorem dL_law_707 : decode cL_law 707 = .ok (.iload 4, 2) := by decide +kernel
theorem dL_law_709 : decode cL_law 709 = .ok (.iconst 1, 1) := by decide +kernel
theorem dL_law_710 : decode cL_law 710 = .ok (.iadd, 1) := by decide +kernel
theorem dL_law_711 : decode cL_law 711 = .ok (.iaload, 1) := by decide +kernel
theorem dL_law_712 : decode cL_law 712 = .ok (.invokevirtual 119, 3) := by decide +kernel
theorem dL_law_715 : decode cL_law 715 = .ok (.istore 6, 2) := by decide +kernel
theorem dL_law_717 : decode cL_law 717 = .ok (.aload_n 2, 1) := by decide +kernel
theorem dL_law_718 : decode cL_law 718 = .ok (.invokevirtual 87, 3) := by decide +kernel
theorem dL_law_721 : decode cL_law 721 = .ok (.iload 5, 2) := by decide +kernel
theorem dL_law_723 : decode cL_law 723 = .ok (.if_icmp .eq 5, 3) := by decide +kernel
theorem dL_law_726 : decode cL_law 726 = .ok (.iconst 0, 1) := by decide +kernel
theorem dL_law_727 : decode cL_law 727 = .ok (.ireturn, 1) := by decide +kernel
theorem dL_law_728 : decode cL_law 728 = .ok (.iload 5, 2) := by decide +kernel
theorem dL_law_730 : decode cL_law 730 = .ok (.ifCond .ne 15, 3) := by decide +kernel
theorem dL_law_733 : decode cL_law 733 = .ok (.aload_n 3, 1) := by decide +kernel
theorem dL_law_734 : decode cL_law 734 = .ok (.iconst 0, 1) := by decide +kernel
theorem dL_law_735 : decode cL_law 735 = .ok (.laload, 1) := by decide +kernel
theorem dL_law_736 : decode cL_law 736 = .ok (.iload 6, 2) := by decide +kernel
theorem dL_law_738 : decode cL_law 738 = .ok (.i2l, 1) := by decide +kernel
theorem dL_law_739 : decode cL_law 739 = .ok (.lcmp, 1) := by decide +kernel
theorem dL_law_740 : decode cL_law 740 = .ok (.ifCond .eq 5, 3) := by decide +kernel
theorem dL_law_743 : decode cL_law 743 = .ok (.iconst 0, 1) := by decide +kernel
theorem dL_law_744 : decode cL_law 744 = .ok (.ireturn, 1) := by decide +kernel
theorem dL_law_745 : decode cL_law 745 = .ok (.goto 558, 3) := by decide +kernel
theorem dL_law_748 : decode cL_law 748 = .ok (.aload_n 1, 1) := by decide +kernel
theorem dL_law_749 : decode cL_law 749 = .ok (.aload_n 0, 1) := by decide +kernel
theorem dL_law_750 : decode cL_law 750 = .ok (.iload 4, 2) := by decide +kernel
theorem dL_law_752 : decode cL_law 752 = .ok (.iconst 1, 1) := by decide +kernel
theorem dL_law_753 : decode cL_law 753 = .ok (.iadd, 1) := by decide +kernel
theorem dL_law_754 : decode cL_law 754 = .ok (.iaload, 1) := by decide +kernel
theorem dL_law_755 : decode cL_law 755 = .ok (.aload_n 0, 1) := by decide +kernel
theorem dL_law_756 : decode cL_law 756 = .ok (.iload 4, 2) := by decide +kernel
theorem dL_law_758 : decode cL_law 758 = .ok (.iconst 2, 1) := by decide +kernel
theorem dL_law_759 : decode cL_law 759 = .ok (.iadd, 1) := by decide +kernel
theorem dL_law_760 : decode cL_law 760 = .ok (.iaload, 1) := by decide +kernel
theorem dL_law_761 : decode cL_law 761 = .ok (.aload_n 3, 1) := by decide +kernel
theorem dL_law_762 : decode cL_law 762 = .ok (.invokestatic 120, 3) := by decide +kernel
theorem dL_law_765 : decode cL_law 765 = .ok (.istore 5, 2) := by decide +kernel
theorem dL_law_767 : decode cL_law 767 = .ok (.aload_n 2, 1) := by decide +kernel
theorem dL_law_768 : decode cL_law 768 = .ok (.aload_n 0, 1) := by decide +kernel
theorem dL_law_769 : decode cL_law 769 = .ok (.iload 4, 2) := by decide +kernel
theorem dL_law_771 : decode cL_law 771 = .ok (.iconst 1, 1) := by decide +kernel
theorem dL_law_772 : decode cL_law 772 = .ok (.iadd, 1) := by decide +kernel
theorem dL_law_773 : decode cL_law 773 = .ok (.iaload, 1) := by decide +kernel
theorem dL_law_774 : decode cL_law 774 = .ok (.aload_n 0, 1) := by decide +kernel
theorem dL_law_775 : decode cL_law 775 = .ok (.iload 4, 2) := by decide +kernel
theorem dL_law_777 : decode cL_law 777 = .ok (.iconst 2, 1) := by decide +kernel
theorem dL_law_778 : decode cL_law 778 = .ok (.iadd, 1) := by decide +kernel
theorem dL_law_779 : decode cL_law 779 = .ok (.iaload, 1) := by decide +kernel
theorem dL_law_780 : decode cL_law 780 = .ok (.invokevirtual 122, 3) := by decide +kernel
theorem dL_law_783 : decode cL_law 783 = .ok (.istore 6, 2) := by decide +kernel
theorem dL_law_785 : decode cL_law 785 = .ok (.aload_n 2, 1) := by decide +kernel
theorem dL_law_786 : decode cL_law 786 = .ok (.invokevirtual 87, 3) := by decide +kernel
theorem dL_law_789 : decode cL_law 789 = .ok (.iload 5, 2) := by decide +kernel
theorem dL_law_791 : decode cL_law 791 = .ok (.if_icmp .eq 5, 3) := by decide +kernel
theorem dL_law_794 : decode cL_law 794 = .ok (.iconst 0, 1) := by decide +kernel
theorem dL_law_795 : decode cL_law 795 = .ok (.ireturn, 1) := by decide +kernel
theorem dL_law_796 : decode cL_law 796 = .ok (.iload 5, 2) := by decide +kernel
theorem dL_law_798 : decode cL_law 798 = .ok (.ifCond .ne 15, 3) := by decide +kernel
theorem dL_law_801 : decode cL_law 801 = .ok (.aload_n 3, 1) := by decide +kernel
theorem dL_law_802 : decode cL_law 802 = .ok (.iconst 0, 1) := by decide +kernel
theorem dL_law_803 : decode cL_law 803 = .ok (.laload, 1) := by decide +kernel
theorem dL_law_804 : decode cL_law 804 = .ok (.iload 6, 2) := by decide +kernel
theorem dL_law_806 : decode cL_law 806 = .ok (.i2l, 1) := by decide +kernel
theorem dL_law_807 : decode cL_law 807 = .ok (.lcmp, 1) := by decide +kernel
theorem dL_law_808 : decode cL_law 808 = .ok (.ifCond .eq 5, 3) := by decide +kernel
theorem dL_law_811 : decode cL_law 811 = .ok (.iconst 0, 1) := by decide +kernel
theorem dL_law_812 : decode cL_law 812 = .ok (.ireturn, 1) := by decide +kernel
theorem dL_law_813 : decode cL_law 813 = .ok (.goto 490, 3) := by decide +kernel
theorem dL_law_816 : decode cL_law 816 = .ok (.aload_n 1, 1) := by decide +kernel
theorem dL_law_817 : decode cL_law 817 = .ok (.aload_n 0, 1) := by decide +kernel
theorem dL_law_818 : decode cL_law 818 = .ok (.iload 4, 2) := by decide +kernel
theorem dL_law_820 : decode cL_law 820 = .ok (.iconst 1, 1) := by decide +kernel
theorem dL_law_821 : decode cL_law 821 = .ok (.iadd, 1) := by decide +kernel
theorem dL_law_822 : decode cL_law 822 = .ok (.iaload, 1) := by decide +kernel
theorem dL_law_823 : decode cL_law 823 = .ok (.aload_n 3, 1) := by decide +kernel
theorem dL_law_824 : decode cL_law 824 = .ok (.invokestatic 123, 3) := by decide +kernel
theorem dL_law_827 : decode cL_law 827 = .ok (.istore 5, 2) := by decide +kernel
theorem dL_law_829 : decode cL_law 829 = .ok (.aload_n 2, 1) := by decide +kernel
theorem dL_law_830 : decode cL_law 830 = .ok (.aload_n 0, 1) := by decide +kernel
theorem dL_law_831 : decode cL_law 831 = .ok (.iload 4, 2) := by decide +kernel
theorem dL_law_833 : decode cL_law 833 = .ok (.iconst 1, 1) := by decide +kernel
theorem dL_law_834 : decode cL_law 834 = .ok (.iadd, 1) := by decide +kernel
theorem dL_law_835 : decode cL_law 835 = .ok (.iaload, 1) := by decide +kernel
theorem dL_law_836 : decode cL_law 836 = .ok (.invokevirtual 125, 3) := by decide +kernel
theorem dL_law_839 : decode cL_law 839 = .ok (.istore 6, 2) := by decide +kernel
theorem dL_law_841 : decode cL_law 841 = .ok (.aload_n 2, 1) := by decide +kernel
theorem dL_law_842 : decode cL_law 842 = .ok (.invokevirtual 87, 3) := by decide +kernel
theorem dL_law_845 : decode cL_law 845 = .ok (.iload 5, 2) := by decide +kernel
theorem dL_law_847 : decode cL_law 847 = .ok (.if_icmp .eq 5, 3) := by decide +kernel
theorem dL_law_850 : decode cL_law 850 = .ok (.iconst 0, 1) := by decide +kernel
theorem dL_law_851 : decode cL_law 851 = .ok (.ireturn, 1) := by decide +kernel
theorem dL_law_852 : decode cL_law 852 = .ok (.iload 5, 2) := by decide +kernel
theorem dL_law_854 : decode cL_law 854 = .ok (.ifCond .ne 15, 3) := by decide +kernel
theorem dL_law_857 : decode cL_law 857 = .ok (.aload_n 3, 1) := by decide +kernel
theorem dL_law_858 : decode cL_law 858 = .ok (.iconst 0, 1) := by decide +kernel
theorem dL_law_859 : decode cL_law 859 = .ok (.laload, 1) := by decide +kernel
theorem dL_law_860 : decode cL_law 860 = .ok (.iload 6, 2) := by decide +kernel
theorem dL_law_862 : decode cL_law 862 = .ok (.i2l, 1) := by decide +kernel
theorem dL_law_863 : decode cL_law 863 = .ok (.lcmp, 1) := by decide +kernel
theorem dL_law_864 : decode cL_law 864 = .ok (.ifCond .eq 5, 3) := by decide +kernel
theorem dL_law_867 : decode cL_law 867 = .ok (.iconst 0, 1) := by decide +kernel
theorem dL_law_868 : decode cL_law 868 = .ok (.ireturn, 1) := by decide +kernel
theorem dL_law_869 : decode cL_law 869 = .ok (.goto 434, 3) := by decide +kernel
theorem dL_law_872 : decode cL_law 872 = .ok (.aload_n 1, 1) := by decide +kernel
theorem dL_law_873 : decode cL_law 873 = .ok (.invokevirtual 126, 3) := by decide +kernel
theorem dL_law_876 : decode cL_law 876 = .ok (.aload_n 2, 1) := by decide +kernel
theorem dL_law_877 : decode cL_law 877 = .ok (.invokevirtual 129, 3) := by decide +kernel
theorem dL_law_880 : decode cL_law 880 = .ok (.if_icmp .eq 423, 3) := by decide +kernel
theorem dL_law_883 : decode cL_law 883 = .ok (.iconst 0, 1) := by decide +kernel
theorem dL_law_884 : decode cL_law 884 = .ok (.ireturn, 1) := by decide +kernel
theorem dL_law_885 : decode cL_law 885 = .ok (.aload_n 1, 1) := by decide +kernel
theorem dL_law_886 : decode cL_law 886 = .ok (.aload_n 0, 1) := by decide +kernel
theorem dL_law_887 : decode cL_law 887 = .ok (.iload 4, 2) := by decide +kernel
theorem dL_law_889 : decode cL_law 889 = .ok (.iconst 1, 1) := by decide +kernel
theorem dL_law_890 : decode cL_law 890 = .ok (.iadd, 1) := by decide +kernel
theorem dL_law_891 : decode cL_law 891 = .ok (.iaload, 1) := by decide +kernel
theorem dL_law_892 : decode cL_law 892 = .ok (.aload_n 3, 1) := by decide +kernel
theorem dL_law_893 : decode cL_law 893 = .ok (.invokestatic 130, 3) := by decide +kernel
theorem dL_law_896 : decode cL_law 896 = .ok (.istore 5, 2) := by decide +kernel
theorem dL_law_898 : decode cL_law 898 = .ok (.aload_n 2, 1) := by decide +kernel
theorem dL_law_899 : decode cL_law 899 = .ok (.aload_n 0, 1) := by decide +kernel
theorem dL_law_900 : decode cL_law 900 = .ok (.iload 4, 2) := by decide +kernel
theorem dL_law_902 : decode cL_law 902 = .ok (.iconst 1, 1) := by decide +kernel
theorem dL_law_903 : decode cL_law 903 = .ok (.iadd, 1) := by decide +kernel
theorem dL_law_904 : decode cL_law 904 = .ok (.iaload, 1) := by decide +kernel
theorem dL_law_905 : decode cL_law 905 = .ok (.invokevirtual 132, 3) := by decide +kernel
theorem dL_law_908 : decode cL_law 908 = .ok (.istore 6, 2) := by decide +kernel
theorem dL_law_910 : decode cL_law 910 = .ok (.aload_n 2, 1) := by decide +kernel
theorem dL_law_911 : decode cL_law 911 = .ok (.invokevirtual 87, 3) := by decide +kernel
theorem dL_law_914 : decode cL_law 914 = .ok (.iload 5, 2) := by decide +kernel
theorem dL_law_916 : decode cL_law 916 = .ok (.if_icmp .eq 5, 3) := by decide +kernel
theorem dL_law_919 : decode cL_law 919 = .ok (.iconst 0, 1) := by decide +kernel
theorem dL_law_920 : decode cL_law 920 = .ok (.ireturn, 1) := by decide +kernel
theorem dL_law_921 : decode cL_law 921 = .ok (.iload 5, 2) := by decide +kernel
theorem dL_law_923 : decode cL_law 923 = .ok (.ifCond .ne 15, 3) := by decide +kernel
theorem dL_law_926 : decode cL_law 926 = .ok (.aload_n 3, 1) := by decide +kernel
theorem dL_law_927 : decode cL_law 927 = .ok (.iconst 0, 1) := by decide +kernel
theorem dL_law_928 : decode cL_law 928 = .ok (.laload, 1) := by decide +kernel
theorem dL_law_929 : decode cL_law 929 = .ok (.iload 6, 2) := by decide +kernel
theorem dL_law_931 : decode cL_law 931 = .ok (.i2l, 1) := by decide +kernel
theorem dL_law_932 : decode cL_law 932 = .ok (.lcmp, 1) := by decide +kernel
theorem dL_law_933 : decode cL_law 933 = .ok (.ifCond .eq 5, 3) := by decide +kernel
theorem dL_law_936 : decode cL_law 936 = .ok (.iconst 0, 1) := by decide +kernel
theorem dL_law_937 : decode cL_law 937 = .ok (.ireturn, 1) := by decide +kernel
theorem dL_law_938 : decode cL_law 938 = .ok (.goto 365, 3) := by decide +kernel
theorem dL_law_941 : decode cL_law 941 = .ok (.aload_n 1, 1) := by decide +kernel
theorem dL_law_942 : decode cL_law 942 = .ok (.aload_n 0, 1) := by decide +kernel
theorem dL_law_943 : decode cL_law 943 = .ok (.iload 4, 2) := by decide +kernel
theorem dL_law_945 : decode cL_law 945 = .ok (.iconst 1, 1) := by decide +kernel
theorem dL_law_946 : decode cL_law 946 = .ok (.iadd, 1) := by decide +kernel
theorem dL_law_947 : decode cL_law 947 = .ok (.iaload, 1) := by decide +kernel
theorem dL_law_948 : decode cL_law 948 = .ok (.aload_n 3, 1) := by decide +kernel
theorem dL_law_949 : decode cL_law 949 = .ok (.invokestatic 133, 3) := by decide +kernel
theorem dL_law_952 : decode cL_law 952 = .ok (.istore 5, 2) := by decide +kernel
theorem dL_law_954 : decode cL_law 954 = .ok (.aload_n 2, 1) := by decide +kernel
theorem dL_law_955 : decode cL_law 955 = .ok (.aload_n 0, 1) := by decide +kernel
theorem dL_law_956 : decode cL_law 956 = .ok (.iload 4, 2) := by decide +kernel
theorem dL_law_958 : decode cL_law 958 = .ok (.iconst 1, 1) := by decide +kernel
theorem dL_law_959 : decode cL_law 959 = .ok (.iadd, 1) := by decide +kernel
theorem dL_law_960 : decode cL_law 960 = .ok (.iaload, 1) := by decide +kernel
theorem dL_law_961 : decode cL_law 961 = .ok (.invokevirtual 135, 3) := by decide +kernel
theorem dL_law_964 : decode cL_law 964 = .ok (.istore 6, 2) := by decide +kernel
theorem dL_law_966 : decode cL_law 966 = .ok (.aload_n 2, 1) := by decide +kernel
theorem dL_law_967 : decode cL_law 967 = .ok (.invokevirtual 87, 3) := by decide +kernel
theorem dL_law_970 : decode cL_law 970 = .ok (.iload 5, 2) := by decide +kernel
theorem dL_law_972 : decode cL_law 972 = .ok (.if_icmp .eq 5, 3) := by decide +kernel
theorem dL_law_975 : decode cL_law 975 = .ok (.iconst 0, 1) := by decide +kernel
theorem dL_law_976 : decode cL_law 976 = .ok (.ireturn, 1) := by decide +kernel
theorem dL_law_977 : decode cL_law 977 = .ok (.iload 5, 2) := by decide +kernel
theorem dL_law_979 : decode cL_law 979 = .ok (.ifCond .ne 15, 3) := by decide +kernel
theorem dL_law_982 : decode cL_law 982 = .ok (.aload_n 3, 1) := by decide +kernel
theorem dL_law_983 : decode cL_law 983 = .ok (.iconst 0, 1) := by decide +kernel
theorem dL_law_984 : decode cL_law 984 = .ok (.laload, 1) := by decide +kernel
theorem dL_law_985 : decode cL_law 985 = .ok (.iload 6, 2) := by decide +kernel
theorem dL_law_987 : decode cL_law 987 = .ok (.i2l, 1) := by decide +kernel
theorem dL_law_988 : decode cL_law 988 = .ok (.lcmp, 1) := by decide +kernel
theorem dL_law_989 : decode cL_law 989 = .ok (.ifCond .eq 5, 3) := by decide +kernel
theorem dL_law_992 : decode cL_law 992 = .ok (.iconst 0, 1) := by decide +kernel
theorem dL_law_993 : decode cL_law 993 = .ok (.ireturn, 1) := by decide +kernel
theorem dL_law_994 : decode cL_law 994 = .ok (.goto 309, 3) := by decide +kernel
theorem dL_law_997 : decode cL_law 997 = .ok (.aload_n 1, 1) := by decide +kernel
theorem dL_law_998 : decode cL_law 998 = .ok (.aload_n 0, 1) := by decide +kernel
theorem dL_law_999 : decode cL_law 999 = .ok (.iload 4, 2) := by decide +kernel
theorem dL_law_1001 : decode cL_law 1001 = .ok (.iconst 1, 1) := by decide +kernel
theorem dL_law_1002 : decode cL_law 1002 = .ok (.iadd, 1) := by decide +kernel
theorem dL_law_1003 : decode cL_law 1003 = .ok (.iaload, 1) := by decide +kernel
theorem dL_law_1004 : decode cL_law 1004 = .ok (.aload_n 3, 1) := by decide +kernel
theorem dL_law_1005 : decode cL_law 1005 = .ok (.invokestatic 136, 3) := by decide +kernel
theorem dL_law_1008 : decode cL_law 1008 = .ok (.istore 5, 2) := by decide +kernel
theorem dL_law_1010 : decode cL_law 1010 = .ok (.aload_n 2, 1) := by decide +kernel
theorem dL_law_1011 : decode cL_law 1011 = .ok (.aload_n 0, 1) := by decide +kernel
theorem dL_law_1012 : decode cL_law 1012 = .ok (.iload 4, 2) := by decide +kernel
theorem dL_law_1014 : decode cL_law 1014 = .ok (.iconst 1, 1) := by decide +kernel
theorem dL_law_1015 : decode cL_law 1015 = .ok (.iadd, 1) := by decide +kernel
theorem dL_law_1016 : decode cL_law 1016 = .ok (.iaload, 1) := by decide +kernel
theorem dL_law_1017 : decode cL_law 1017 = .ok (.invokevirtual 138, 3) := by decide +kernel
theorem dL_law_1020 : decode cL_law 1020 = .ok (.istore 6, 2) := by decide +kernel
theorem dL_law_1022 : decode cL_law 1022 = .ok (.aload_n 2, 1) := by decide +kernel
theorem dL_law_1023 : decode cL_law 1023 = .ok (.invokevirtual 87, 3) := by decide +kernel
theorem dL_law_1026 : decode cL_law 1026 = .ok (.iload 5, 2) := by decide +kernel
theorem dL_law_1028 : decode cL_law 1028 = .ok (.if_icmp .eq 5, 3) := by decide +kernel
theorem dL_law_1031 : decode cL_law 1031 = .ok (.iconst 0, 1) := by decide +kernel
theorem dL_law_1032 : decode cL_law 1032 = .ok (.ireturn, 1) := by decide +kernel
theorem dL_law_1033 : decode cL_law 1033 = .ok (.iload 5, 2) := by decide +kernel
theorem dL_law_1035 : decode cL_law 1035 = .ok (.ifCond .ne 22, 3) := by decide +kernel
theorem dL_law_1038 : decode cL_law 1038 = .ok (.aload_n 3, 1) := by decide +kernel
theorem dL_law_1039 : decode cL_law 1039 = .ok (.iconst 0, 1) := by decide +kernel
theorem dL_law_1040 : decode cL_law 1040 = .ok (.laload, 1) := by decide +kernel
theorem dL_law_1041 : decode cL_law 1041 = .ok (.iload 6, 2) := by decide +kernel
theorem dL_law_1043 : decode cL_law 1043 = .ok (.ifCond .eq 7, 3) := by decide +kernel
theorem dL_law_1046 : decode cL_law 1046 = .ok (.lconst 1, 1) := by decide +kernel
theorem dL_law_1047 : decode cL_law 1047 = .ok (.goto 4, 3) := by decide +kernel
theorem dL_law_1050 : decode cL_law 1050 = .ok (.lconst 0, 1) := by decide +kernel
theorem dL_law_1051 : decode cL_law 1051 = .ok (.lcmp, 1) := by decide +kernel
theorem dL_law_1052 : decode cL_law 1052 = .ok (.ifCond .eq 5, 3) := by decide +kernel
theorem dL_law_1055 : decode cL_law 1055 = .ok (.iconst 0, 1) := by decide +kernel
theorem dL_law_1056 : decode cL_law 1056 = .ok (.ireturn, 1) := by decide +kernel
theorem dL_law_1057 : decode cL_law 1057 = .ok (.goto 246, 3) := by decide +kernel
theorem dL_law_1060 : decode cL_law 1060 = .ok (.aload_n 1, 1) := by decide +kernel
theorem dL_law_1061 : decode cL_law 1061 = .ok (.aload_n 0, 1) := by decide +kernel
theorem dL_law_1062 : decode cL_law 1062 = .ok (.iload 4, 2) := by decide +kernel
theorem dL_law_1064 : decode cL_law 1064 = .ok (.iconst 1, 1) := by decide +kernel
theorem dL_law_1065 : decode cL_law 1065 = .ok (.iadd, 1) := by decide +kernel
theorem dL_law_1066 : decode cL_law 1066 = .ok (.iaload, 1) := by decide +kernel
theorem dL_law_1067 : decode cL_law 1067 = .ok (.aload_n 3, 1) := by decide +kernel
theorem dL_law_1068 : decode cL_law 1068 = .ok (.invokestatic 139, 3) := by decide +kernel
theorem dL_law_1071 : decode cL_law 1071 = .ok (.istore 5, 2) := by decide +kernel
theorem dL_law_1073 : decode cL_law 1073 = .ok (.aload_n 2, 1) := by decide +kernel
theorem dL_law_1074 : decode cL_law 1074 = .ok (.aload_n 0, 1) := by decide +kernel
theorem dL_law_1075 : decode cL_law 1075 = .ok (.iload 4, 2) := by decide +kernel
theorem dL_law_1077 : decode cL_law 1077 = .ok (.iconst 1, 1) := by decide +kernel
theorem dL_law_1078 : decode cL_law 1078 = .ok (.iadd, 1) := by decide +kernel
theorem dL_law_1079 : decode cL_law 1079 = .ok (.iaload, 1) := by decide +kernel
theorem dL_law_1080 : decode cL_law 1080 = .ok (.invokevirtual 141, 3) := by decide +kernel
theorem dL_law_1083 : decode cL_law 1083 = .ok (.istore 6, 2) := by decide +kernel
theorem dL_law_1085 : decode cL_law 1085 = .ok (.aload_n 2, 1) := by decide +kernel
theorem dL_law_1086 : decode cL_law 1086 = .ok (.invokevirtual 87, 3) := by decide +kernel
theorem dL_law_1089 : decode cL_law 1089 = .ok (.iload 5, 2) := by decide +kernel
theorem dL_law_1091 : decode cL_law 1091 = .ok (.if_icmp .eq 5, 3) := by decide +kernel
theorem dL_law_1094 : decode cL_law 1094 = .ok (.iconst 0, 1) := by decide +kernel
theorem dL_law_1095 : decode cL_law 1095 = .ok (.ireturn, 1) := by decide +kernel
theorem dL_law_1096 : decode cL_law 1096 = .ok (.iload 5, 2) := by decide +kernel
theorem dL_law_1098 : decode cL_law 1098 = .ok (.ifCond .ne 22, 3) := by decide +kernel
theorem dL_law_1101 : decode cL_law 1101 = .ok (.aload_n 3, 1) := by decide +kernel
theorem dL_law_1102 : decode cL_law 1102 = .ok (.iconst 0, 1) := by decide +kernel
theorem dL_law_1103 : decode cL_law 1103 = .ok (.laload, 1) := by decide +kernel
theorem dL_law_1104 : decode cL_law 1104 = .ok (.iload 6, 2) := by decide +kernel
theorem dL_law_1106 : decode cL_law 1106 = .ok (.ifCond .eq 7, 3) := by decide +kernel
theorem dL_law_1109 : decode cL_law 1109 = .ok (.lconst 1, 1) := by decide +kernel
theorem dL_law_1110 : decode cL_law 1110 = .ok (.goto 4, 3) := by decide +kernel
theorem dL_law_1113 : decode cL_law 1113 = .ok (.lconst 0, 1) := by decide +kernel
theorem dL_law_1114 : decode cL_law 1114 = .ok (.lcmp, 1) := by decide +kernel
theorem dL_law_1115 : decode cL_law 1115 = .ok (.ifCond .eq 5, 3) := by decide +kernel
theorem dL_law_1118 : decode cL_law 1118 = .ok (.iconst 0, 1) := by decide +kernel
theorem dL_law_1119 : decode cL_law 1119 = .ok (.ireturn, 1) := by decide +kernel
theorem dL_law_1120 : decode cL_law 1120 = .ok (.goto 183, 3) := by decide +kernel
theorem dL_law_1123 : decode cL_law 1123 = .ok (.aload_n 1, 1) := by decide +kernel
theorem dL_law_1124 : decode cL_law 1124 = .ok (.aload_n 0, 1) := by decide +kernel
theorem dL_law_1125 : decode cL_law 1125 = .ok (.iload 4, 2) := by decide +kernel
theorem dL_law_1127 : decode cL_law 1127 = .ok (.iconst 1, 1) := by decide +kernel
theorem dL_law_1128 : decode cL_law 1128 = .ok (.iadd, 1) := by decide +kernel
theorem dL_law_1129 : decode cL_law 1129 = .ok (.iaload, 1) := by decide +kernel
theorem dL_law_1130 : decode cL_law 1130 = .ok (.aload_n 3, 1) := by decide +kernel
theorem dL_law_1131 : decode cL_law 1131 = .ok (.invokestatic 142, 3) := by decide +kernel
theorem dL_law_1134 : decode cL_law 1134 = .ok (.istore 5, 2) := by decide +kernel
theorem dL_law_1136 : decode cL_law 1136 = .ok (.aload_n 2, 1) := by decide +kernel
theorem dL_law_1137 : decode cL_law 1137 = .ok (.aload_n 0, 1) := by decide +kernel
theorem dL_law_1138 : decode cL_law 1138 = .ok (.iload 4, 2) := by decide +kernel
theorem dL_law_1140 : decode cL_law 1140 = .ok (.iconst 1, 1) := by decide +kernel
theorem dL_law_1141 : decode cL_law 1141 = .ok (.iadd, 1) := by decide +kernel
theorem dL_law_1142 : decode cL_law 1142 = .ok (.iaload, 1) := by decide +kernel
theorem dL_law_1143 : decode cL_law 1143 = .ok (.invokevirtual 144, 3) := by decide +kernel
theorem dL_law_1146 : decode cL_law 1146 = .ok (.istore 6, 2) := by decide +kernel
theorem dL_law_1148 : decode cL_law 1148 = .ok (.aload_n 2, 1) := by decide +kernel
theorem dL_law_1149 : decode cL_law 1149 = .ok (.invokevirtual 87, 3) := by decide +kernel
theorem dL_law_1152 : decode cL_law 1152 = .ok (.iload 5, 2) := by decide +kernel
theorem dL_law_1154 : decode cL_law 1154 = .ok (.if_icmp .eq 5, 3) := by decide +kernel
theorem dL_law_1157 : decode cL_law 1157 = .ok (.iconst 0, 1) := by decide +kernel
theorem dL_law_1158 : decode cL_law 1158 = .ok (.ireturn, 1) := by decide +kernel
theorem dL_law_1159 : decode cL_law 1159 = .ok (.iload 5, 2) := by decide +kernel
theorem dL_law_1161 : decode cL_law 1161 = .ok (.ifCond .ne 15, 3) := by decide +kernel
theorem dL_law_1164 : decode cL_law 1164 = .ok (.aload_n 3, 1) := by decide +kernel
theorem dL_law_1165 : decode cL_law 1165 = .ok (.iconst 0, 1) := by decide +kernel
theorem dL_law_1166 : decode cL_law 1166 = .ok (.laload, 1) := by decide +kernel
theorem dL_law_1167 : decode cL_law 1167 = .ok (.iload 6, 2) := by decide +kernel
theorem dL_law_1169 : decode cL_law 1169 = .ok (.i2l, 1) := by decide +kernel
theorem dL_law_1170 : decode cL_law 1170 = .ok (.lcmp, 1) := by decide +kernel
theorem dL_law_1171 : decode cL_law 1171 = .ok (.ifCond .eq 5, 3) := by decide +kernel
theorem dL_law_1174 : decode cL_law 1174 = .ok (.iconst 0, 1) := by decide +kernel
theorem dL_law_1175 : decode cL_law 1175 = .ok (.ireturn, 1) := by decide +kernel
theorem dL_law_1176 : decode cL_law 1176 = .ok (.goto 127, 3) := by decide +kernel
theorem dL_law_1179 : decode cL_law 1179 = .ok (.aload_n 1, 1) := by decide +kernel
theorem dL_law_1180 : decode cL_law 1180 = .ok (.aload_n 0, 1) := by decide +kernel
theorem dL_law_1181 : decode cL_law 1181 = .ok (.iload 4, 2) := by decide +kernel
theorem dL_law_1183 : decode cL_law 1183 = .ok (.iconst 1, 1) := by decide +kernel
theorem dL_law_1184 : decode cL_law 1184 = .ok (.iadd, 1) := by decide +kernel
theorem dL_law_1185 : decode cL_law 1185 = .ok (.iaload, 1) := by decide +kernel
theorem dL_law_1186 : decode cL_law 1186 = .ok (.aload_n 3, 1) := by decide +kernel
theorem dL_law_1187 : decode cL_law 1187 = .ok (.invokestatic 145, 3) := by decide +kernel
theorem dL_law_1190 : decode cL_law 1190 = .ok (.istore 5, 2) := by decide +kernel
theorem dL_law_1192 : decode cL_law 1192 = .ok (.aload_n 2, 1) := by decide +kernel
theorem dL_law_1193 : decode cL_law 1193 = .ok (.aload_n 0, 1) := by decide +kernel
theorem dL_law_1194 : decode cL_law 1194 = .ok (.iload 4, 2) := by decide +kernel
theorem dL_law_1196 : decode cL_law 1196 = .ok (.iconst 1, 1) := by decide +kernel
theorem dL_law_1197 : decode cL_law 1197 = .ok (.iadd, 1) := by decide +kernel
theorem dL_law_1198 : decode cL_law 1198 = .ok (.iaload, 1) := by decide +kernel
theorem dL_law_1199 : decode cL_law 1199 = .ok (.invokevirtual 147, 3) := by decide +kernel
theorem dL_law_1202 : decode cL_law 1202 = .ok (.istore 6, 2) := by decide +kernel
theorem dL_law_1204 : decode cL_law 1204 = .ok (.aload_n 2, 1) := by decide +kernel
theorem dL_law_1205 : decode cL_law 1205 = .ok (.invokevirtual 87, 3) := by decide +kernel
theorem dL_law_1208 : decode cL_law 1208 = .ok (.iload 5, 2) := by decide +kernel
theorem dL_law_1210 : decode cL_law 1210 = .ok (.if_icmp .eq 5, 3) := by decide +kernel
theorem dL_law_1213 : decode cL_law 1213 = .ok (.iconst 0, 1) := by decide +kernel
theorem dL_law_1214 : decode cL_law 1214 = .ok (.ireturn, 1) := by decide +kernel
theorem dL_law_1215 : decode cL_law 1215 = .ok (.iload 5, 2) := by decide +kernel
theorem dL_law_1217 : decode cL_law 1217 = .ok (.ifCond .ne 15, 3) := by decide +kernel
theorem dL_law_1220 : decode cL_law 1220 = .ok (.aload_n 3, 1) := by decide +kernel
theorem dL_law_1221 : decode cL_law 1221 = .ok (.iconst 0, 1) := by decide +kernel
theorem dL_law_1222 : decode cL_law 1222 = .ok (.laload, 1) := by decide +kernel
theorem dL_law_1223 : decode cL_law 1223 = .ok (.iload 6, 2) := by decide +kernel
theorem dL_law_1225 : decode cL_law 1225 = .ok (.i2l, 1) := by decide +kernel
theorem dL_law_1226 : decode cL_law 1226 = .ok (.lcmp, 1) := by decide +kernel
theorem dL_law_1227 : decode cL_law 1227 = .ok (.ifCond .eq 5, 3) := by decide +kernel
theorem dL_law_1230 : decode cL_law 1230 = .ok (.iconst 0, 1) := by decide +kernel
theorem dL_law_1231 : decode cL_law 1231 = .ok (.ireturn, 1) := by decide +kernel
theorem dL_law_1232 : decode cL_law 1232 = .ok (.goto 71, 3) := by decide +kernel
theorem dL_law_1235 : decode cL_law 1235 = .ok (.aload_n 1, 1) := by decide +kernel
theorem dL_law_1236 : decode cL_law 1236 = .ok (.aload_n 0, 1) := by decide +kernel
theorem dL_law_1237 : decode cL_law 1237 = .ok (.iload 4, 2) := by decide +kernel
theorem dL_law_1239 : decode cL_law 1239 = .ok (.iconst 1, 1) := by decide +kernel
theorem dL_law_1240 : decode cL_law 1240 = .ok (.iadd, 1) := by decide +kernel
theorem dL_law_1241 : decode cL_law 1241 = .ok (.iaload, 1) := by decide +kernel
theorem dL_law_1242 : decode cL_law 1242 = .ok (.aload_n 0, 1) := by decide +kernel
theorem dL_law_1243 : decode cL_law 1243 = .ok (.iload 4, 2) := by decide +kernel
theorem dL_law_1245 : decode cL_law 1245 = .ok (.iconst 2, 1) := by decide +kernel
theorem dL_law_1246 : decode cL_law 1246 = .ok (.iadd, 1) := by decide +kernel
theorem dL_law_1247 : decode cL_law 1247 = .ok (.iaload, 1) := by decide +kernel
theorem dL_law_1248 : decode cL_law 1248 = .ok (.aload_n 3, 1) := by decide +kernel
theorem dL_law_1249 : decode cL_law 1249 = .ok (.invokestatic 148, 3) := by decide +kernel
theorem dL_law_1252 : decode cL_law 1252 = .ok (.istore 5, 2) := by decide +kernel
theorem dL_law_1254 : decode cL_law 1254 = .ok (.aload_n 2, 1) := by decide +kernel
theorem dL_law_1255 : decode cL_law 1255 = .ok (.aload_n 0, 1) := by decide +kernel
theorem dL_law_1256 : decode cL_law 1256 = .ok (.iload 4, 2) := by decide +kernel
theorem dL_law_1258 : decode cL_law 1258 = .ok (.iconst 1, 1) := by decide +kernel
theorem dL_law_1259 : decode cL_law 1259 = .ok (.iadd, 1) := by decide +kernel
theorem dL_law_1260 : decode cL_law 1260 = .ok (.iaload, 1) := by decide +kernel
theorem dL_law_1261 : decode cL_law 1261 = .ok (.aload_n 0, 1) := by decide +kernel
theorem dL_law_1262 : decode cL_law 1262 = .ok (.iload 4, 2) := by decide +kernel
theorem dL_law_1264 : decode cL_law 1264 = .ok (.iconst 2, 1) := by decide +kernel
theorem dL_law_1265 : decode cL_law 1265 = .ok (.iadd, 1) := by decide +kernel
theorem dL_law_1266 : decode cL_law 1266 = .ok (.iaload, 1) := by decide +kernel
theorem dL_law_1267 : decode cL_law 1267 = .ok (.invokevirtual 150, 3) := by decide +kernel
theorem dL_law_1270 : decode cL_law 1270 = .ok (.istore 6, 2) := by decide +kernel
theorem dL_law_1272 : decode cL_law 1272 = .ok (.aload_n 2, 1) := by decide +kernel
theorem dL_law_1273 : decode cL_law 1273 = .ok (.invokevirtual 87, 3) := by decide +kernel
theorem dL_law_1276 : decode cL_law 1276 = .ok (.iload 5, 2) := by decide +kernel
theorem dL_law_1278 : decode cL_law 1278 = .ok (.if_icmp .eq 5, 3) := by decide +kernel
theorem dL_law_1281 : decode cL_law 1281 = .ok (.iconst 0, 1) := by decide +kernel
theorem dL_law_1282 : decode cL_law 1282 = .ok (.ireturn, 1) := by decide +kernel
theorem dL_law_1283 : decode cL_law 1283 = .ok (.iload 5, 2) := by decide +kernel
theorem dL_law_1285 : decode cL_law 1285 = .ok (.ifCond .ne 15, 3) := by decide +kernel
theorem dL_law_1288 : decode cL_law 1288 = .ok (.aload_n 3, 1) := by decide +kernel
theorem dL_law_1289 : decode cL_law 1289 = .ok (.iconst 0, 1) := by decide +kernel
theorem dL_law_1290 : decode cL_law 1290 = .ok (.laload, 1) := by decide +kernel
theorem dL_law_1291 : decode cL_law 1291 = .ok (.iload 6, 2) := by decide +kernel
theorem dL_law_1293 : decode cL_law 1293 = .ok (.i2l, 1) := by decide +kernel
theorem dL_law_1294 : decode cL_law 1294 = .ok (.lcmp, 1) := by decide +kernel
theorem dL_law_1295 : decode cL_law 1295 = .ok (.ifCond .eq 5, 3) := by decide +kernel
theorem dL_law_1298 : decode cL_law 1298 = .ok (.iconst 0, 1) := by decide +kernel
theorem dL_law_1299 : decode cL_law 1299 = .ok (.ireturn, 1) := by decide +kernel
theorem dL_law_1300 : decode cL_law 1300 = .ok (.goto 3, 3) := by decide +kernel
theorem dL_law_1303 : decode cL_law 1303 = .ok (.iinc 4 6, 3) := by decide +kernel
theorem dL_law_1306 : decode cL_law 1306 = .ok (.goto (-1283), 3) := by decide +kernel
theorem dL_law_1309 : decode cL_law 1309 = .ok (.iconst 1, 1) := by decide +kernel
theorem dL_law_1310 : decode cL_law 1310 = .ok (.ireturn, 1) := by decide +kernel
end
section
/-! my own kit: conditions as Java has them; contracts over a whole world; entering, calling, ending -/
def bi (P : Prop) [Decidable P] : Int32 := if P then 1 else 0
theorem bi_t {P : Prop} [Decidable P] (h : P) : bi P = 1 := if_pos h
theorem bi_f {P : Prop} [Decidable P] (h : ¬ P) : bi P = 0 := if_neg h
theorem bi_0 {P : Prop} [Decidable P] : bi P = 0 ↔ ¬ P := by
  by_cases h : P
  · rw [bi_t h]; exact ⟨fun q => absurd q (by decide), fun q => absurd h q⟩
  · rw [bi_f h]; exact ⟨fun _ => h, fun _ => rfl⟩
theorem bi_nar {P : Prop} [Decidable P] : narrow .boolean (.int (bi P)) = .int (bi P) := by
  by_cases h : P
  · rw [bi_t h]; rfl
  · rw [bi_f h]; rfl
theorem bi_nar2 {P : Prop} [Decidable P] : vp_nar .boolean (bi P) = bi P := by
  by_cases h : P
  · rw [bi_t h]; rfl
  · rw [bi_f h]; rfl
theorem bi_congr {P Q : Prop} [Decidable P] [Decidable Q] (h : P ↔ Q) : bi P = bi Q := by
  by_cases p : P
  · rw [bi_t p, bi_t (h.mp p)]
  · rw [bi_f p, bi_f (fun q => p (h.mpr q))]
section MyKit
variable {p : Program} {l : Launch} {e : Env} {R : Room} {s : State} {m : MethodId} {args : Array Value} {below : List Frame} {meth : Method} {c : Code} {H : Heap} {locs : List Loc} {cells slots : Nat} {Q : State → Prop}
variable {cc : ByteArray} {pc : Nat} {ls : Array Slot} {rest : List Value} {D : va_G} {cl : List vw_C} {A : Nat → Prop} {a : Nat} {tys : List (ClassId × FieldType)} {ws : va_W} {H0 : Heap}
theorem br_eq {P : Prop} [Decidable P] (hx : p.tables.exec = Jvm.exec) (hb : c.code = cc) {off : Int} {tgt : Nat} (hdg : decode cc pc = .ok (.ifCond .eq off, 3)) (ht : (pc : Int) + off = (tgt : Int))
    (kt : ¬ P → W p l e R s m args below meth c H locs cells slots Q (F0 m tgt ls rest)) (kf : P → W p l e R s m args below meth c H locs cells slots Q (F0 m (pc + 3) ls rest)) : W p l e R s m args below meth c H locs cells slots Q (F0 m pc ls (.int (bi P) :: rest)) :=
  lv_if_eq hx hb hdg ht (fun h => kt (bi_0.mp h)) (fun h => kf (Decidable.not_not.mp (fun q => h (bi_0.mpr q))))
theorem br_ne {P : Prop} [Decidable P] (hx : p.tables.exec = Jvm.exec) (hb : c.code = cc) {off : Int} {tgt : Nat} (hdg : decode cc pc = .ok (.ifCond .ne off, 3)) (ht : (pc : Int) + off = (tgt : Int))
    (kt : P → W p l e R s m args below meth c H locs cells slots Q (F0 m tgt ls rest)) (kf : ¬ P → W p l e R s m args below meth c H locs cells slots Q (F0 m (pc + 3) ls rest)) : W p l e R s m args below meth c H locs cells slots Q (F0 m pc ls (.int (bi P) :: rest)) :=
  lv_if_ne hx hb hdg ht (fun h => kt (Decidable.not_not.mp (fun q => h (bi_0.mpr q)))) (fun h => kf (bi_0.mp h))
end MyKit
/-- a world before a call, and its ends -/
def wPre (D : va_G) (tys : List (ClassId × FieldType)) (ws : va_W) (sz : Nat) (U : State) : Prop := U.heap.size = sz ∧ va_P D vwCl ws U.heap ∧ va_K D vwCl tys U ∧ va_D (fun _ => True) ws
def wEnd (D : va_G) (tys : List (ClassId × FieldType)) (A : Nat → Prop) (w : va_W) (t : State) : Prop := va_P D vwCl w t.heap ∧ va_K D vwCl tys t ∧ va_D A w
def QI (D : va_G) (tys : List (ClassId × FieldType)) {S : Type} (post : Int32 → S → Prop) (w : S → va_W) (A : Nat → Prop) : Array Value → State → Outcome → State → Prop := va_Qi post (fun u t => wEnd D tys A (w u) t) A
def QV (D : va_G) (tys : List (ClassId × FieldType)) {S : Type} (post : S → Prop) (w : S → va_W) (A : Nat → Prop) : Array Value → State → Outcome → State → Prop := va_Qv post (fun u t => wEnd D tys A (w u) t) A
def QR (D : va_G) (tys : List (ClassId × FieldType)) {S : Type} (post : Nat → S → Prop) (w : S → va_W) (A : Nat → Prop) : Array Value → State → Outcome → State → Prop := va_Qr (fun _ => True) (fun u a t => post a u ∧ wEnd D tys A (w u) t) A
theorem wPre_blind {D : va_G} {tys : List (ClassId × FieldType)} {ws : va_W} {sz : Nat} {av : List Value} : FrameBlind (va_Pc av (wPre D tys ws sz)) := fun a U g mk q => by
  obtain ⟨q0, q1, qP, qK, qD⟩ := q
  exact ⟨q0, q1, qP, va_K.moved (u := U) (U := U.calling g mk a) (Vm.Alike.refl U.vm) qK, qD⟩
theorem wPre_at {D : va_G} {tys : List (ClassId × FieldType)} {ws : va_W} {av : List Value} {s : State} {H : Heap} {A : Nat → Prop} (hK : va_K D vwCl tys s) (hP : va_P D vwCl ws H) (hD : va_D A ws) (U : State) (hU : U.heap = H) (hW : s.WarmedH U.vm) : va_Pc av (wPre D tys ws H.size) av.toArray U :=
  ⟨rfl, by rw [hU], by rw [hU]; exact hP, va_K.moved hW.alike hK, hD.weaken (fun _ _ _ _ => trivial)⟩
theorem w_free {D : va_G} {tys : List (ClassId × FieldType)} {ws : va_W} {A : Nat → Prop} {H0 H : Heap} {locs : List Loc} (hD : va_D A ws) (hS : va_S A H0 H locs) (hA : ∀ q, H0.size ≤ q → A q) : ∀ q, va_A ws H.size q → A q := by
  intro q h
  rcases h with ⟨k, e, h⟩ | h
  · exact hD.2 k (q, e) h
  · exact hA q (Nat.le_trans hS.1 h)
theorem en {l : Launch} {y : MethodName} {wsC ws' : List Cond} {rm : Room} {D : va_G} {tys : List (ClassId × FieldType)} {ws : va_W} {sz : Nat} {av : List Value} {Qc : (Nat → Prop) → Array Value → State → Outcome → State → Prop} {mc ms : Nat} {cc : ByteArray} {maxL : Nat} {ret : Option FieldType} {own : String} {lv : List (Nat × Value)}
    (hy : plainName y.cls = true) (hw : wsC = Cond.code y cc maxL ret :: ws') (how : y.cls = own) (hav : (lg_sl av).length ≤ maxL) (hlv : lv_args 0 av = lv)
    (body : ∀ (p : Program) (e : Env) (s : State) (m : MethodId) (below : List Frame) (meth : Method) (c : Code) (ls : Array Slot) (A : Nat → Prop) (H : Heap) (locs : List Loc), p.tables.exec = Jvm.exec → c.code = cc → meth.sig.returnType = ret → (∀ w ∈ wsC, w.before av.toArray s = true) → s.vm.findClass own = some m.cls → meth.locks = false → c.maxLocals = maxL → meth.name = y.name →
      s.heap.size = sz → va_K D vwCl tys s → va_P D vwCl ws H → va_D A ws → va_S A s.heap H locs → (∀ q, s.heap.size ≤ q → A q) → lv_has ls maxL lv →
      W p l e rm s m av.toArray below meth c H locs 0 0 (MQ below (Qc A) av.toArray s mc ms A) (F0 m 0 ls [])) :
    Met l y wsC rm (va_Pc av (wPre D tys ws sz)) (Qc (va_A ws sz)) mc ms (va_A ws sz) := by
  refine Met.ofW (cc := cc) (maxL := maxL) (ret := ret) hy hw ?_
  intro p e s m args below meth c s₁ B hml hv
  obtain ⟨rfl, hsz, hP, hK, hD0⟩ := hv
  have hown : s.vm.findClass own = some m.cls := by rw [← how]; exact findClass_of_methodNamed B.named
  have hin : meth.name = y.name := (name_of_methodNamed B.named B.method).1
  have hD := hD0.self (sz := s.heap.size)
  have hl := lv_entry av (n := maxL) hav
  rw [hlv] at hl
  rw [lg_entry_eq]
  rw [← hsz]
  exact body p e s m below meth c _ (va_A ws s.heap.size) s.heap [] B.exec B.bytes B.returns (atoms_spec (ws := wsC) B.pre) hown B.notSynchronized hml hin hsz hK hP hD va_S.rf (fun q h => Or.inr h) hl
section MyCalls
variable {p : Program} {l : Launch} {e : Env} {R : Room} {s : State} {m : MethodId} {args : Array Value} {below : List Frame} {meth : Method} {c : Code} {H : Heap} {locs : List Loc} {cells slots mc ms : Nat} {Q : State → Prop}
variable {cc : ByteArray} {pc : Nat} {ls : Array Slot} {rest st0 : List Value} {D : va_G} {A : Nat → Prop} {a : Array Value} {tys : List (ClassId × FieldType)} {ws : va_W}
theorem w_recv {q0 ci : Nat} {r : vw_C} {fs : List Value} {b : Nat} (hK : va_K D vwCl tys s) (hP : va_P D vwCl ws H) (he : ws[q0]? = some (b, .inr (ci, fs))) (hc : vwCl[ci]? = some r) : ∃ cell : Cell, H[b]? = some cell ∧ cell.vm.isStatics = false ∧ s.vm.findClass r.1 = some cell.cls := va_recv hK hP hc he
theorem preV {C : String} {b : Nat} {As : List Value} (hK : va_K D vwCl tys s) (hP : va_P D vwCl ws H) (hD : va_D A ws) (hrec : ∃ cell : Cell, H[b]? = some cell ∧ cell.vm.isStatics = false ∧ s.vm.findClass C = some cell.cls) : PreV s H C b (va_Pc (.ref b :: As) (wPre D tys ws H.size)) As :=
  ⟨wPre_blind, hrec, fun U hU hW => wPre_at hK hP hD U hU hW⟩
theorem preS {As : List Value} (hK : va_K D vwCl tys s) (hP : va_P D vwCl ws H) (hD : va_D A ws) : PreS s H (va_Pc As (wPre D tys ws H.size)) As :=
  ⟨wPre_blind, fun U hU hW => wPre_at hK hP hD U hU hW⟩
theorem call_i {S : Type} {post : Int32 → S → Prop} {w : S → va_W} (hr : va_Run p l e R s m args below meth c H locs cells slots mc ms (F0 m pc ls st0) rest (QI D tys post w (va_A ws H.size) a) (va_A ws H.size)) (hD : va_D A ws) (hS : va_S A s.heap H locs) (hA : ∀ q, s.heap.size ≤ q → A q)
    (kk : ∀ (r : Int32) (u : S) (H1 : Heap) (locs1 : List Loc), post r u → va_P D vwCl (w u) H1 → va_D A (w u) → va_S A s.heap H1 locs1 → W p l e R s m args below meth c H1 locs1 (cells + mc) (slots + ms) Q (F0 m (pc + 3) ls (.int r :: rest))) : W p l e R s m args below meth c H locs cells slots Q (F0 m pc ls st0) :=
  va_calli hr hS (fun q _ h => w_free (D := D) (tys := tys) hD hS hA q h) (w_free (D := D) (tys := tys) hD hS hA) (fun r u t H1 locs1 ht hvm hw hB hz hk hS1 => kk r u H1 locs1 hw (by rw [← ht]; exact hB.1) (hB.2.2.weaken (fun _ q _ h => w_free (D := D) (tys := tys) hD hS hA q.1 h)) hS1)
theorem call_v {S : Type} {post : S → Prop} {w : S → va_W} (hr : va_Run p l e R s m args below meth c H locs cells slots mc ms (F0 m pc ls st0) rest (QV D tys post w (va_A ws H.size) a) (va_A ws H.size)) (hD : va_D A ws) (hS : va_S A s.heap H locs) (hA : ∀ q, s.heap.size ≤ q → A q)
    (kk : ∀ (u : S) (H1 : Heap) (locs1 : List Loc), post u → va_P D vwCl (w u) H1 → va_D A (w u) → va_S A s.heap H1 locs1 → W p l e R s m args below meth c H1 locs1 (cells + mc) (slots + ms) Q (F0 m (pc + 3) ls rest)) : W p l e R s m args below meth c H locs cells slots Q (F0 m pc ls st0) :=
  va_callv hr hS (fun q _ h => w_free (D := D) (tys := tys) hD hS hA q h) (w_free (D := D) (tys := tys) hD hS hA) (fun u t H1 locs1 ht hvm hw hB hz hk hS1 => kk u H1 locs1 hw (by rw [← ht]; exact hB.1) (hB.2.2.weaken (fun _ q _ h => w_free (D := D) (tys := tys) hD hS hA q.1 h)) hS1)
theorem call_r {S : Type} {post : Nat → S → Prop} {w : S → va_W} (hr : va_Run p l e R s m args below meth c H locs cells slots mc ms (F0 m pc ls st0) rest (QR D tys post w (va_A ws H.size) a) (va_A ws H.size)) (hD : va_D A ws) (hS : va_S A s.heap H locs) (hA : ∀ q, s.heap.size ≤ q → A q)
    (kk : ∀ (r : Nat) (u : S) (H1 : Heap) (locs1 : List Loc), post r u → va_P D vwCl (w u) H1 → va_D A (w u) → va_S A s.heap H1 locs1 → W p l e R s m args below meth c H1 locs1 (cells + mc) (slots + ms) Q (F0 m (pc + 3) ls (.ref r :: rest))) : W p l e R s m args below meth c H locs cells slots Q (F0 m pc ls st0) :=
  va_callr hr hS (fun q _ h => w_free (D := D) (tys := tys) hD hS hA q h) (w_free (D := D) (tys := tys) hD hS hA) (fun u r t H1 locs1 ht hvm hw hB hz hk hS1 => kk r u H1 locs1 hB.1 (by rw [← ht]; exact hB.2.1) (hB.2.2.2.weaken (fun _ q _ h => w_free (D := D) (tys := tys) hD hS hA q.1 h)) hS1)
theorem end_i {S : Type} {post : Int32 → S → Prop} {w : S → va_W} {u : S} {v : Int32} (hx : p.tables.exec = Jvm.exec) (hb : c.code = cc) (hr : meth.sig.returnType = some .int) (hlocks : meth.locks = false) (hdg : decode cc pc = .ok (.ireturn, 1)) (hK : va_K D vwCl tys s) (hP : va_P D vwCl (w u) H) (hD : va_D A (w u)) (hS : va_S A s.heap H locs) (hq : post v u) (hc : cells ≤ mc) (hs : slots ≤ ms) :
    W p l e R s m args below meth c H locs cells slots (MQ below (QI D tys post w A) args s mc ms A) (F0 m pc ls [.int v]) :=
  W.widen hc hs (W.iret (v := v) hx hb hr (fun t ht hW => ⟨⟨v, u, rfl, hq, by rw [ht]; exact hP, va_K.moved hW.alike hK, hD⟩, hS.F ht⟩) hS.2.2 hdg hlocks)
theorem end_z {S : Type} {post : Int32 → S → Prop} {w : S → va_W} {u : S} {v : Int32} (hx : p.tables.exec = Jvm.exec) (hb : c.code = cc) (hr : meth.sig.returnType = some .boolean) (hlocks : meth.locks = false) (hdg : decode cc pc = .ok (.ireturn, 1)) (hK : va_K D vwCl tys s) (hP : va_P D vwCl (w u) H) (hD : va_D A (w u)) (hS : va_S A s.heap H locs) (hn : narrow .boolean (.int v) = .int v) (hq : post v u) (hc : cells ≤ mc) (hs : slots ≤ ms) :
    W p l e R s m args below meth c H locs cells slots (MQ below (QI D tys post w A) args s mc ms A) (F0 m pc ls [.int v]) :=
  W.widen hc hs (W.zret (v := v) hx hb hr hn (fun t ht hW => ⟨⟨v, u, rfl, hq, by rw [ht]; exact hP, va_K.moved hW.alike hK, hD⟩, hS.F ht⟩) hS.2.2 hdg hlocks)
theorem end_v {S : Type} {post : S → Prop} {w : S → va_W} {u : S} (hx : p.tables.exec = Jvm.exec) (hb : c.code = cc) (hr : meth.sig.returnType = none) (hlocks : meth.locks = false) (hdg : decode cc pc = .ok (.return_, 1)) (hK : va_K D vwCl tys s) (hP : va_P D vwCl (w u) H) (hD : va_D A (w u)) (hS : va_S A s.heap H locs) (hq : post u) (hc : cells ≤ mc) (hs : slots ≤ ms) :
    W p l e R s m args below meth c H locs cells slots (MQ below (QV D tys post w A) args s mc ms A) (F0 m pc ls []) :=
  W.widen hc hs (W.vret hx hb hr (fun t ht hW => ⟨⟨u, rfl, hq, by rw [ht]; exact hP, va_K.moved hW.alike hK, hD⟩, hS.F ht⟩) hS.2.2 hdg hlocks)
theorem end_r {S : Type} {post : Nat → S → Prop} {w : S → va_W} {u : S} {v : Nat} {rt : FieldType} (hx : p.tables.exec = Jvm.exec) (hb : c.code = cc) (hr : meth.sig.returnType = some rt) (hrt : (∃ n, rt = .object n) ∨ ∃ t, rt = .array t) (hlocks : meth.locks = false) (hdg : decode cc pc = .ok (.areturn, 1)) (hK : va_K D vwCl tys s) (hP : va_P D vwCl (w u) H) (hD : va_D A (w u)) (hS : va_S A s.heap H locs) (hq : post v u) (hc : cells ≤ mc) (hs : slots ≤ ms) :
    W p l e R s m args below meth c H locs cells slots (MQ below (QR D tys post w A) args s mc ms A) (F0 m pc ls [.ref v]) :=
  W.widen hc hs (W.aret (v := .ref v) hx hb hr hrt (Or.inr ⟨v, rfl⟩) (fun t ht hW => ⟨⟨u, v, rfl, trivial, hq, by rw [ht]; exact hP, va_K.moved hW.alike hK, hD⟩, hS.F ht⟩) hS.2.2 hdg hlocks)
end MyCalls
section MyRows
variable {p : Program} {l : Launch} {e : Env} {R : Room} {s : State} {m : MethodId} {args : Array Value} {below : List Frame} {meth : Method} {c : Code} {H : Heap} {locs : List Loc} {cells slots : Nat} {Q : State → Prop}
variable {cc : ByteArray} {pc : Nat} {ls : Array Slot} {rest : List Value} {D : va_G} {cl : List vw_C} {A : Nat → Prop} {a : Nat} {tys : List (ClassId × FieldType)} {ws : va_W} {H0 : Heap}
theorem to_i {x y : Int32} (h : x = y) (k : W p l e R s m args below meth c H locs cells slots Q (F0 m pc ls (.int y :: rest))) : W p l e R s m args below meth c H locs cells slots Q (F0 m pc ls (.int x :: rest)) := by rw [h]; exact k
theorem x_const {i : Int} {v : Int32} (hx : p.tables.exec = Jvm.exec) (hb : c.code = cc) (hdg : decode cc pc = .ok (.iconst i, 1)) (hv : Int32.ofInt i = v) (k : W p l e R s m args below meth c H locs cells slots Q (F0 m (pc + 1) ls (.int v :: rest))) : W p l e R s m args below meth c H locs cells slots Q (F0 m pc ls rest) := lv_iconst hx hb hdg hv k
theorem x_iald (hx : p.tables.exec = Jvm.exec) (hb : c.code = cc) (hK : va_K D cl tys s) (hP : va_P D cl ws H) (q0 t0 : Nat) {cA : ClassId} {n : Nat} {f : Nat → Int32} (ha : ws[q0]? = some (a, .inl (cA, n, .inl f))) (ht : tys[t0]? = some (cA, .int)) {t : Nat} (hin : t < n) (hn : n < 2 ^ 31) (hdg : decode cc pc = .ok (.iaload, 1))
    (kk : W p l e R s m args below meth c H locs cells slots Q (F0 m (pc + 1) ls (.int (f t) :: rest))) : W p l e R s m args below meth c H locs cells slots Q (F0 m pc ls (.int (nI t) :: .ref a :: rest)) :=
  va_iald hx hb hK hP q0 t0 ha ht (vp_in_nI hin hn) hdg (by rw [nI_clamp (Nat.lt_trans hin hn)]; exact kk)
theorem x_zald (hx : p.tables.exec = Jvm.exec) (hb : c.code = cc) (hK : va_K D cl tys s) (hP : va_P D cl ws H) (q0 t0 : Nat) {cA : ClassId} {n : Nat} {f : Nat → Int32} (ha : ws[q0]? = some (a, .inl (cA, n, .inl f))) (ht : tys[t0]? = some (cA, .boolean)) {t : Nat} (hin : t < n) (hn : n < 2 ^ 31) (hdg : decode cc pc = .ok (.baload, 1))
    (kk : W p l e R s m args below meth c H locs cells slots Q (F0 m (pc + 1) ls (.int (f t) :: rest))) : W p l e R s m args below meth c H locs cells slots Q (F0 m pc ls (.int (nI t) :: .ref a :: rest)) :=
  va_zald hx hb hK hP q0 t0 ha ht (vp_in_nI hin hn) hdg (by rw [nI_clamp (Nat.lt_trans hin hn)]; exact kk)
theorem x_aald (hx : p.tables.exec = Jvm.exec) (hb : c.code = cc) (hK : va_K D cl tys s) (hP : va_P D cl ws H) (q0 t0 : Nat) {cA : ClassId} {C : String} {n : Nat} {f : Nat → Option Nat} (ha : ws[q0]? = some (a, .inl (cA, n, .inr (.inr (.inr (.inr f)))))) (ht : tys[t0]? = some (cA, .object C)) {t : Nat} (hin : t < n) (hn : n < 2 ^ 31) (hdg : decode cc pc = .ok (.aaload, 1))
    (kk : W p l e R s m args below meth c H locs cells slots Q (F0 m (pc + 1) ls (va_rf (f t) :: rest))) : W p l e R s m args below meth c H locs cells slots Q (F0 m pc ls (.int (nI t) :: .ref a :: rest)) :=
  va_aldq hx hb hK hP q0 t0 ha ht (vp_in_nI hin hn) hdg (by rw [nI_clamp (Nat.lt_trans hin hn)]; exact kk)
theorem x_aaldA (hx : p.tables.exec = Jvm.exec) (hb : c.code = cc) (hK : va_K D cl tys s) (hP : va_P D cl ws H) (q0 t0 : Nat) {cA : ClassId} {ty : FieldType} {n : Nat} {f : Nat → Option Nat} (ha : ws[q0]? = some (a, .inl (cA, n, .inr (.inr (.inr (.inr f)))))) (ht : tys[t0]? = some (cA, .array ty)) {t : Nat} (hin : t < n) (hn : n < 2 ^ 31) (hdg : decode cc pc = .ok (.aaload, 1))
    (kk : W p l e R s m args below meth c H locs cells slots Q (F0 m (pc + 1) ls (va_rf (f t) :: rest))) : W p l e R s m args below meth c H locs cells slots Q (F0 m pc ls (.int (nI t) :: .ref a :: rest)) := by
  have ec : (nI t).toNatClampNeg = t := nI_clamp (Nat.lt_trans hin hn)
  exact W.aald (v := va_rf (f t)) (ty := .array ty) hx hb (hP q0 _ ha) ((hK.2 t0 _ ht).1 n (fun j => va_rf (f j))) rfl (fun q => by cases q) (by show ¬ (nI t < 0 ∨ (arrV _ _ _).slots.size ≤ _); rw [arrV_size]; exact vp_in_nI hin hn) (by show (arrV _ _ _).slots[_]? = _; rw [ec, arrV_read _ _ hin]) rfl rfl hdg kk
theorem x_iast (hx : p.tables.exec = Jvm.exec) (hb : c.code = cc) (hK : va_K D cl tys s) (hP : va_P D cl ws H) (hD : va_D A ws) (hS : va_S A H0 H locs) (q0 t0 : Nat) {cA : ClassId} {n : Nat} {f : Nat → Int32} (ha : ws[q0]? = some (a, .inl (cA, n, .inl f))) (ht : tys[t0]? = some (cA, .int)) {t : Nat} {x : Int32} (hin : t < n) (hn : n < 2 ^ 31) (hdg : decode cc pc = .ok (.iastore, 1))
    (kk : ∀ (H1 : Heap) (locs1 : List Loc), va_P D cl (ws.set q0 (a, .inl (cA, n, .inl (upd f t x)))) H1 → va_D A (ws.set q0 (a, .inl (cA, n, .inl (upd f t x)))) → va_S A H0 H1 locs1 → W p l e R s m args below meth c H1 locs1 cells slots Q (F0 m (pc + 1) ls rest)) : W p l e R s m args below meth c H locs cells slots Q (F0 m pc ls (.int x :: .int (nI t) :: .ref a :: rest)) :=
  va_iast hx hb hK hP hD hS q0 t0 ha ht (vp_in_nI hin hn) hdg (by rw [nI_clamp (Nat.lt_trans hin hn)]; exact kk)
theorem x_zast (hx : p.tables.exec = Jvm.exec) (hb : c.code = cc) (hK : va_K D cl tys s) (hP : va_P D cl ws H) (hD : va_D A ws) (hS : va_S A H0 H locs) (q0 t0 : Nat) {cA : ClassId} {n : Nat} {f : Nat → Int32} (ha : ws[q0]? = some (a, .inl (cA, n, .inl f))) (ht : tys[t0]? = some (cA, .boolean)) {t : Nat} {x : Int32} (hin : t < n) (hn : n < 2 ^ 31) (hv : vp_nar .boolean x = x) (hdg : decode cc pc = .ok (.bastore, 1))
    (kk : ∀ (H1 : Heap) (locs1 : List Loc), va_P D cl (ws.set q0 (a, .inl (cA, n, .inl (upd f t x)))) H1 → va_D A (ws.set q0 (a, .inl (cA, n, .inl (upd f t x)))) → va_S A H0 H1 locs1 → W p l e R s m args below meth c H1 locs1 cells slots Q (F0 m (pc + 1) ls rest)) : W p l e R s m args below meth c H locs cells slots Q (F0 m pc ls (.int x :: .int (nI t) :: .ref a :: rest)) :=
  va_zast hx hb hK hP hD hS q0 t0 ha ht (vp_in_nI hin hn) hdg (by rw [nI_clamp (Nat.lt_trans hin hn), hv]; exact kk)
theorem n_ge {x y : Nat} (hx : p.tables.exec = Jvm.exec) (hb : c.code = cc) {off : Int} {tgt : Nat} (hdg : decode cc pc = .ok (.if_icmp .ge off, 3)) (ht : (pc : Int) + off = (tgt : Int)) (h1 : x < 2 ^ 31) (h2 : y < 2 ^ 31)
    (kt : y ≤ x → W p l e R s m args below meth c H locs cells slots Q (F0 m tgt ls rest)) (kf : x < y → W p l e R s m args below meth c H locs cells slots Q (F0 m (pc + 3) ls rest)) : W p l e R s m args below meth c H locs cells slots Q (F0 m pc ls (.int (nI y) :: .int (nI x) :: rest)) :=
  lv_icmp_ge hx hb hdg ht (fun h => kt ((nI_leI h2 h1).mp h)) (fun h => kf (Nat.lt_of_not_le fun q => h ((nI_leI h2 h1).mpr q)))
theorem n_eq {x y : Nat} (hx : p.tables.exec = Jvm.exec) (hb : c.code = cc) {off : Int} {tgt : Nat} (hdg : decode cc pc = .ok (.if_icmp .eq off, 3)) (ht : (pc : Int) + off = (tgt : Int)) (h1 : x < 2 ^ 31) (h2 : y < 2 ^ 31)
    (kt : x = y → W p l e R s m args below meth c H locs cells slots Q (F0 m tgt ls rest)) (kf : ¬ x = y → W p l e R s m args below meth c H locs cells slots Q (F0 m (pc + 3) ls rest)) : W p l e R s m args below meth c H locs cells slots Q (F0 m pc ls (.int (nI y) :: .int (nI x) :: rest)) :=
  lv_icmp_eq hx hb hdg ht (fun h => kt ((nI_eq h1 h2).mp h)) (fun h => kf (fun q => h ((nI_eq h1 h2).mpr q)))
theorem n_ne {x y : Nat} (hx : p.tables.exec = Jvm.exec) (hb : c.code = cc) {off : Int} {tgt : Nat} (hdg : decode cc pc = .ok (.if_icmp .ne off, 3)) (ht : (pc : Int) + off = (tgt : Int)) (h1 : x < 2 ^ 31) (h2 : y < 2 ^ 31)
    (kt : ¬ x = y → W p l e R s m args below meth c H locs cells slots Q (F0 m tgt ls rest)) (kf : x = y → W p l e R s m args below meth c H locs cells slots Q (F0 m (pc + 3) ls rest)) : W p l e R s m args below meth c H locs cells slots Q (F0 m pc ls (.int (nI y) :: .int (nI x) :: rest)) :=
  lv_icmp_ne hx hb hdg ht (fun h => kt (fun q => h ((nI_eq h1 h2).mpr q))) (fun h => kf ((nI_eq h1 h2).mp h))
theorem n_if_eq {x : Nat} (hx : p.tables.exec = Jvm.exec) (hb : c.code = cc) {off : Int} {tgt : Nat} (hdg : decode cc pc = .ok (.ifCond .eq off, 3)) (ht : (pc : Int) + off = (tgt : Int)) (h1 : x < 2 ^ 31)
    (kt : x = 0 → W p l e R s m args below meth c H locs cells slots Q (F0 m tgt ls rest)) (kf : ¬ x = 0 → W p l e R s m args below meth c H locs cells slots Q (F0 m (pc + 3) ls rest)) : W p l e R s m args below meth c H locs cells slots Q (F0 m pc ls (.int (nI x) :: rest)) :=
  lv_if_eq hx hb hdg ht (fun h => kt ((nI_eq h1 (by decide)).mp (h.trans nI_0.symm))) (fun h => kf (fun q => h ((congrArg nI q).trans nI_0)))
theorem n_if_ne {x : Nat} (hx : p.tables.exec = Jvm.exec) (hb : c.code = cc) {off : Int} {tgt : Nat} (hdg : decode cc pc = .ok (.ifCond .ne off, 3)) (ht : (pc : Int) + off = (tgt : Int)) (h1 : x < 2 ^ 31)
    (kt : ¬ x = 0 → W p l e R s m args below meth c H locs cells slots Q (F0 m tgt ls rest)) (kf : x = 0 → W p l e R s m args below meth c H locs cells slots Q (F0 m (pc + 3) ls rest)) : W p l e R s m args below meth c H locs cells slots Q (F0 m pc ls (.int (nI x) :: rest)) :=
  lv_if_ne hx hb hdg ht (fun h => kt (fun q => h ((congrArg nI q).trans nI_0))) (fun h => kf ((nI_eq h1 (by decide)).mp (h.trans nI_0.symm)))
theorem n_if_le {x : Nat} (hx : p.tables.exec = Jvm.exec) (hb : c.code = cc) {off : Int} {tgt : Nat} (hdg : decode cc pc = .ok (.ifCond .le off, 3)) (ht : (pc : Int) + off = (tgt : Int)) (h1 : x < 2 ^ 31)
    (kt : x = 0 → W p l e R s m args below meth c H locs cells slots Q (F0 m tgt ls rest)) (kf : 0 < x → W p l e R s m args below meth c H locs cells slots Q (F0 m (pc + 3) ls rest)) : W p l e R s m args below meth c H locs cells slots Q (F0 m pc ls (.int (nI x) :: rest)) :=
  lv_if_le hx hb hdg ht (fun h => kt (by have h2 := (nI_leI h1 (show (0 : Nat) < 2 ^ 31 by decide)).mp (by rw [nI_0]; exact h); omega)) (fun h => kf (by
    rcases Nat.eq_zero_or_pos x with q | q
    · exact absurd (by rw [q, nI_0]; decide) h
    · exact q))
theorem n_if_gt {x : Nat} (hx : p.tables.exec = Jvm.exec) (hb : c.code = cc) {off : Int} {tgt : Nat} (hdg : decode cc pc = .ok (.ifCond .gt off, 3)) (ht : (pc : Int) + off = (tgt : Int)) (h1 : x < 2 ^ 31)
    (kt : 0 < x → W p l e R s m args below meth c H locs cells slots Q (F0 m tgt ls rest)) (kf : x = 0 → W p l e R s m args below meth c H locs cells slots Q (F0 m (pc + 3) ls rest)) : W p l e R s m args below meth c H locs cells slots Q (F0 m pc ls (.int (nI x) :: rest)) :=
  lv_if_gt hx hb hdg ht (fun h => kt (by
    rcases Nat.eq_zero_or_pos x with q | q
    · exact absurd h (by rw [q, nI_0]; decide)
    · exact q)) (fun h => kf (by
    rcases Nat.eq_zero_or_pos x with q | q
    · exact q
    · exact absurd (by have h2 := (nI_ltI (show (0 : Nat) < 2 ^ 31 by decide) h1).mpr q; rw [nI_0] at h2; exact h2) h))
theorem n_lt {x y : Nat} (hx : p.tables.exec = Jvm.exec) (hb : c.code = cc) {off : Int} {tgt : Nat} (hdg : decode cc pc = .ok (.if_icmp .lt off, 3)) (ht : (pc : Int) + off = (tgt : Int)) (h1 : x < 2 ^ 31) (h2 : y < 2 ^ 31)
    (kt : x < y → W p l e R s m args below meth c H locs cells slots Q (F0 m tgt ls rest)) (kf : y ≤ x → W p l e R s m args below meth c H locs cells slots Q (F0 m (pc + 3) ls rest)) : W p l e R s m args below meth c H locs cells slots Q (F0 m pc ls (.int (nI y) :: .int (nI x) :: rest)) :=
  lv_icmp_lt hx hb hdg ht (fun h => kt ((nI_ltI h1 h2).mp h)) (fun h => kf (Nat.le_of_not_lt fun q => h ((nI_ltI h1 h2).mpr q)))
end MyRows
end
section
/-! the reference: its world, its contracts -/
abbrev tyL (cy : Nat → ClassId) : List (ClassId × FieldType) := [(cy 0, .int), (cy 1, .boolean), (cy 2, .object "ClauseShop$Version"), (cy 3, .object "java/lang/Object"), (cy 4, .array .int), (cy 5, .long)]
theorem upd_nI (f : Nat → Nat) (t v : Nat) : upd (fun j => nI (f j)) t (nI v) = fun j => nI (va_up f t v j) := by
  funext j
  by_cases h : j = t <;> simp [upd, va_up, h]
theorem pk_m1s (n : Nat) : nI (n + 1) - nI 1 = nI n := by
  have h := nI_pred n
  exact h
abbrev MS : Type := (Nat → Int32) × (Nat → Nat) × (Nat → Nat → Int32) × (Nat → Nat → Nat)
/-- the cells of the reference: its object, its rows (T: rows of naturals; R: other rows; C: naturals; F: thrown, day) -/
def mw (ad : Nat → Nat) (cy : Nat → ClassId) (F : Nat → Int32) (C : Nat → Nat) (R : Nat → Nat → Int32) (T : Nat → Nat → Nat) : va_W := [(ad 0, .inr (5, [.int (F 0), .int (F 1), .ref (ad 2), .ref (ad 3), .ref (ad 4), .ref (ad 5), .ref (ad 6), .ref (ad 7), .ref (ad 8), .int (nI (C 9)), .ref (ad 10), .ref (ad 11), .ref (ad 12), .ref (ad 13), .int (nI (C 14)), .ref (ad 15), .ref (ad 16), .ref (ad 17), .ref (ad 18), .ref (ad 19), .ref (ad 20), .ref (ad 21)])),
  (ad 2, .inl (cy 0, 10, .inl (fun j => nI (T 2 j)))),
  (ad 3, .inl (cy 0, 90, .inl (R 3))),
  (ad 4, .inl (cy 0, 90, .inl (R 4))),
  (ad 5, .inl (cy 0, 90, .inl (R 5))),
  (ad 6, .inl (cy 0, 90, .inl (R 6))),
  (ad 7, .inl (cy 0, 10, .inl (R 7))),
  (ad 8, .inl (cy 0, 10, .inl (R 8))),
  (ad 10, .inl (cy 1, 10, .inl (R 10))),
  (ad 11, .inl (cy 0, 10, .inl (R 11))),
  (ad 12, .inl (cy 0, 100, .inl (fun j => nI (T 12 j)))),
  (ad 13, .inl (cy 0, 200, .inl (R 13))),
  (ad 15, .inl (cy 0, 100, .inl (fun j => nI (T 15 j)))),
  (ad 16, .inl (cy 0, 100, .inl (R 16))),
  (ad 17, .inl (cy 0, 100, .inl (R 17))),
  (ad 18, .inl (cy 0, 100, .inl (R 18))),
  (ad 19, .inl (cy 0, 100, .inl (R 19))),
  (ad 20, .inl (cy 0, 100, .inl (R 20))),
  (ad 21, .inl (cy 1, 100, .inl (R 21)))]
def mwU (ad : Nat → Nat) (cy : Nat → ClassId) (u : MS) : va_W := mw ad cy u.1 u.2.1 u.2.2.1 u.2.2.2
theorem cl_of {x : Int32} (h : (0 : Int32) ≤ x ∧ x ≤ 9) : ∃ j : Nat, j < 10 ∧ x = nI j ∧ (nI j).toNatClampNeg = j := by
  obtain ⟨j, h1, h2⟩ := nI_of2 (x := x) (M := 9) (n := 9) (by decide) (fun q => Int32.not_lt.mpr h.1 q) h.2
  exact ⟨j, by omega, h2, nI_clamp (by omega)⟩
theorem sd_of {x : Int32} (h : (0 : Int32) ≤ x ∧ x ≤ 1) : ∃ j : Nat, j < 2 ∧ x = nI j ∧ (nI j).toNatClampNeg = j := by
  obtain ⟨j, h1, h2⟩ := nI_of2 (x := x) (M := 1) (n := 1) (by decide) (fun q => Int32.not_lt.mpr h.1 q) h.2
  exact ⟨j, by omega, h2, nI_clamp (by omega)⟩

set_option maxHeartbeats 4000000 in
set_option maxRecDepth 100000 in
/-- v in low .. high -/
theorem qX4_in (l : Launch) (dC : Nat → ClassId) (dI : Nat → Nat → Nat) (cy : Nat → ClassId) (ws : va_W) (sz : Nat) (v lo hi : Int32) : Met l yX4_in wsX4_in ({ frames := 0, cells := 0, slots := 0, locals := 0 }) (va_Pc [.int v, .int lo, .int hi] (wPre (dC, dI) (tyL cy) (ws) sz)) (QI (dC, dI) (tyL cy) (fun (r : Int32) (_ : Unit) => r = bi (lo ≤ v ∧ v ≤ hi)) (fun _ => ws) (va_A (ws) sz)) 0 0 (va_A (ws) sz) := by
  refine en (cc := cX4_in) (maxL := 3) (ret := (some .boolean)) (own := RX4) (lv := [(0, .int v), (1, .int lo), (2, .int hi)]) (by decide) rfl rfl (Nat.le_of_ble_eq_true rfl) rfl ?_
  intro p e s m below meth c ls A H locs hx hb hr hts hown hlocks hml hin hsz hK hP hD hS hA hl
  generalize hQQ : MQ below _ _ s _ _ A = QQ
  refine lv_iload_n hx hb dX4_in_0 rfl (lv_at hl 0 rfl) ?_
  refine lv_iload_n hx hb dX4_in_1 rfl (lv_at hl 1 rfl) ?_
  refine lv_icmp_lt (tgt := 14) hx hb dX4_in_2 (by decide) (fun c_1 => ?_) (fun c_1 => ?_)
  · refine lv_iconst (v := nI 0) hx hb dX4_in_14 (by decide) ?_
    rw [← hQQ]; exact end_z (u := ()) hx hb hr hlocks dX4_in_15 hK hP hD hS (by rfl) (bi_f (fun q => absurd c_1 (Int32.not_lt.mpr q.1))).symm (Nat.zero_le _) (Nat.zero_le _)
  · refine lv_iload_n hx hb dX4_in_5 rfl (lv_at hl 0 rfl) ?_
    refine lv_iload_n hx hb dX4_in_6 rfl (lv_at hl 2 rfl) ?_
    refine lv_icmp_gt (tgt := 14) hx hb dX4_in_7 (by decide) (fun c_2 => ?_) (fun c_2 => ?_)
    · refine lv_iconst (v := nI 0) hx hb dX4_in_14 (by decide) ?_
      rw [← hQQ]; exact end_z (u := ()) hx hb hr hlocks dX4_in_15 hK hP hD hS (by rfl) (bi_f (fun q => absurd c_2 (Int32.not_lt.mpr q.2))).symm (Nat.zero_le _) (Nat.zero_le _)
    · refine lv_iconst (v := nI 1) hx hb dX4_in_10 (by decide) ?_
      refine lv_goto (tgt := 15) hx hb dX4_in_11 (by decide) ?_
      rw [← hQQ]; exact end_z (u := ()) hx hb hr hlocks dX4_in_15 hK hP hD hS (by rfl) (bi_t ⟨Int32.not_lt.mp c_1, Int32.not_lt.mp c_2⟩).symm (Nat.zero_le _) (Nat.zero_le _)

set_option maxHeartbeats 4000000 in
set_option maxRecDepth 100000 in
/-- a clause -/
theorem qX4_isClause (l : Launch) (dC : Nat → ClassId) (dI : Nat → Nat → Nat) (cy : Nat → ClassId) (ws : va_W) (sz : Nat) (x : Int32) : Met l yX4_isClause wsX4_isClause ({ frames := 1, cells := 0, slots := 0, locals := 22 }) (va_Pc [.int x] (wPre (dC, dI) (tyL cy) (ws) sz)) (QI (dC, dI) (tyL cy) (fun (r : Int32) (_ : Unit) => r = bi ((0 : Int32) ≤ x ∧ x ≤ 9)) (fun _ => ws) (va_A (ws) sz)) 0 0 (va_A (ws) sz) := by
  refine en (cc := cX4_isClause) (maxL := 1) (ret := (some .boolean)) (own := RX4) (lv := [(0, .int x)]) (by decide) rfl rfl (Nat.le_of_ble_eq_true rfl) rfl ?_
  intro p e s m below meth c ls A H locs hx hb hr hts hown hlocks hml hin hsz hK hP hD hS hA hl
  generalize hQQ : MQ below _ _ s _ _ A = QQ
  refine lv_iload_n hx hb dX4_isClause_0 rfl (lv_at hl 0 rfl) ?_
  refine lv_iconst (v := nI 0) hx hb dX4_isClause_1 (by decide) ?_
  refine lv_bipush (v := nI 9) hx hb dX4_isClause_2 (by decide) ?_
  refine call_i (va_runS (As := [.int x, .int (nI 0), .int (nI 9)]) (rest := []) ⟨hx, hb, hml, hown, hts⟩ (qX4_in l dC dI cy ws H.size x (nI 0) (nI 9)) (va_cwS 3 hts gX4_isClause_X4_in rfl rfl rfl (by decide +kernel) ⟨Nat.le_of_ble_eq_true rfl, Nat.le_of_ble_eq_true rfl⟩) (preS hK hP hD) rfl rfl hl.1 rfl (lv_room (Nat.le_of_ble_eq_true rfl)) dX4_isClause_4 ⟨Nat.zero_le _, Nat.zero_le _⟩) hD hS hA (fun r_1 u H locs w_2 hP hD hS => ?_)
  subst w_2
  have hP : va_P (dC, dI) vwCl ws H := hP
  have hD : va_D A ws := hD
  rw [← hQQ]; exact end_z (u := ()) hx hb hr hlocks dX4_isClause_7 hK hP hD hS bi_nar rfl (Nat.zero_le _) (Nat.zero_le _)

set_option maxHeartbeats 4000000 in
set_option maxRecDepth 100000 in
/-- a side -/
theorem qX4_isSide (l : Launch) (dC : Nat → ClassId) (dI : Nat → Nat → Nat) (cy : Nat → ClassId) (ws : va_W) (sz : Nat) (x : Int32) : Met l yX4_isSide wsX4_isSide ({ frames := 1, cells := 0, slots := 0, locals := 22 }) (va_Pc [.int x] (wPre (dC, dI) (tyL cy) (ws) sz)) (QI (dC, dI) (tyL cy) (fun (r : Int32) (_ : Unit) => r = bi ((0 : Int32) ≤ x ∧ x ≤ 1)) (fun _ => ws) (va_A (ws) sz)) 0 0 (va_A (ws) sz) := by
  refine en (cc := cX4_isSide) (maxL := 1) (ret := (some .boolean)) (own := RX4) (lv := [(0, .int x)]) (by decide) rfl rfl (Nat.le_of_ble_eq_true rfl) rfl ?_
  intro p e s m below meth c ls A H locs hx hb hr hts hown hlocks hml hin hsz hK hP hD hS hA hl
  generalize hQQ : MQ below _ _ s _ _ A = QQ
  refine lv_iload_n hx hb dX4_isSide_0 rfl (lv_at hl 0 rfl) ?_
  refine lv_iconst (v := nI 0) hx hb dX4_isSide_1 (by decide) ?_
  refine lv_iconst (v := nI 1) hx hb dX4_isSide_2 (by decide) ?_
  refine call_i (va_runS (As := [.int x, .int (nI 0), .int (nI 1)]) (rest := []) ⟨hx, hb, hml, hown, hts⟩ (qX4_in l dC dI cy ws H.size x (nI 0) (nI 1)) (va_cwS 3 hts gX4_isSide_X4_in rfl rfl rfl (by decide +kernel) ⟨Nat.le_of_ble_eq_true rfl, Nat.le_of_ble_eq_true rfl⟩) (preS hK hP hD) rfl rfl hl.1 rfl (lv_room (Nat.le_of_ble_eq_true rfl)) dX4_isSide_3 ⟨Nat.zero_le _, Nat.zero_le _⟩) hD hS hA (fun r_1 u H locs w_2 hP hD hS => ?_)
  subst w_2
  have hP : va_P (dC, dI) vwCl ws H := hP
  have hD : va_D A ws := hD
  rw [← hQQ]; exact end_z (u := ()) hx hb hr hlocks dX4_isSide_6 hK hP hD hS bi_nar rfl (Nat.zero_le _) (Nat.zero_le _)

set_option maxHeartbeats 4000000 in
set_option maxRecDepth 100000 in
/-- which exception -/
theorem qX4_thrown (l : Launch) (dC : Nat → ClassId) (dI : Nat → Nat → Nat) (cy : Nat → ClassId) (ad : Nat → Nat) (F : Nat → Int32) (C : Nat → Nat) (R : Nat → Nat → Int32) (T : Nat → Nat → Nat) (sz : Nat) : Met l yX4_thrown wsX4_thrown ({ frames := 0, cells := 0, slots := 0, locals := 0 }) (va_Pc [.ref ((ad 0))] (wPre (dC, dI) (tyL cy) (mw ad cy F C R T) sz)) (QI (dC, dI) (tyL cy) (fun (r : Int32) (u : MS) => r = F 0 ∧ u = (F, C, R, T)) (mwU ad cy) (va_A (mw ad cy F C R T) sz)) 0 0 (va_A (mw ad cy F C R T) sz) := by
  refine en (cc := cX4_thrown) (maxL := 1) (ret := (some .int)) (own := RX4) (lv := [(0, .ref ((ad 0)))]) (by decide) rfl rfl (Nat.le_of_ble_eq_true rfl) rfl ?_
  intro p e s m below meth c ls A H locs hx hb hr hts hown hlocks hml hin hsz hK hP hD hS hA hl
  generalize hQQ : MQ below _ _ s _ _ A = QQ
  have inM : ∀ w ∈ wsX40, w ∈ wsX4_thrown := fun _ h => List.mem_cons_of_mem _ (List.mem_append_right _ h)
  have k0 : (Cond.fieldLink RX4 65 "ClauseShopModel" "thrown" "I").before (([.ref ((ad 0))] : List Value).toArray) s = true := hts _ (List.mem_of_getElem? (i := 1) rfl)
  refine lv_aload_n hx hb dX4_thrown_0 rfl (lv_at hl 0 rfl) ?_
  refine va_get (D := (dC, dI)) (ci := 5) (v := .int (F 0)) (C := RX4) (T := TX4) (N := 22) hx hb hts inM hown hK hP 0 rfl rfl 0 (by decide) k0 (fun _ h9 => h9) rfl dX4_thrown_1 ?_
  rw [← hQQ]; exact end_i (u := (F, C, R, T)) hx hb hr hlocks dX4_thrown_4 hK hP hD hS ⟨rfl, rfl⟩ (Nat.zero_le _) (Nat.zero_le _)

set_option maxHeartbeats 4000000 in
set_option maxRecDepth 100000 in
/-- isContract -/
theorem qX4_isContract (l : Launch) (dC : Nat → ClassId) (dI : Nat → Nat → Nat) (cy : Nat → ClassId) (ad : Nat → Nat) (F : Nat → Int32) (C : Nat → Nat) (R : Nat → Nat → Int32) (T : Nat → Nat → Nat) (sz : Nat) (x : Int32) : Met l yX4_isContract wsX4_isContract ({ frames := 1, cells := 0, slots := 0, locals := 22 }) (va_Pc [.ref ((ad 0)), .int x] (wPre (dC, dI) (tyL cy) (mw ad cy F C R T) sz)) (QI (dC, dI) (tyL cy) (fun (r : Int32) (u : MS) => r = bi ((0 : Int32) ≤ x ∧ x ≤ nI (C 9) - 1) ∧ u = (F, C, R, T)) (mwU ad cy) (va_A (mw ad cy F C R T) sz)) 0 0 (va_A (mw ad cy F C R T) sz) := by
  refine en (cc := cX4_isContract) (maxL := 2) (ret := (some .boolean)) (own := RX4) (lv := [(0, .ref ((ad 0))), (1, .int x)]) (by decide) rfl rfl (Nat.le_of_ble_eq_true rfl) rfl ?_
  intro p e s m below meth c ls A H locs hx hb hr hts hown hlocks hml hin hsz hK hP hD hS hA hl
  generalize hQQ : MQ below _ _ s _ _ A = QQ
  have inM : ∀ w ∈ wsX40, w ∈ wsX4_isContract := fun _ h => List.mem_cons_of_mem _ (List.mem_append_right _ h)
  have k0 : (Cond.fieldLink RX4 73 "ClauseShopModel" "contracts" "I").before (([.ref ((ad 0)), .int x] : List Value).toArray) s = true := hts _ (List.mem_of_getElem? (i := 1) rfl)
  refine lv_iload_n hx hb dX4_isContract_0 rfl (lv_at hl 1 rfl) ?_
  refine lv_iconst (v := nI 0) hx hb dX4_isContract_1 (by decide) ?_
  refine lv_aload_n hx hb dX4_isContract_2 rfl (lv_at hl 0 rfl) ?_
  refine va_get (D := (dC, dI)) (ci := 5) (v := .int (nI (C 9))) (C := RX4) (T := TX4) (N := 22) hx hb hts inM hown hK hP 0 rfl rfl 9 (by decide) k0 (fun _ h9 => h9) rfl dX4_isContract_3 ?_
  refine lv_iconst (v := nI 1) hx hb dX4_isContract_6 (by decide) ?_
  refine lv_isub hx hb dX4_isContract_7 ?_
  refine call_i (va_runS (As := [.int x, .int (nI 0), .int ((nI (C 9)) - (nI 1))]) (rest := []) ⟨hx, hb, hml, hown, hts⟩ (qX4_in l dC dI cy (mw ad cy F C R T) H.size x (nI 0) ((nI (C 9)) - (nI 1))) (va_cwS 3 hts gX4_isContract_X4_in rfl rfl rfl (by decide +kernel) ⟨Nat.le_of_ble_eq_true rfl, Nat.le_of_ble_eq_true rfl⟩) (preS hK hP hD) rfl rfl hl.1 rfl (lv_room (Nat.le_of_ble_eq_true rfl)) dX4_isContract_8 ⟨Nat.zero_le _, Nat.zero_le _⟩) hD hS hA (fun r_1 u H locs w_2 hP hD hS => ?_)
  subst w_2
  have hP : va_P (dC, dI) vwCl (mw ad cy F C R T) H := hP
  have hD : va_D A (mw ad cy F C R T) := hD
  rw [← hQQ]; exact end_z (u := (F, C, R, T)) hx hb hr hlocks dX4_isContract_11 hK hP hD hS bi_nar ⟨rfl, rfl⟩ (Nat.zero_le _) (Nat.zero_le _)

set_option maxHeartbeats 4000000 in
set_option maxRecDepth 100000 in
/-- isDuty -/
theorem qX4_isDuty (l : Launch) (dC : Nat → ClassId) (dI : Nat → Nat → Nat) (cy : Nat → ClassId) (ad : Nat → Nat) (F : Nat → Int32) (C : Nat → Nat) (R : Nat → Nat → Int32) (T : Nat → Nat → Nat) (sz : Nat) (x : Int32) : Met l yX4_isDuty wsX4_isDuty ({ frames := 1, cells := 0, slots := 0, locals := 22 }) (va_Pc [.ref ((ad 0)), .int x] (wPre (dC, dI) (tyL cy) (mw ad cy F C R T) sz)) (QI (dC, dI) (tyL cy) (fun (r : Int32) (u : MS) => r = bi ((0 : Int32) ≤ x ∧ x ≤ nI (C 14) - 1) ∧ u = (F, C, R, T)) (mwU ad cy) (va_A (mw ad cy F C R T) sz)) 0 0 (va_A (mw ad cy F C R T) sz) := by
  refine en (cc := cX4_isDuty) (maxL := 2) (ret := (some .boolean)) (own := RX4) (lv := [(0, .ref ((ad 0))), (1, .int x)]) (by decide) rfl rfl (Nat.le_of_ble_eq_true rfl) rfl ?_
  intro p e s m below meth c ls A H locs hx hb hr hts hown hlocks hml hin hsz hK hP hD hS hA hl
  generalize hQQ : MQ below _ _ s _ _ A = QQ
  have inM : ∀ w ∈ wsX40, w ∈ wsX4_isDuty := fun _ h => List.mem_cons_of_mem _ (List.mem_append_right _ h)
  have k0 : (Cond.fieldLink RX4 76 "ClauseShopModel" "duties" "I").before (([.ref ((ad 0)), .int x] : List Value).toArray) s = true := hts _ (List.mem_of_getElem? (i := 1) rfl)
  refine lv_iload_n hx hb dX4_isDuty_0 rfl (lv_at hl 1 rfl) ?_
  refine lv_iconst (v := nI 0) hx hb dX4_isDuty_1 (by decide) ?_
  refine lv_aload_n hx hb dX4_isDuty_2 rfl (lv_at hl 0 rfl) ?_
  refine va_get (D := (dC, dI)) (ci := 5) (v := .int (nI (C 14))) (C := RX4) (T := TX4) (N := 22) hx hb hts inM hown hK hP 0 rfl rfl 14 (by decide) k0 (fun _ h9 => h9) rfl dX4_isDuty_3 ?_
  refine lv_iconst (v := nI 1) hx hb dX4_isDuty_6 (by decide) ?_
  refine lv_isub hx hb dX4_isDuty_7 ?_
  refine call_i (va_runS (As := [.int x, .int (nI 0), .int ((nI (C 14)) - (nI 1))]) (rest := []) ⟨hx, hb, hml, hown, hts⟩ (qX4_in l dC dI cy (mw ad cy F C R T) H.size x (nI 0) ((nI (C 14)) - (nI 1))) (va_cwS 3 hts gX4_isDuty_X4_in rfl rfl rfl (by decide +kernel) ⟨Nat.le_of_ble_eq_true rfl, Nat.le_of_ble_eq_true rfl⟩) (preS hK hP hD) rfl rfl hl.1 rfl (lv_room (Nat.le_of_ble_eq_true rfl)) dX4_isDuty_8 ⟨Nat.zero_le _, Nat.zero_le _⟩) hD hS hA (fun r_1 u H locs w_2 hP hD hS => ?_)
  subst w_2
  have hP : va_P (dC, dI) vwCl (mw ad cy F C R T) H := hP
  have hD : va_D A (mw ad cy F C R T) := hD
  rw [← hQQ]; exact end_z (u := (F, C, R, T)) hx hb hr hlocks dX4_isDuty_11 hK hP hD hS bi_nar ⟨rfl, rfl⟩ (Nat.zero_le _) (Nat.zero_le _)

set_option maxHeartbeats 4000000 in
set_option maxRecDepth 100000 in
/-- the number of duties -/
theorem qX4_duties (l : Launch) (dC : Nat → ClassId) (dI : Nat → Nat → Nat) (cy : Nat → ClassId) (ad : Nat → Nat) (F : Nat → Int32) (C : Nat → Nat) (R : Nat → Nat → Int32) (T : Nat → Nat → Nat) (sz : Nat) : Met l yX4_duties wsX4_duties ({ frames := 0, cells := 0, slots := 0, locals := 0 }) (va_Pc [.ref ((ad 0))] (wPre (dC, dI) (tyL cy) (mw ad cy F C R T) sz)) (QI (dC, dI) (tyL cy) (fun (r : Int32) (u : MS) => r = nI (C 14) ∧ u = (va_up F 0 0, C, R, T)) (mwU ad cy) (va_A (mw ad cy F C R T) sz)) 0 0 (va_A (mw ad cy F C R T) sz) := by
  refine en (cc := cX4_duties) (maxL := 1) (ret := (some .int)) (own := RX4) (lv := [(0, .ref ((ad 0)))]) (by decide) rfl rfl (Nat.le_of_ble_eq_true rfl) rfl ?_
  intro p e s m below meth c ls A H locs hx hb hr hts hown hlocks hml hin hsz hK hP hD hS hA hl
  generalize hQQ : MQ below _ _ s _ _ A = QQ
  have inM : ∀ w ∈ wsX40, w ∈ wsX4_duties := fun _ h => List.mem_cons_of_mem _ (List.mem_append_right _ h)
  have k0 : (Cond.fieldLink RX4 65 "ClauseShopModel" "thrown" "I").before (([.ref ((ad 0))] : List Value).toArray) s = true := hts _ (List.mem_of_getElem? (i := 1) rfl)
  have k1 : (Cond.fieldLink RX4 76 "ClauseShopModel" "duties" "I").before (([.ref ((ad 0))] : List Value).toArray) s = true := hts _ (List.mem_of_getElem? (i := 2) rfl)
  refine lv_aload_n hx hb dX4_duties_0 rfl (lv_at hl 0 rfl) ?_
  refine lv_iconst (v := nI 0) hx hb dX4_duties_1 (by decide) ?_
  refine va_put (D := (dC, dI)) (ci := 5) (v := .int (nI 0)) (ty := .int) (C := RX4) (T := TX4) (N := 22) hx hb hts inM tyX4 tyX4_ok nmX4 hown hK hP hD hS 0 rfl rfl 0 (by decide) k0 (fun _ h9 => h9) rfl (by decide +kernel) rfl rfl (Nat.le_of_ble_eq_true rfl) dX4_duties_2 (fun H locs hP hD hS => ?_)
  have hP : va_P (dC, dI) vwCl (mw ad cy (va_up F 0 (nI 0)) C R T) H := hP
  have hD : va_D A (mw ad cy (va_up F 0 (nI 0)) C R T) := hD
  refine lv_aload_n hx hb dX4_duties_5 rfl (lv_at hl 0 rfl) ?_
  refine va_get (D := (dC, dI)) (ci := 5) (v := .int (nI (C 14))) (C := RX4) (T := TX4) (N := 22) hx hb hts inM hown hK hP 0 rfl rfl 14 (by decide) k1 (fun _ h9 => h9) rfl dX4_duties_6 ?_
  rw [← hQQ]; exact end_i (u := (va_up F 0 (nI 0), C, R, T)) hx hb hr hlocks dX4_duties_9 hK hP hD hS ⟨rfl, rfl⟩ (Nat.zero_le _) (Nat.zero_le _)

def M_begin (F : Nat → Int32) (C : Nat → Nat) (R : Nat → Nat → Int32) (T : Nat → Nat → Nat) : Int32 × MS :=
  if C 9 = 10 then (0, (va_up F 0 1, C, R, T)) else (nI (C 9), (va_up F 0 0, va_up C 9 (C 9 + 1), R, T))

set_option maxHeartbeats 4000000 in
set_option maxRecDepth 100000 in
/-- begin -/
theorem qX4_begin (l : Launch) (dC : Nat → ClassId) (dI : Nat → Nat → Nat) (cy : Nat → ClassId) (ad : Nat → Nat) (F : Nat → Int32) (C : Nat → Nat) (R : Nat → Nat → Int32) (T : Nat → Nat → Nat) (sz : Nat) (h9 : C 9 ≤ 10) : Met l yX4_begin wsX4_begin ({ frames := 0, cells := 0, slots := 0, locals := 0 }) (va_Pc [.ref ((ad 0))] (wPre (dC, dI) (tyL cy) (mw ad cy F C R T) sz)) (QI (dC, dI) (tyL cy) (fun (r : Int32) (u : MS) => (r, u) = M_begin F C R T) (mwU ad cy) (va_A (mw ad cy F C R T) sz)) 0 0 (va_A (mw ad cy F C R T) sz) := by
  refine en (cc := cX4_begin) (maxL := 1) (ret := (some .int)) (own := RX4) (lv := [(0, .ref ((ad 0)))]) (by decide) rfl rfl (Nat.le_of_ble_eq_true rfl) rfl ?_
  intro p e s m below meth c ls A H locs hx hb hr hts hown hlocks hml hin hsz hK hP hD hS hA hl
  generalize hQQ : MQ below _ _ s _ _ A = QQ
  have inM : ∀ w ∈ wsX40, w ∈ wsX4_begin := fun _ h => List.mem_cons_of_mem _ (List.mem_append_right _ h)
  have k0 : (Cond.fieldLink RX4 73 "ClauseShopModel" "contracts" "I").before (([.ref ((ad 0))] : List Value).toArray) s = true := hts _ (List.mem_of_getElem? (i := 1) rfl)
  have k1 : (Cond.fieldLink RX4 65 "ClauseShopModel" "thrown" "I").before (([.ref ((ad 0))] : List Value).toArray) s = true := hts _ (List.mem_of_getElem? (i := 2) rfl)
  refine lv_aload_n hx hb dX4_begin_0 rfl (lv_at hl 0 rfl) ?_
  refine lv_aload_n hx hb dX4_begin_1 rfl (lv_at hl 0 rfl) ?_
  refine va_get (D := (dC, dI)) (ci := 5) (v := .int (nI (C 9))) (C := RX4) (T := TX4) (N := 22) hx hb hts inM hown hK hP 0 rfl rfl 9 (by decide) k0 (fun _ h9 => h9) rfl dX4_begin_2 ?_
  refine lv_bipush (v := nI 10) hx hb dX4_begin_5 (by decide) ?_
  refine n_ne (tgt := 14) hx hb dX4_begin_7 (by decide) (by omega) (by omega) (fun c_1 => ?_) (fun c_1 => ?_)
  · refine lv_iconst (v := nI 0) hx hb dX4_begin_14 (by decide) ?_
    refine va_put (D := (dC, dI)) (ci := 5) (v := .int (nI 0)) (ty := .int) (C := RX4) (T := TX4) (N := 22) hx hb hts inM tyX4 tyX4_ok nmX4 hown hK hP hD hS 0 rfl rfl 0 (by decide) k1 (fun _ h9 => h9) rfl (by decide +kernel) rfl rfl (Nat.le_of_ble_eq_true rfl) dX4_begin_15 (fun H locs hP hD hS => ?_)
    have hP : va_P (dC, dI) vwCl (mw ad cy (va_up F 0 (nI 0)) C R T) H := hP
    have hD : va_D A (mw ad cy (va_up F 0 (nI 0)) C R T) := hD
    refine lv_aload_n hx hb dX4_begin_18 rfl (lv_at hl 0 rfl) ?_
    refine va_get (D := (dC, dI)) (ci := 5) (v := .int (nI 0)) (C := RX4) (T := TX4) (N := 22) hx hb hts inM hown hK hP 0 rfl rfl 0 (by decide) k1 (fun _ h9 => h9) rfl dX4_begin_19 ?_
    refine lv_if_le (tgt := 27) hx hb dX4_begin_22 (by decide) (fun _ => ?_) (fun h9 => absurd (by decide) h9)
    refine lv_aload_n hx hb dX4_begin_27 rfl (lv_at hl 0 rfl) ?_
    refine lv_dup hx hb dX4_begin_28 rfl ?_
    refine va_get (D := (dC, dI)) (ci := 5) (v := .int (nI (C 9))) (C := RX4) (T := TX4) (N := 22) hx hb hts inM hown hK hP 0 rfl rfl 9 (by decide) k0 (fun _ h9 => h9) rfl dX4_begin_29 ?_
    refine lv_iconst (v := nI 1) hx hb dX4_begin_32 (by decide) ?_
    refine lv_iadd hx hb dX4_begin_33 ?_
    refine to_i (y := nI ((C 9) + 1)) (nI_add _ _) ?_
    refine va_put (D := (dC, dI)) (ci := 5) (v := .int (nI ((C 9) + 1))) (ty := .int) (C := RX4) (T := TX4) (N := 22) hx hb hts inM tyX4 tyX4_ok nmX4 hown hK hP hD hS 0 rfl rfl 9 (by decide) k0 (fun _ h9 => h9) rfl (by decide +kernel) rfl rfl (Nat.le_of_ble_eq_true rfl) dX4_begin_34 (fun H locs hP hD hS => ?_)
    have hP : va_P (dC, dI) vwCl (mw ad cy (va_up F 0 (nI 0)) (va_up C 9 ((C 9) + 1)) R T) H := hP
    have hD : va_D A (mw ad cy (va_up F 0 (nI 0)) (va_up C 9 ((C 9) + 1)) R T) := hD
    refine lv_aload_n hx hb dX4_begin_37 rfl (lv_at hl 0 rfl) ?_
    refine va_get (D := (dC, dI)) (ci := 5) (v := .int (nI ((C 9) + 1))) (C := RX4) (T := TX4) (N := 22) hx hb hts inM hown hK hP 0 rfl rfl 9 (by decide) k0 (fun _ h9 => h9) rfl dX4_begin_38 ?_
    refine lv_iconst (v := nI 1) hx hb dX4_begin_41 (by decide) ?_
    refine lv_isub hx hb dX4_begin_42 ?_
    refine to_i (y := nI (C 9)) (pk_m1s _) ?_
    rw [← hQQ]; exact end_i (u := (va_up F 0 (nI 0), va_up C 9 ((C 9) + 1), R, T)) hx hb hr hlocks dX4_begin_43 hK hP hD hS (by simp only [M_begin, c_1, if_true, if_false]; try rfl) (Nat.zero_le _) (Nat.zero_le _)
  · refine lv_iconst (v := nI 1) hx hb dX4_begin_10 (by decide) ?_
    refine lv_goto (tgt := 15) hx hb dX4_begin_11 (by decide) ?_
    refine va_put (D := (dC, dI)) (ci := 5) (v := .int (nI 1)) (ty := .int) (C := RX4) (T := TX4) (N := 22) hx hb hts inM tyX4 tyX4_ok nmX4 hown hK hP hD hS 0 rfl rfl 0 (by decide) k1 (fun _ h9 => h9) rfl (by decide +kernel) rfl rfl (Nat.le_of_ble_eq_true rfl) dX4_begin_15 (fun H locs hP hD hS => ?_)
    have hP : va_P (dC, dI) vwCl (mw ad cy (va_up F 0 (nI 1)) C R T) H := hP
    have hD : va_D A (mw ad cy (va_up F 0 (nI 1)) C R T) := hD
    refine lv_aload_n hx hb dX4_begin_18 rfl (lv_at hl 0 rfl) ?_
    refine va_get (D := (dC, dI)) (ci := 5) (v := .int (nI 1)) (C := RX4) (T := TX4) (N := 22) hx hb hts inM hown hK hP 0 rfl rfl 0 (by decide) k1 (fun _ h9 => h9) rfl dX4_begin_19 ?_
    refine lv_if_le (tgt := 27) hx hb dX4_begin_22 (by decide) (fun h9 => absurd h9 (by decide)) (fun _ => ?_)
    refine lv_iconst (v := nI 0) hx hb dX4_begin_25 (by decide) ?_
    rw [← hQQ]; exact end_i (u := (va_up F 0 (nI 1), C, R, T)) hx hb hr hlocks dX4_begin_26 hK hP hD hS (by simp only [M_begin, c_1, if_true, if_false]; try rfl) (Nat.zero_le _) (Nat.zero_le _)
end

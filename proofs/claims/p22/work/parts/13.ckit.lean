/-! the class's side: pools by place, what is ambient, contracts of methods that may throw -/
abbrev Lc : Type := Nat × Nat
def pl (L : List Lc) (ad : Lc → Nat) (f : Lc → va_E) : va_W := L.map (fun q => (ad q, f q))
theorem pl_get {L : List Lc} {ad : Lc → Nat} {f : Lc → va_E} {q : Lc} (h : q ∈ L) : ∃ k : Nat, (pl L ad f)[k]? = some (ad q, f q) := List.getElem?_of_mem (List.mem_map.mpr ⟨q, h, rfl⟩)
theorem pl_at {L : List Lc} {ad : Lc → Nat} {f : Lc → va_E} {k : Nat} {x : Nat × va_E} (h : (pl L ad f)[k]? = some x) : ∃ q, L[k]? = some q ∧ x = (ad q, f q) := by
  unfold pl at h
  rw [List.getElem?_map] at h
  cases hq : L[k]? with
  | none => rw [hq] at h; cases h
  | some q => rw [hq] at h; exact ⟨q, rfl, (Option.some.inj h).symm⟩
theorem pl_idx {L : List Lc} {ad : Lc → Nat} {f : Lc → va_E} {k : Nat} {q : Lc} (h : L[k]? = some q) : (pl L ad f)[k]? = some (ad q, f q) := by
  unfold pl
  rw [List.getElem?_map, h]
  rfl
theorem pl_inj {A : Nat → Prop} {L : List Lc} {ad : Lc → Nat} {f : Lc → va_E} {q q' : Lc} (hD : va_D A (pl L ad f)) (h : q ∈ L) (h' : q' ∈ L) (e : ad q = ad q') : q = q' := by
  obtain ⟨i, hi⟩ := List.getElem?_of_mem h
  obtain ⟨j, hj⟩ := List.getElem?_of_mem h'
  have := hD.1 i j _ _ (pl_idx hi) (pl_idx hj) e
  subst this
  exact Option.some.inj (hi.symm.trans hj)
theorem pl_set {A : Nat → Prop} {L : List Lc} {ad : Lc → Nat} {f g : Lc → va_E} {k : Nat} {q : Lc} {e : va_E} (hD : va_D A (pl L ad f)) (hk : (pl L ad f)[k]? = some (ad q, f q)) (hq : q ∈ L) (hg : ∀ q', q' ≠ q → g q' = f q') (he : g q = e) : (pl L ad f).set k (ad q, e) = pl L ad g := by
  have hl := (List.getElem?_eq_some_iff.mp hk).1
  apply List.ext_getElem?
  intro j
  by_cases hj : j = k
  · subst hj
    rw [List.getElem?_set_self hl]
    obtain ⟨q0, h0, e0⟩ := pl_at hk
    have h1 : q0 = q := pl_inj hD (List.mem_of_getElem? h0) hq (congrArg Prod.fst e0).symm
    rw [pl_idx h0, h1, he]
  · rw [List.getElem?_set_ne (Ne.symm hj)]
    cases hb : L[j]? with
    | none => unfold pl; rw [List.getElem?_map, List.getElem?_map, hb]; rfl
    | some q' =>
      rw [pl_idx hb, pl_idx hb]
      have hne : q' ≠ q := fun z => hj (hD.1 j k _ _ (pl_idx hb) hk (by rw [z]))
      rw [hg q' hne]
theorem pl_push {L : List Lc} {ad ad' : Lc → Nat} {f g : Lc → va_E} {q : Lc} {a : Nat} {e : va_E} (ha : ad' q = a) (he : g q = e) (hL : ∀ q' ∈ L, ad' q' = ad q' ∧ g q' = f q') : pl L ad f ++ [(a, e)] = pl (L ++ [q]) ad' g := by
  unfold pl
  rw [List.map_append]
  congr 1
  · apply List.map_congr_left
    intro b hb
    rw [(hL b hb).1, (hL b hb).2]
  · rw [List.map_cons, List.map_nil, ha, he]
theorem pl_congr {L : List Lc} {ad : Lc → Nat} {f g : Lc → va_E} (h : ∀ q ∈ L, f q = g q) : pl L ad f = pl L ad g := by
  unfold pl
  exact List.map_congr_left fun b hb => by rw [h b hb]
/-- one cell of the pool made anew at another address: the new one stands behind, the old one is forgotten -/
theorem pl_swap {D : va_G} {A : Nat → Prop} {L : List Lc} {ad ad' : Lc → Nat} {f g : Lc → va_E} {q : Lc} {a : Nat} {e : va_E} {H : Heap} (ha : ad' q = a) (he : g q = e) (hq : q ∈ L) (hL : ∀ q', q' ≠ q → ad' q' = ad q' ∧ g q' = f q')
    (hP : va_P D vwCl (pl L ad f ++ [(a, e)]) H) (hD : va_D A (pl L ad f ++ [(a, e)])) (hD0 : va_D A (pl L ad f)) : va_P D vwCl (pl L ad' g) H ∧ va_D A (pl L ad' g) := by
  obtain ⟨kq, hkq⟩ := List.getElem?_of_mem hq
  have hlen : (pl L ad f).length = L.length := by unfold pl; rw [List.length_map]
  have key : ∀ (k : Nat) (x : Nat × va_E), (pl L ad' g)[k]? = some x → (pl L ad f ++ [(a, e)])[if k = kq then L.length else k]? = some x := by
    intro k x hx
    obtain ⟨q', h1, rfl⟩ := pl_at hx
    by_cases hk : k = kq
    · subst hk
      have h2 : q' = q := Option.some.inj (h1.symm.trans hkq)
      subst h2
      rw [if_pos rfl, List.getElem?_append_right (by omega), hlen, Nat.sub_self, ha, he]
      rfl
    · rw [if_neg hk, List.getElem?_append_left (by rw [hlen]; exact (List.getElem?_eq_some_iff.mp h1).1)]
      have hne : q' ≠ q := fun z => hk (hD0.1 k kq _ _ (pl_idx h1) (pl_idx hkq) (by rw [z]))
      rw [(hL q' hne).1, (hL q' hne).2]
      exact pl_idx h1
  refine ⟨hP.by _ key, hD.by _ key (fun i j hi hj h => ?_)⟩
  have e1 : (pl L ad' g).length = L.length := by unfold pl; rw [List.length_map]
  rw [e1] at hi hj
  by_cases h1 : i = kq <;> by_cases h2 : j = kq
  · omega
  · rw [if_pos h1, if_neg h2] at h; omega
  · rw [if_neg h1, if_pos h2] at h; omega
  · rw [if_neg h1, if_neg h2] at h; exact h
def nIAE : String := "java/lang/IllegalArgumentException"
def nISE : String := "java/lang/IllegalStateException"
def nIOB : String := "java/lang/IndexOutOfBoundsException"
abbrev xNames : List String := ["java/lang/RuntimeException", "java/lang/Exception"]
def strs : List (Nat × String) := [(196, "clause out of range"), (198, "side out of range"), (49, "days, cure or penalty out of range"), (60, "the clause has all its versions"), (200, "no set of other clauses"), (74, "no more contracts"), (206, "no such contract"), (87, "mark out of range"), (202, "it is no draft"), (96, "no item for the clause, and none can be made"), (114, "no item for the clause, or it has the latest version"), (132, "it cannot be signed, or the side has signed it"), (137, "days out of range"), (139, "later than the last day"), (213, "no such duty"), (165, "the duty is neither open nor noticed"), (170, "the duty is not open, or not late"), (179, "the duty is not breached")]
def casts : List (String × String) := [("java/lang/IllegalArgumentException", "java/lang/IllegalArgumentException"), ("java/lang/IllegalStateException", "java/lang/IllegalStateException"), ("java/lang/IndexOutOfBoundsException", "java/lang/IndexOutOfBoundsException"), ("ClauseShop$Contract", "java/lang/Object"), ("ClauseShop$Duty", "java/lang/Object")]
def decls : List MethodName := [⟨"java/lang/RuntimeException", "<init>", "(Ljava/lang/String;)V"⟩, ⟨"java/lang/Exception", "<init>", "(Ljava/lang/String;)V"⟩, ⟨"java/lang/Throwable", "<init>", "(Ljava/lang/String;)V"⟩, ⟨"java/lang/Object", "getClass", "()Ljava/lang/Class;"⟩]
def oaD : String := "[Ljava/lang/Object;"
theorem alike_idx {vm vm' : Vm} (h : vm.Alike vm') (f : Class → Bool) (hf : ∀ k : Class, f k.bare = f k) : vm'.classes.findIdx? f = vm.classes.findIdx? f := by
  have e : ∀ v : Vm, v.bare.classes.findIdx? f = v.classes.findIdx? f := fun v => by
    simp only [Vm.bare, Array.findIdx?_map]
    congr 1; funext k; exact hf k
  rw [← e vm', ← e vm, h.bare_eq]
theorem va_AOA.moved {t : FieldType} {u U : State} (hvm : u.vm.Alike U.vm) (h : va_AOA t u) : va_AOA t U := by
  have e : (Cond.arrayOver (.array t)).before #[] U = (Cond.arrayOver (.array t)).before #[] u := by
    simp only [Cond.before, Cond.holds, Cond.value, hvm.findClass]
    congr 1
    congr 1
    funext comp
    rw [alike_idx hvm _ (fun k => rfl)]
    congr 1
    funext c
    exact hvm.class_map _ (fun k r _ _ => rfl) c
  exact e.trans h
/-- what is ambient: statics that the machine's own classes hold, texts, castable classes, the mirror of Object[] -/
def am (e0 mi : Nat) (A : Nat → Prop) (U : State) (H : Heap) : Prop :=
  vx_Zq Bundle.tN "UNASSIGNED_STACK" Bundle.steD A U H ∧ vx_Zq Bundle.tN "SUPPRESSED_SENTINEL" Bundle.listD A U H ∧ va_Z RJx4a65c "DEFAULTCAPACITY_EMPTY_ELEMENTDATA" oaD (.ref e0) A U H ∧ va_T (.object "java/lang/Object") e0 0 (fun _ => .null) A U H ∧
  (∀ x ∈ strs, ∃ sa, vk_R RX3 x.1 x.2 sa U) ∧ (∀ x ∈ casts, va_Nw (.castable x.1 x.2) U) ∧ (∀ x ∈ decls, va_Nw (.declares x) U) ∧ va_Mi oaD mi U ∧ va_AO RX2 U ∧ va_AO "java/lang/Object" U ∧ va_AOA .int U ∧ va_Nw (.methodLinkNest RX3 78 yX0_init RX3) U
theorem am_calling {e0 mi : Nat} {A : Nat → Prop} {U : State} {g : JFrame} {mk : MethodId} {a : Array Value} (h : am e0 mi A U U.heap) : am e0 mi A (U.calling g mk a) (U.calling g mk a).heap := by
  obtain ⟨h1, h2, h3, h4, h5, h6, h7, h8⟩ := h
  have al : U.vm.Alike (U.calling g mk a).vm := Vm.Alike.refl U.vm
  exact ⟨h1.moved (u := U) al, h2.moved (u := U) al, h3.moved (u := U) al, h4.moved (u := U) al, fun x hx => by
    obtain ⟨sa, hs⟩ := h5 x hx
    exact ⟨sa, vk_R.same (u := U) rfl hs⟩, fun x hx => va_Nw.same (u := U) rfl rfl (h6 x hx), fun x hx => va_Nw.same (u := U) rfl rfl (h7 x hx), h8.1.moved (u := U) al, h8.2.1.moved (u := U) al, h8.2.2.1.moved (u := U) al, va_AOA.moved (u := U) al h8.2.2.2.1, va_Nw.same (u := U) rfl rfl h8.2.2.2.2⟩
theorem am_at {e0 mi : Nat} {A B : Nat → Prop} {s U : State} {H : Heap} {locs : List Loc} (h : am e0 mi A s s.heap) (hS : va_S A s.heap H locs) (hB : ∀ q, B q → A q) (hU : U.heap = H) (hW : s.WarmedH U.vm) : am e0 mi B U U.heap := by
  obtain ⟨h1, h2, h3, h4, h5, h6, h7, h8⟩ := h
  rw [hU]
  exact ⟨((h1.kept hS.2.1).narrow hB).moved hW.alike, ((h2.kept hS.2.1).narrow hB).moved hW.alike, ((h3.kept hS.2.1).narrow hB).moved hW.alike, ((h4.kept hS.2.1).narrow hB).moved hW.alike, fun x hx => by
    obtain ⟨sa, hs⟩ := h5 x hx
    exact ⟨sa, vk_R.warm hW hs⟩, fun x hx => va_Nw.warmC hW (h6 x hx), fun x hx => va_Nw.warmD hW (h7 x hx), h8.1.moved hW.alike, h8.2.1.moved hW.alike, h8.2.2.1.moved hW.alike, va_AOA.moved hW.alike h8.2.2.2.1, va_Nw.warmM hW h8.2.2.2.2⟩
def wPreX (D : va_G) (tys : List (ClassId × FieldType)) (e0 mi : Nat) (ws : va_W) (sz : Nat) (U : State) : Prop := wPre D tys ws sz U ∧ am e0 mi (va_A ws sz) U U.heap
def XX (D : va_G) (tys : List (ClassId × FieldType)) (px : String → Prop) (ws : va_W) (A : Nat → Prop) : String → State → State → Prop := vx_X (S := Unit) (fun _ => True) (fun E _ t => px E ∧ wEnd D tys A ws t) A
theorem wPreX_blind {D : va_G} {tys : List (ClassId × FieldType)} {e0 mi : Nat} {ws : va_W} {sz : Nat} {av : List Value} : FrameBlind (va_Pc av (wPreX D tys e0 mi ws sz)) := fun a U g mk q => by
  obtain ⟨q0, ⟨q1, qP, qK, qD⟩, qa⟩ := q
  exact ⟨q0, ⟨q1, qP, va_K.moved (u := U) (U := U.calling g mk a) (Vm.Alike.refl U.vm) qK, qD⟩, am_calling qa⟩
theorem enX {l : Launch} {y : MethodName} {wsC ws' : List Cond} {rm : Room} {D : va_G} {tys : List (ClassId × FieldType)} {e0 mi : Nat} {ws : va_W} {sz : Nat} {av : List Value} {Qc : (Nat → Prop) → Array Value → State → Outcome → State → Prop} {px : String → Prop} {mc ms : Nat} {cc : ByteArray} {maxL : Nat} {ret : Option FieldType} {own : String} {lv : List (Nat × Value)}
    (hy : plainName y.cls = true) (hw : wsC = Cond.code y cc maxL ret :: ws') (how : y.cls = own) (hav : (lg_sl av).length ≤ maxL) (hlv : lv_args 0 av = lv)
    (body : ∀ (p : Program) (e : Env) (s : State) (m : MethodId) (below : List Frame) (meth : Method) (c : Code) (ls : Array Slot) (A : Nat → Prop) (H : Heap) (locs : List Loc), p.tables.exec = Jvm.exec → c.code = cc → meth.sig.returnType = ret → (∀ w ∈ wsC, w.before av.toArray s = true) → s.vm.findClass own = some m.cls → meth.locks = false → c.maxLocals = maxL → meth.name = y.name →
      s.heap.size = sz → va_K D vwCl tys s → va_P D vwCl ws H → va_D A ws → va_S A s.heap H locs → (∀ q, s.heap.size ≤ q → A q) → lv_has ls maxL lv → am e0 mi A s s.heap → (∀ x ∈ c.exceptionTable.toList, False) →
      W p l e rm s m av.toArray below meth c H locs 0 0 (vx_MQ below (Qc A) (XX D tys px ws A) av.toArray s mc ms A) (F0 m 0 ls [])) :
    vx_Met l y wsC rm (va_Pc av (wPreX D tys e0 mi ws sz)) (Qc (va_A ws sz)) (XX D tys px ws (va_A ws sz)) mc ms (va_A ws sz) := by
  refine vx_ofW (cc := cc) (maxL := maxL) (ret := ret) hy hw ?_
  intro p e s m args below meth c s₁ B hml hnt hv
  obtain ⟨rfl, ⟨hsz, hP, hK, hD0⟩, ham⟩ := hv
  have hown : s.vm.findClass own = some m.cls := by rw [← how]; exact findClass_of_methodNamed B.named
  have hin : meth.name = y.name := (name_of_methodNamed B.named B.method).1
  have hD := hD0.self (sz := s.heap.size)
  have hl := lv_entry av (n := maxL) hav
  rw [hlv] at hl
  rw [lg_entry_eq]
  rw [← hsz] at ham ⊢
  exact body p e s m below meth c _ (va_A ws s.heap.size) s.heap [] B.exec B.bytes B.returns (atoms_spec (ws := wsC) B.pre) hown B.notSynchronized hml hin hsz hK hP hD va_S.rf (fun q h => Or.inr h) hl ham hnt
/-- a method that can't throw, but wants what is ambient -/
theorem enA {l : Launch} {y : MethodName} {wsC ws' : List Cond} {rm : Room} {D : va_G} {tys : List (ClassId × FieldType)} {e0 mi : Nat} {ws : va_W} {sz : Nat} {av : List Value} {Qc : (Nat → Prop) → Array Value → State → Outcome → State → Prop} {mc ms : Nat} {cc : ByteArray} {maxL : Nat} {ret : Option FieldType} {own : String} {lv : List (Nat × Value)}
    (hy : plainName y.cls = true) (hw : wsC = Cond.code y cc maxL ret :: ws') (how : y.cls = own) (hav : (lg_sl av).length ≤ maxL) (hlv : lv_args 0 av = lv)
    (body : ∀ (p : Program) (e : Env) (s : State) (m : MethodId) (below : List Frame) (meth : Method) (c : Code) (ls : Array Slot) (A : Nat → Prop) (H : Heap) (locs : List Loc), p.tables.exec = Jvm.exec → c.code = cc → meth.sig.returnType = ret → (∀ w ∈ wsC, w.before av.toArray s = true) → s.vm.findClass own = some m.cls → meth.locks = false → c.maxLocals = maxL → meth.name = y.name →
      s.heap.size = sz → va_K D vwCl tys s → va_P D vwCl ws H → va_D A ws → va_S A s.heap H locs → (∀ q, s.heap.size ≤ q → A q) → lv_has ls maxL lv → am e0 mi A s s.heap →
      W p l e rm s m av.toArray below meth c H locs 0 0 (MQ below (Qc A) av.toArray s mc ms A) (F0 m 0 ls [])) :
    Met l y wsC rm (va_Pc av (wPreX D tys e0 mi ws sz)) (Qc (va_A ws sz)) mc ms (va_A ws sz) := by
  refine Met.ofW (cc := cc) (maxL := maxL) (ret := ret) hy hw ?_
  intro p e s m args below meth c s₁ B hml hv
  obtain ⟨rfl, ⟨hsz, hP, hK, hD0⟩, ham⟩ := hv
  have hown : s.vm.findClass own = some m.cls := by rw [← how]; exact findClass_of_methodNamed B.named
  have hin : meth.name = y.name := (name_of_methodNamed B.named B.method).1
  have hD := hD0.self (sz := s.heap.size)
  have hl := lv_entry av (n := maxL) hav
  rw [hlv] at hl
  rw [lg_entry_eq]
  rw [← hsz] at ham ⊢
  exact body p e s m below meth c _ (va_A ws s.heap.size) s.heap [] B.exec B.bytes B.returns (atoms_spec (ws := wsC) B.pre) hown B.notSynchronized hml hin hsz hK hP hD va_S.rf (fun q h => Or.inr h) hl ham
section MyX
variable {p : Program} {l : Launch} {e : Env} {R : Room} {s : State} {m : MethodId} {args : Array Value} {below : List Frame} {meth : Method} {c : Code} {H : Heap} {locs : List Loc} {cells slots mc ms : Nat} {Q : State → Prop}
variable {cc : ByteArray} {pc : Nat} {ls : Array Slot} {rest st0 : List Value} {D : va_G} {A : Nat → Prop} {a : Array Value} {tys : List (ClassId × FieldType)} {ws : va_W} {e0 mi : Nat} {px : String → Prop}
theorem to_v {x y : Value} (h : x = y) (k : W p l e R s m args below meth c H locs cells slots Q (F0 m pc ls (y :: rest))) : W p l e R s m args below meth c H locs cells slots Q (F0 m pc ls (x :: rest)) := by rw [h]; exact k
theorem preXV {C : String} {b : Nat} {As : List Value} (hK : va_K D vwCl tys s) (hP : va_P D vwCl ws H) (hD : va_D A ws) (hS : va_S A s.heap H locs) (hA : ∀ q, s.heap.size ≤ q → A q) (ham : am e0 mi A s s.heap) (hrec : ∃ cell : Cell, H[b]? = some cell ∧ cell.vm.isStatics = false ∧ s.vm.findClass C = some cell.cls) : PreV s H C b (va_Pc (.ref b :: As) (wPreX D tys e0 mi ws H.size)) As :=
  ⟨wPreX_blind, hrec, fun U hU hW => ⟨rfl, (wPre_at (av := .ref b :: As) hK hP hD U hU hW).2, am_at ham hS (w_free (D := D) (tys := tys) hD hS hA) hU hW⟩⟩
theorem preXS {As : List Value} (hK : va_K D vwCl tys s) (hP : va_P D vwCl ws H) (hD : va_D A ws) (hS : va_S A s.heap H locs) (hA : ∀ q, s.heap.size ≤ q → A q) (ham : am e0 mi A s s.heap) : PreS s H (va_Pc As (wPreX D tys e0 mi ws H.size)) As :=
  ⟨wPreX_blind, fun U hU hW => ⟨rfl, (wPre_at (av := As) hK hP hD U hU hW).2, am_at ham hS (w_free (D := D) (tys := tys) hD hS hA) hU hW⟩⟩
theorem kxOf {E : String} {t : State} {H1 : Heap} {u : Unit} (hD : va_D A ws) (hS : va_S A s.heap H locs) (hA : ∀ q, s.heap.size ≤ q → A q) (ht : t.heap = H1) (hB : px E ∧ wEnd D tys (va_A ws H.size) ws t) : px E ∧ va_P D vwCl ws H1 ∧ va_D A ws :=
  ⟨hB.1, by rw [← ht]; exact hB.2.1, hD⟩
theorem callX_i {S : Type} {post : Int32 → S → Prop} {w : S → va_W} (hr : vx_Run p l e R s m args below meth c H locs cells slots mc ms (F0 m pc ls st0) rest (QI D tys post w (va_A ws H.size) a) (XX D tys px ws (va_A ws H.size)) (va_A ws H.size)) (hD : va_D A ws) (hS : va_S A s.heap H locs) (hA : ∀ q, s.heap.size ≤ q → A q)
    (kx : ∀ (E : String) (ce : Cell) (q9 : Addr) (H1 : Heap) (locs1 : List Loc), px E → va_P D vwCl ws H1 → va_S A s.heap H1 locs1 → H1[q9]? = some ce → ce.vm = .none → s.vm.findClass E = some ce.cls → vx_W p l e R s m args below meth c H1 locs1 (cells + mc) (slots + ms) Q (F0 m pc ls rest) q9)
    (kk : ∀ (r : Int32) (u : S) (H1 : Heap) (locs1 : List Loc), post r u → va_P D vwCl (w u) H1 → va_D A (w u) → va_S A s.heap H1 locs1 → W p l e R s m args below meth c H1 locs1 (cells + mc) (slots + ms) Q (F0 m (pc + 3) ls (.int r :: rest))) : W p l e R s m args below meth c H locs cells slots Q (F0 m pc ls st0) :=
  have hF := w_free (D := D) (tys := tys) hD hS hA
  vx_calli hr hS (fun q _ h => hF q h) hF (fun q _ h => hF q h)
    (fun E ce q9 u t H1 locs1 ht hvm _ hB hz hk hS1 h1 h2 h3 => kx E ce q9 H1 locs1 hB.1 (by rw [← ht]; exact hB.2.1) hS1 h1 h2 h3)
    (fun r u t H1 locs1 ht hvm hw hB hz hk hS1 => kk r u H1 locs1 hw (by rw [← ht]; exact hB.1) (hB.2.2.weaken (fun _ q _ h => hF q.1 h)) hS1)
theorem callX_v {S : Type} {post : S → Prop} {w : S → va_W} (hr : vx_Run p l e R s m args below meth c H locs cells slots mc ms (F0 m pc ls st0) rest (QV D tys post w (va_A ws H.size) a) (XX D tys px ws (va_A ws H.size)) (va_A ws H.size)) (hD : va_D A ws) (hS : va_S A s.heap H locs) (hA : ∀ q, s.heap.size ≤ q → A q)
    (kx : ∀ (E : String) (ce : Cell) (q9 : Addr) (H1 : Heap) (locs1 : List Loc), px E → va_P D vwCl ws H1 → va_S A s.heap H1 locs1 → H1[q9]? = some ce → ce.vm = .none → s.vm.findClass E = some ce.cls → vx_W p l e R s m args below meth c H1 locs1 (cells + mc) (slots + ms) Q (F0 m pc ls rest) q9)
    (kk : ∀ (u : S) (H1 : Heap) (locs1 : List Loc), post u → va_P D vwCl (w u) H1 → va_D A (w u) → va_S A s.heap H1 locs1 → W p l e R s m args below meth c H1 locs1 (cells + mc) (slots + ms) Q (F0 m (pc + 3) ls rest)) : W p l e R s m args below meth c H locs cells slots Q (F0 m pc ls st0) :=
  have hF := w_free (D := D) (tys := tys) hD hS hA
  vx_callv hr hS (fun q _ h => hF q h) hF (fun q _ h => hF q h)
    (fun E ce q9 u t H1 locs1 ht hvm _ hB hz hk hS1 h1 h2 h3 => kx E ce q9 H1 locs1 hB.1 (by rw [← ht]; exact hB.2.1) hS1 h1 h2 h3)
    (fun u t H1 locs1 ht hvm hw hB hz hk hS1 => kk u H1 locs1 hw (by rw [← ht]; exact hB.1) (hB.2.2.weaken (fun _ q _ h => hF q.1 h)) hS1)
theorem outX {E : String} {ce : Cell} {q : Addr} {Qc : Array Value → State → Outcome → State → Prop} (hnt : ∀ x ∈ c.exceptionTable.toList, False) (hlocks : meth.locks = false) (hcell : H[q]? = some ce) (hv : ce.vm = .none) (hcl : s.vm.findClass E = some ce.cls) (hpx : px E) (hK : va_K D vwCl tys s) (hP : va_P D vwCl ws H) (hD : va_D A ws) (hS : va_S A s.heap H locs) (hc : cells ≤ mc) (hs : slots ≤ ms) :
    vx_W p l e R s m args below meth c H locs cells slots (vx_MQ below Qc (XX D tys px ws A) args s mc ms A) (F0 m pc ls rest) q :=
  vx_out (fun x hx => (hnt x hx).elim) hlocks hcell hv hcl (fun t ht hvm => ⟨(), trivial, ⟨hpx, by rw [ht]; exact hP, va_K.moved hvm hK, hD⟩, hS.F ht⟩) hS.2.2 hc hs
theorem thr {cls text : String} {ik is ic : Nat} {Qc : Array Value → State → Outcome → State → Prop} (hx : p.tables.exec = Jvm.exec) (hb : c.code = cc) (hst : l.stackTraces = false) (hown : s.vm.findClass RX3 = some m.cls) (hcls : Bundle.fit cls = true)
    (hk : (Cond.classLink RX3 ik cls).before args s = true) (hini : (Cond.initialized cls).before args s = true) (hstr : (is, text) ∈ strs) (ham : am e0 mi A s s.heap) (hat : ∀ w ∈ (vx_atS RX3 ic cls xNames).filter goodWord, w.before args s = true) (hcast : (cls, cls) ∈ casts)
    (hbad : ((vx_atS RX3 ic cls xNames).filter (fun w => !goodWord w)).all (fun w => decide (w = .castable cls cls) || decls.any (fun d => decide (w = .declares d))) = true)
    (hgood : (Cond.classLink RX3 ik cls :: Cond.initialized cls :: vx_atS RX3 ic cls xNames).all vx_ot = true)
    (d0 : decode cc pc = .ok (.new ik, 3)) (d3 : decode cc (pc + 3) = .ok (.dup, 1)) (d4 : decode cc (pc + 4) = .ok (.ldc is, 2)) (d6 : decode cc (pc + 6) = .ok (.invokespecial ic, 3)) (d9 : decode cc (pc + 9) = .ok (.athrow, 1))
    (hsize : ls.size = c.maxLocals) (hnt : ∀ x ∈ c.exceptionTable.toList, False) (hlocks : meth.locks = false) (hRf : 5 < R.frames) (hRl : (rest.map fun v => v.category).sum + 82 ≤ R.locals) (hRc : cells + 1 ≤ R.cells) (hRs : slots + 6 ≤ R.slots)
    (hpx : px cls) (hK : va_K D vwCl tys s) (hP : va_P D vwCl ws H) (hD : va_D A ws) (hS : va_S A s.heap H locs) (hc : cells + 1 ≤ mc) (hs : slots + 6 ≤ ms) :
    W p l e R s m args below meth c H locs cells slots (vx_MQ below Qc (XX D tys px ws A) args s mc ms A) (F0 m pc ls rest) := by
  obtain ⟨h1, h2, h3, h4, h5, h6, h7, h8⟩ := ham
  obtain ⟨sa, hsa⟩ := h5 _ hstr
  have hbw : ∀ w ∈ (vx_atS RX3 ic cls xNames).filter (fun w => !goodWord w), w.before args s = true := by
    intro w hw
    have hb1 := List.all_eq_true.mp hbad w hw
    simp only [Bool.or_eq_true, decide_eq_true_eq, List.any_eq_true] at hb1
    rcases hb1 with rfl | ⟨d, hd, rfl⟩
    · exact va_Nw.use rfl (h6 _ hcast)
    · exact va_Nw.use rfl (h7 _ hd)
  refine vx_throwS (names := xNames) hx hb hst hown hcls (by decide) hk hini hsa (vx_hat hat (fun w h => h) hbw) (List.all_eq_true.mp hgood) h1 h2 hS hsize d0 d3 d4 d6 d9 (fun x hx => (hnt x hx).elim) hRf hRl hRc hRs hlocks ?_ hS.2.2 hc hs
  intro t hvm hz hk9
  refine ⟨(), trivial, ⟨hpx, hP.kept (fun k q hq => hk9 q.1 (vx_lt hP hq)), va_K.moved hvm hK, hD⟩, Nat.le_trans hS.1 hz, fun q h9 hA9 => ?_⟩
  rw [hk9 q (Nat.lt_of_lt_of_le h9 hS.1)]
  exact hS.2.1 q h9 hA9
end MyX

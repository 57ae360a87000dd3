/-! the law's own rows, what a wrapped call gives, entering the law's methods -/
theorem lres_n0 {oc V : Nat} {c1 c2 c3 ans : Int32} {s0 s1 : CS} {r : Int32} {u : CT} (h : lres oc V c1 c2 c3 ans s0 s1 r u) (hV : V = 0) : r = ans ∧ ∃ (ad : Lc → Nat) (L : List Lc), u = (ad, L, s1) ∧ okC L s1.2 ∧ okX L s1.2 ∧ ad (10, 0) = oc := by
  obtain ⟨h0, -, -, -, h4, h5⟩ := h
  obtain ⟨e1, e2⟩ := h0 hV
  obtain ⟨ad, L, q⟩ := u
  have e3 : q = s1 := e2
  subst e3
  exact ⟨e1, ad, L, rfl, h4.1, h4.2, h5⟩
theorem lres_nk {oc V : Nat} {c ans : Int32} {s0 : CS} {r : Int32} {u : CT} (h : r = c ∧ u.2.2 = s0) (h4 : okU u) (h5 : u.1 (10, 0) = oc) : r = c ∧ ∃ (ad : Lc → Nat) (L : List Lc), u = (ad, L, s0) ∧ okC L s0.2 ∧ okX L s0.2 ∧ ad (10, 0) = oc := by
  obtain ⟨e1, e2⟩ := h
  obtain ⟨ad, L, q⟩ := u
  have e3 : q = s0 := e2
  subst e3
  exact ⟨e1, ad, L, rfl, h4.1, h4.2, h5⟩
theorem lres_n1 {oc V : Nat} {c1 c2 c3 ans : Int32} {s0 s1 : CS} {r : Int32} {u : CT} (h : lres oc V c1 c2 c3 ans s0 s1 r u) (hV : V = 1) : r = c1 ∧ ∃ (ad : Lc → Nat) (L : List Lc), u = (ad, L, s0) ∧ okC L s0.2 ∧ okX L s0.2 ∧ ad (10, 0) = oc := lres_nk (V := 0) (ans := 0) (h.2.1 hV) h.2.2.2.2.1 h.2.2.2.2.2
theorem lres_n2 {oc V : Nat} {c1 c2 c3 ans : Int32} {s0 s1 : CS} {r : Int32} {u : CT} (h : lres oc V c1 c2 c3 ans s0 s1 r u) (hV : V = 2) : r = c2 ∧ ∃ (ad : Lc → Nat) (L : List Lc), u = (ad, L, s0) ∧ okC L s0.2 ∧ okX L s0.2 ∧ ad (10, 0) = oc := lres_nk (V := 0) (ans := 0) (h.2.2.1 hV) h.2.2.2.2.1 h.2.2.2.2.2
theorem lres_n3 {oc V : Nat} {c1 c2 c3 ans : Int32} {s0 s1 : CS} {r : Int32} {u : CT} (h : lres oc V c1 c2 c3 ans s0 s1 r u) (hV : V = 3) : r = c3 ∧ ∃ (ad : Lc → Nat) (L : List Lc), u = (ad, L, s0) ∧ okC L s0.2 ∧ okX L s0.2 ∧ ad (10, 0) = oc := lres_nk (V := 0) (ans := 0) (h.2.2.2.1 hV) h.2.2.2.2.1 h.2.2.2.2.2
theorem w_swP {D : va_G} {x y : va_W} {H : Heap} (h : va_P D vwCl (x ++ y) H) : va_P D vwCl (y ++ x) H := va_P.swap (a := []) (b := x) (c := y) h
theorem w_swD {A : Nat → Prop} {x y : va_W} (h : va_D A (x ++ y)) : va_D A (y ++ x) := va_D.swap (a := []) (b := x) (c := y) h
theorem preLS {s : State} {H : Heap} {locs : List Loc} {D : va_G} {tys : List (ClassId × FieldType)} {ws : va_W} {A : Nat → Prop} {e0 mi : Nat} {As : List Value} (hK : va_K D vwCl tys s) (hP : va_P D vwCl ws H) (hD : va_D A ws) (hS : va_S A s.heap H locs) (hA : ∀ q, s.heap.size ≤ q → A q) (ham : amL e0 mi A s s.heap) : PreS s H (va_Pc As (wPreL D tys e0 mi ws H.size)) As :=
  ⟨wPreL_blind, fun U hU hW => ⟨rfl, (wPre_at (av := As) hK hP hD U hU hW).2, amL_at ham hS (w_free (D := D) (tys := tys) hD hS hA) hU hW⟩⟩
theorem preLV {s : State} {H : Heap} {locs : List Loc} {D : va_G} {tys : List (ClassId × FieldType)} {ws : va_W} {A : Nat → Prop} {e0 mi : Nat} {C : String} {b : Nat} {As : List Value} (hK : va_K D vwCl tys s) (hP : va_P D vwCl ws H) (hD : va_D A ws) (hS : va_S A s.heap H locs) (hA : ∀ q, s.heap.size ≤ q → A q) (ham : amL e0 mi A s s.heap) (hrec : ∃ cell : Cell, H[b]? = some cell ∧ cell.vm.isStatics = false ∧ s.vm.findClass C = some cell.cls) : PreV s H C b (va_Pc (.ref b :: As) (wPreL D tys e0 mi ws H.size)) As :=
  ⟨wPreL_blind, hrec, fun U hU hW => ⟨rfl, (wPre_at (av := .ref b :: As) hK hP hD U hU hW).2, amL_at ham hS (w_free (D := D) (tys := tys) hD hS hA) hU hW⟩⟩
/-- a method of the law that can't catch, with what is ambient -/
theorem enLA {l : Launch} {y : MethodName} {wsC ws' : List Cond} {rm : Room} {D : va_G} {tys : List (ClassId × FieldType)} {e0 mi : Nat} {ws : va_W} {sz : Nat} {av : List Value} {Qc : (Nat → Prop) → Array Value → State → Outcome → State → Prop} {mc ms : Nat} {cc : ByteArray} {maxL : Nat} {ret : Option FieldType} {own : String} {lv : List (Nat × Value)}
    (hy : plainName y.cls = true) (hw : wsC = Cond.code y cc maxL ret :: ws') (how : y.cls = own) (hav : (lg_sl av).length ≤ maxL) (hlv : lv_args 0 av = lv)
    (body : ∀ (p : Program) (e : Env) (s : State) (m : MethodId) (below : List Frame) (meth : Method) (c : Code) (ls : Array Slot) (A : Nat → Prop) (H : Heap) (locs : List Loc), p.tables.exec = Jvm.exec → c.code = cc → meth.sig.returnType = ret → (∀ w ∈ wsC, w.before av.toArray s = true) → s.vm.findClass own = some m.cls → meth.locks = false → c.maxLocals = maxL → meth.name = y.name →
      s.heap.size = sz → va_K D vwCl tys s → va_P D vwCl ws H → va_D A ws → va_S A s.heap H locs → (∀ q, s.heap.size ≤ q → A q) → lv_has ls maxL lv → amL e0 mi A s s.heap →
      W p l e rm s m av.toArray below meth c H locs 0 0 (MQ below (Qc A) av.toArray s mc ms A) (F0 m 0 ls [])) :
    Met l y wsC rm (va_Pc av (wPreL D tys e0 mi ws sz)) (Qc (va_A ws sz)) mc ms (va_A ws sz) := by
  refine Met.ofW (cc := cc) (maxL := maxL) (ret := ret) hy hw ?_
  intro p e s m args below meth c s₁ B hml hv
  obtain ⟨rfl, ⟨hsz, hP, hK, hD0⟩, ham⟩ := hv
  have hown : s.vm.findClass own = some m.cls := by rw [← how]; exact findClass_of_methodNamed B.named
  have hin : meth.name = y.name := (name_of_methodNamed B.named B.method).1
  have hD := hD0.self (sz := s.heap.size)
  have hl := lv_entry av (n := maxL) hav
  rw [hlv] at hl
  rw [lg_entry_eq]
  rw [← hsz] at ham ⊢
  exact body p e s m below meth c _ (va_A ws s.heap.size) s.heap [] B.exec B.bytes B.returns (atoms_spec (ws := wsC) B.pre) hown B.notSynchronized hml hin hsz hK hP hD va_S.rf (fun q h => Or.inr h) hl ham
/-- with the script at hand -/
def wPreSc (D : va_G) (tys : List (ClassId × FieldType)) (b Ls : Nat) (xs : Nat → Int32) (ws : va_W) (sz : Nat) (U : State) : Prop := wPre D tys ws sz U ∧ va_X b Ls xs U U.heap ∧ b < sz ∧ ¬ va_A ws sz b
theorem wPreSc_blind {D : va_G} {tys : List (ClassId × FieldType)} {b Ls : Nat} {xs : Nat → Int32} {ws : va_W} {sz : Nat} {av : List Value} : FrameBlind (va_Pc av (wPreSc D tys b Ls xs ws sz)) := fun a U g mk q => by
  obtain ⟨q0, ⟨q1, qP, qK, qD⟩, qx, qb⟩ := q
  exact ⟨q0, ⟨q1, qP, va_K.moved (u := U) (U := U.calling g mk a) (Vm.Alike.refl U.vm) qK, qD⟩, va_X.moved (u := U) (U := U.calling g mk a) (Vm.Alike.refl U.vm) qx, qb⟩
theorem preSc {s : State} {H : Heap} {locs : List Loc} {D : va_G} {tys : List (ClassId × FieldType)} {ws : va_W} {A : Nat → Prop} {b Ls : Nat} {xs : Nat → Int32} {As : List Value} (hK : va_K D vwCl tys s) (hP : va_P D vwCl ws H) (hD : va_D A ws) (hS : va_S A s.heap H locs) (hA : ∀ q, s.heap.size ≤ q → A q) (hX : va_X b Ls xs s s.heap) (hbl : b < s.heap.size) (hbA : ¬ A b) : PreS s H (va_Pc As (wPreSc D tys b Ls xs ws H.size)) As :=
  ⟨wPreSc_blind, fun U hU hW => ⟨rfl, (wPre_at (av := As) hK hP hD U hU hW).2, (by rw [hU]; exact (hX.kept (hS.2.1 b hbl hbA)).moved hW.alike), Nat.lt_of_lt_of_le hbl hS.1, fun h => hbA (w_free (D := D) (tys := tys) hD hS hA b h)⟩⟩
theorem enSc {l : Launch} {y : MethodName} {wsC ws' : List Cond} {rm : Room} {D : va_G} {tys : List (ClassId × FieldType)} {b Ls : Nat} {xs : Nat → Int32} {ws : va_W} {sz : Nat} {av : List Value} {Qc : (Nat → Prop) → Array Value → State → Outcome → State → Prop} {mc ms : Nat} {cc : ByteArray} {maxL : Nat} {ret : Option FieldType} {own : String} {lv : List (Nat × Value)}
    (hy : plainName y.cls = true) (hw : wsC = Cond.code y cc maxL ret :: ws') (how : y.cls = own) (hav : (lg_sl av).length ≤ maxL) (hlv : lv_args 0 av = lv)
    (body : ∀ (p : Program) (e : Env) (s : State) (m : MethodId) (below : List Frame) (meth : Method) (c : Code) (ls : Array Slot) (A : Nat → Prop) (H : Heap) (locs : List Loc), p.tables.exec = Jvm.exec → c.code = cc → meth.sig.returnType = ret → (∀ w ∈ wsC, w.before av.toArray s = true) → s.vm.findClass own = some m.cls → meth.locks = false → c.maxLocals = maxL → meth.name = y.name →
      s.heap.size = sz → va_K D vwCl tys s → va_P D vwCl ws H → va_D A ws → va_S A s.heap H locs → (∀ q, s.heap.size ≤ q → A q) → lv_has ls maxL lv → va_X b Ls xs s s.heap → b < s.heap.size → ¬ A b →
      W p l e rm s m av.toArray below meth c H locs 0 0 (MQ below (Qc A) av.toArray s mc ms A) (F0 m 0 ls [])) :
    Met l y wsC rm (va_Pc av (wPreSc D tys b Ls xs ws sz)) (Qc (va_A ws sz)) mc ms (va_A ws sz) := by
  refine Met.ofW (cc := cc) (maxL := maxL) (ret := ret) hy hw ?_
  intro p e s m args below meth c s₁ B hml hv
  obtain ⟨rfl, ⟨hsz, hP, hK, hD0⟩, hXs, hbl, hbA⟩ := hv
  have hown : s.vm.findClass own = some m.cls := by rw [← how]; exact findClass_of_methodNamed B.named
  have hin : meth.name = y.name := (name_of_methodNamed B.named B.method).1
  have hD := hD0.self (sz := s.heap.size)
  have hl := lv_entry av (n := maxL) hav
  rw [hlv] at hl
  rw [lg_entry_eq]
  rw [← hsz] at hbl hbA ⊢
  exact body p e s m below meth c _ (va_A ws s.heap.size) s.heap [] B.exec B.bytes B.returns (atoms_spec (ws := wsC) B.pre) hown B.notSynchronized hml hin hsz hK hP hD va_S.rf (fun q h => Or.inr h) hl hXs hbl hbA
/-- the last of the law's rows: the day, the contracts, the duties -/
def gf (D : Int32) (a b : Nat) : Nat → Int32 := fun j => if j = 0 then D else if j = 1 then nI a else if j = 2 then nI b else 0
theorem gf_0 (D : Int32) (a b : Nat) (x : Int32) : upd (gf D a b) 0 x = gf x a b := by
  funext j
  by_cases h : j = 0 <;> simp [upd, gf, h]
theorem gf_1 (D : Int32) (a b k : Nat) : upd (gf D a b) 1 (nI k) = gf D k b := by
  funext j
  by_cases h : j = 1 <;> simp [upd, gf, h]
theorem gf_2 (D : Int32) (a b k : Nat) : upd (gf D a b) 2 (nI k) = gf D a k := by
  funext j
  by_cases h : j = 2 <;> simp [upd, gf, h]
abbrev YS : Type := (Nat → Nat → Nat) × (Nat → Int32) × Int32 × Nat × Nat
abbrev LU2 : Type := CT × YS
/-- the law's rows: latest, relations, versions, items, signatures, duties, days, numbers -/
def yw (ab : Nat → Nat) (cy : Nat → ClassId) (Y : Nat → Nat → Nat) (t : Nat → Int32) (D : Int32) (a b : Nat) : va_W :=
  [(ab 0, .inl (cy 0, 6, .inl (fun j => nI (Y 0 j)))), (ab 1, .inl (cy 0, 6, .inl (fun j => nI (Y 1 j)))), (ab 2, .inl (cy 0, 54, .inl (fun j => nI (Y 2 j)))), (ab 3, .inl (cy 0, 60, .inl (fun j => nI (Y 3 j)))),
   (ab 4, .inl (cy 0, 10, .inl (fun j => nI (Y 4 j)))), (ab 5, .inl (cy 0, 60, .inl (fun j => nI (Y 5 j)))), (ab 6, .inl (cy 0, 60, .inl t)), (ab 7, .inl (cy 0, 3, .inl (gf D a b)))]
abbrev ywU (ab : Nat → Nat) (cy : Nat → ClassId) (v : YS) : va_W := yw ab cy v.1 v.2.1 v.2.2.1 v.2.2.2.1 v.2.2.2.2
abbrev lw2 (cy : Nat → ClassId) (e0 : Nat) (ab : Nat → Nat) (u : LU2) : va_W := cwT cy e0 u.1 ++ ywU ab cy u.2

theorem ushr1 (v : Int32) : ∃ q : Nat, q < 2 ^ 31 ∧ (v.toUInt32 >>> ((nI 1).toUInt32 &&& Int32.toUInt32 31)).toInt32 = nI q := by
  have e := pk_ushr v (nI 1) 1 (by decide)
  refine ⟨v.toBitVec.toNat / 2, by have := v.toBitVec.isLt; omega, ?_⟩
  apply Int32.toBitVec_inj.mp
  apply BitVec.eq_of_toNat_eq
  have h2 := v.toBitVec.isLt
  rw [e, pk_tn (by omega)]

set_option maxHeartbeats 8000000 in
set_option maxRecDepth 100000 in
/-- some number below n -/
theorem qL_low (l : Launch) (dC : Nat → ClassId) (dI : Nat → Nat → Nat) (cy : Nat → ClassId) (ws : va_W) (sz : Nat) (v : Int32) (n : Nat) (hn0 : 0 < n) (hn1 : n < 2 ^ 31) : Met l yL_low wsL_low ({ frames := 0, cells := 0, slots := 0, locals := 0 }) (va_Pc [.int v, .int (nI n)] (wPre (dC, dI) (tyL cy) (ws) sz)) (QI (dC, dI) (tyL cy) (fun (r : Int32) (_ : Unit) => ∃ k, k < n ∧ r = nI k) (fun _ => ws) (va_A (ws) sz)) 0 0 (va_A (ws) sz) := by
  refine en (cc := cL_low) (maxL := 2) (ret := (some .int)) (own := RL) (lv := [(0, .int v), (1, .int (nI n))]) (by decide) rfl rfl (Nat.le_of_ble_eq_true rfl) rfl ?_
  intro p e s m below meth c ls A H locs hx hb hr hts hown hlocks hml hin hsz hK hP hD hS hA hl
  generalize hQQ : MQ below _ _ s _ _ A = QQ
  refine lv_iload_n hx hb dL_low_0 rfl (lv_at hl 0 rfl) ?_
  refine lv_iconst (v := nI 1) hx hb dL_low_1 (by decide) ?_
  obtain ⟨q0, hq0, eq0⟩ := ushr1 v
  refine lv_iushr (v := nI q0) hx hb dL_low_2 eq0 ?_
  refine lv_iload_n hx hb dL_low_3 rfl (lv_at hl 1 rfl) ?_
  refine lv_irem hx hb dL_low_4 (nI_ne0 hn0 hn1) ?_
  refine to_i (y := nI (q0 % n)) (pk_rem hq0 hn0 hn1) ?_
  rw [← hQQ]; exact end_i (u := ()) hx hb hr hlocks dL_low_5 hK hP hD hS ⟨_, Nat.mod_lt _ hn0, rfl⟩ (Nat.le_of_ble_eq_true rfl) (Nat.le_of_ble_eq_true rfl)

set_option maxHeartbeats 8000000 in
set_option maxRecDepth 100000 in
/-- a number of the script, or what stands for it -/
theorem qL_cell (l : Launch) (dC : Nat → ClassId) (dI : Nat → Nat → Nat) (cy : Nat → ClassId) (ws : va_W) (sz : Nat) (b Ls k : Nat) (xs : Nat → Int32) (hLs : Ls ≤ 1000) (hk : k ≤ 1000) : Met l yL_cell wsL_cell ({ frames := 0, cells := 0, slots := 0, locals := 0 }) (va_Pc [.ref b, .int (nI k)] (wPreSc (dC, dI) (tyL cy) b Ls xs (ws) sz)) (QI (dC, dI) (tyL cy) (fun (r : Int32) (_ : Unit) => True) (fun _ => ws) (va_A (ws) sz)) 0 0 (va_A (ws) sz) := by
  refine enSc (cc := cL_cell) (maxL := 2) (ret := (some .int)) (own := RL) (lv := [(0, .ref b), (1, .int (nI k))]) (by decide) rfl rfl (Nat.le_of_ble_eq_true rfl) rfl ?_
  intro p e s m below meth c ls A H locs hx hb hr hts hown hlocks hml hin hsz hK hP hD hS hA hl hXs hbl hbA
  generalize hQQ : MQ below _ _ s _ _ A = QQ
  have lk0 : (Cond.constant RL 7 (1205586405)).before (([.ref b, .int (nI k)] : List Value).toArray) s = true := hts _ (List.mem_of_getElem? (i := 1) rfl)
  refine lv_iload_n hx hb dL_cell_0 rfl (lv_at hl 1 rfl) ?_
  refine lv_aload_n hx hb dL_cell_1 rfl (lv_at hl 0 rfl) ?_
  refine va_slen hx hb hXs hbl hbA hS dL_cell_2 ?_
  refine to_i (y := nI Ls) rfl ?_
  refine n_ge (tgt := 12) hx hb dL_cell_3 (by decide) (by omega) (by omega) (fun c_1 => ?_) (fun c_1 => ?_)
  · refine lv_ldc (v := nI 1205586405) hx hb hown lk0 dL_cell_12 ?_
    refine lv_iload_n hx hb dL_cell_14 rfl (lv_at hl 1 rfl) ?_
    refine lv_bipush (v := nI 6) hx hb dL_cell_15 (by decide) ?_
    refine lv_iadd hx hb dL_cell_17 ?_
    refine to_i (y := nI (k + 6)) (nI_add _ _) ?_
    refine lv_imul hx hb dL_cell_18 ?_
    refine to_i (y := nI (1205586405 * (k + 6))) (pk_mul _ _) ?_
    rw [← hQQ]; exact end_i (u := ()) hx hb hr hlocks dL_cell_19 hK hP hD hS trivial (Nat.le_of_ble_eq_true rfl) (Nat.le_of_ble_eq_true rfl)
  · refine lv_aload_n hx hb dL_cell_6 rfl (lv_at hl 0 rfl) ?_
    refine lv_iload_n hx hb dL_cell_7 rfl (lv_at hl 1 rfl) ?_
    refine va_sld hx hb hXs hbl hbA hS (vp_in_nI c_1 (by omega)) dL_cell_8 ?_
    refine lv_goto (tgt := 19) hx hb dL_cell_9 (by decide) ?_
    rw [← hQQ]; exact end_i (u := ()) hx hb hr hlocks dL_cell_19 hK hP hD hS trivial (Nat.le_of_ble_eq_true rfl) (Nat.le_of_ble_eq_true rfl)

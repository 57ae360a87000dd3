/-! the law's wrappers: the class's world, and behind it the answer's cell -/
def ncasts : List (String × String) := [("java/lang/IllegalArgumentException", "java/lang/IndexOutOfBoundsException"), ("java/lang/IllegalStateException", "java/lang/IndexOutOfBoundsException"), ("java/lang/IllegalStateException", "java/lang/IllegalArgumentException")]
def amL (e0 mi : Nat) (A : Nat → Prop) (U : State) (H : Heap) : Prop := am e0 mi A U H ∧ ∀ x ∈ ncasts, va_Nc x.1 x.2 U
theorem amL_calling {e0 mi : Nat} {A : Nat → Prop} {U : State} {g : JFrame} {mk : MethodId} {a : Array Value} (h : amL e0 mi A U U.heap) : amL e0 mi A (U.calling g mk a) (U.calling g mk a).heap :=
  ⟨am_calling h.1, fun x hx => (h.2 x hx).moved (u := U) (Vm.Alike.refl U.vm)⟩
theorem amL_at {e0 mi : Nat} {A B : Nat → Prop} {s U : State} {H : Heap} {locs : List Loc} (h : amL e0 mi A s s.heap) (hS : va_S A s.heap H locs) (hB : ∀ q, B q → A q) (hU : U.heap = H) (hW : s.WarmedH U.vm) : amL e0 mi B U U.heap :=
  ⟨am_at h.1 hS hB hU hW, fun x hx => (h.2 x hx).moved hW.alike⟩
def wPreL (D : va_G) (tys : List (ClassId × FieldType)) (e0 mi : Nat) (ws : va_W) (sz : Nat) (U : State) : Prop := wPre D tys ws sz U ∧ amL e0 mi (va_A ws sz) U U.heap
theorem wPreL_blind {D : va_G} {tys : List (ClassId × FieldType)} {e0 mi : Nat} {ws : va_W} {sz : Nat} {av : List Value} : FrameBlind (va_Pc av (wPreL D tys e0 mi ws sz)) := fun a U g mk q => by
  obtain ⟨q0, ⟨q1, qP, qK, qD⟩, qa⟩ := q
  exact ⟨q0, ⟨q1, qP, va_K.moved (u := U) (U := U.calling g mk a) (Vm.Alike.refl U.vm) qK, qD⟩, amL_calling qa⟩
theorem enL {l : Launch} {y : MethodName} {wsC ws' : List Cond} {rm : Room} {D : va_G} {tys : List (ClassId × FieldType)} {e0 mi : Nat} {ws : va_W} {sz : Nat} {av : List Value} {Qc : (Nat → Prop) → Array Value → State → Outcome → State → Prop} {mc ms : Nat} {cc : ByteArray} {maxL : Nat} {ret : Option FieldType} {hh : List (Nat × Nat × Nat × Nat)} {own : String} {lv : List (Nat × Value)}
    (hy : plainName y.cls = true) (hw : wsC = Cond.codeWith y cc maxL ret hh :: ws') (how : y.cls = own) (hav : (lg_sl av).length ≤ maxL) (hlv : lv_args 0 av = lv)
    (body : ∀ (p : Program) (e : Env) (s : State) (m : MethodId) (below : List Frame) (meth : Method) (c : Code) (ls : Array Slot) (A : Nat → Prop) (H : Heap) (locs : List Loc), p.tables.exec = Jvm.exec → c.code = cc → meth.sig.returnType = ret → (∀ w ∈ wsC, w.before av.toArray s = true) → s.vm.findClass own = some m.cls → meth.locks = false → c.maxLocals = maxL → meth.name = y.name →
      s.heap.size = sz → va_K D vwCl tys s → va_P D vwCl ws H → va_D A ws → va_S A s.heap H locs → (∀ q, s.heap.size ≤ q → A q) → lv_has ls maxL lv → amL e0 mi A s s.heap → c.exceptionTable.toList = tableOf hh →
      W p l e rm s m av.toArray below meth c H locs 0 0 (MQ below (Qc A) av.toArray s mc ms A) (F0 m 0 ls [])) :
    Met l y wsC rm (va_Pc av (wPreL D tys e0 mi ws sz)) (Qc (va_A ws sz)) mc ms (va_A ws sz) := by
  refine va_MetW (cc := cc) (maxL := maxL) (ret := ret) (hh := hh) hy hw ?_
  intro p e s m args below meth c s₁ B hml hv
  obtain ⟨rfl, ⟨hsz, hP, hK, hD0⟩, ham⟩ := hv
  have hown : s.vm.findClass own = some m.cls := by rw [← how]; exact findClass_of_methodNamed B.named
  have hin : meth.name = y.name := (name_of_methodNamed B.named B.method).1
  have hD := hD0.self (sz := s.heap.size)
  have hl := lv_entry av (n := maxL) hav
  have ht := vx_table (x := y) B (atoms_spec (ws := wsC) B.pre _ (by rw [hw]; exact List.mem_cons_self))
  rw [hlv] at hl
  rw [lg_entry_eq]
  rw [← hsz] at ham ⊢
  exact body p e s m below meth c _ (va_A ws s.heap.size) s.heap [] B.exec B.bytes B.returns (atoms_spec (ws := wsC) B.pre) hown B.notSynchronized hml hin hsz hK hP hD va_S.rf (fun q h => Or.inr h) hl ham ht
/-- a call that speaks of the first part of the world leaves the second -/
theorem w_frame {D : va_G} {A : Nat → Prop} {w0 Y w1 : va_W} {H0 H H1 : Heap} {locs : List Loc} (hP : va_P D vwCl (w0 ++ Y) H) (hD : va_D A (w0 ++ Y)) (hS : va_S A H0 H locs) (hA : ∀ q, H0.size ≤ q → A q) (hk : ∀ q : Nat, q < H.size → ¬ va_A w0 H.size q → H1[q]? = H[q]?) (hP1 : va_P D vwCl w1 H1) (hD1 : va_D (va_A w0 H.size) w1) : va_P D vwCl (w1 ++ Y) H1 ∧ va_D A (w1 ++ Y) := by
  have hout : ∀ (k : Nat) (q : Nat × va_E), Y[k]? = some q → q.1 < H.size ∧ ¬ va_A w0 H.size q.1 := fun k q hq => by
    have hlt : q.1 < H.size := vx_lt hP (app_r (w := w0) hq)
    refine ⟨hlt, ?_⟩
    rintro (⟨k', x, h⟩ | h)
    · have e := hD.1 k' (w0.length + k) _ _ (app_at h) (app_r (w := w0) hq) rfl
      have := (List.getElem?_eq_some_iff.mp h).1
      omega
    · exact Nat.lt_irrefl _ (Nat.lt_of_lt_of_le hlt h)
  have hw : ∀ q, va_A w0 H.size q → A q := fun q h => by
    rcases h with ⟨k, x, h⟩ | h
    · exact hD.2 k (q, x) (app_at h)
    · exact hA q (Nat.le_trans hS.1 h)
  refine ⟨hP1.app (fun k q hq => (hP (w0.length + k) q (app_r hq)).kept (hk q.1 (hout k q hq).1 (hout k q hq).2)), (hD1.weaken (fun _ q _ h => hw q.1 h)).app ⟨fun i j p q hp hq e => ?_, fun k q hq => hD.2 _ q (app_r (w := w0) hq)⟩ (fun i j p q hp hq e => ?_)⟩
  · have := hD.1 (w0.length + i) (w0.length + j) _ _ (app_r hp) (app_r hq) e
    omega
  · exact (hout j q hq).2 (e ▸ hD1.2 i p hp)
theorem w_leftP {D : va_G} {w0 Y : va_W} {H : Heap} (hP : va_P D vwCl (w0 ++ Y) H) : va_P D vwCl w0 H := fun k q hq => hP k q (app_at hq)
theorem w_leftD {A : Nat → Prop} {w0 Y : va_W} (hD : va_D A (w0 ++ Y)) : va_D A w0 := ⟨fun i j p q hp hq e => hD.1 i j p q (app_at hp) (app_at hq) e, fun k q hq => hD.2 k q (app_at hq)⟩
section MyL
variable {p : Program} {l : Launch} {e : Env} {R : Room} {s : State} {m : MethodId} {args : Array Value} {below : List Frame} {meth : Method} {c : Code} {H : Heap} {locs : List Loc} {cells slots mc ms : Nat} {Q : State → Prop}
variable {pc : Nat} {ls : Array Slot} {rest st0 : List Value} {D : va_G} {A : Nat → Prop} {a : Array Value} {tys : List (ClassId × FieldType)} {w0 Y : va_W} {px : String → Prop}
theorem callY_ix {S : Type} {post : Int32 → S → Prop} {w : S → va_W} (hP : va_P D vwCl (w0 ++ Y) H) (hr : vx_Run p l e R s m args below meth c H locs cells slots mc ms (F0 m pc ls st0) rest (QI D tys post w (va_A w0 H.size) a) (XX D tys px w0 (va_A w0 H.size)) (va_A w0 H.size)) (hD : va_D A (w0 ++ Y)) (hS : va_S A s.heap H locs) (hA : ∀ q, s.heap.size ≤ q → A q)
    (kx : ∀ (E : String) (ce : Cell) (q9 : Addr) (H1 : Heap) (locs1 : List Loc), px E → va_P D vwCl (w0 ++ Y) H1 → va_S A s.heap H1 locs1 → H1[q9]? = some ce → ce.vm = .none → s.vm.findClass E = some ce.cls → vx_W p l e R s m args below meth c H1 locs1 (cells + mc) (slots + ms) Q (F0 m pc ls rest) q9)
    (kk : ∀ (r : Int32) (u : S) (H1 : Heap) (locs1 : List Loc), post r u → va_P D vwCl (w u ++ Y) H1 → va_D A (w u ++ Y) → va_S A s.heap H1 locs1 → W p l e R s m args below meth c H1 locs1 (cells + mc) (slots + ms) Q (F0 m (pc + 3) ls (.int r :: rest))) : W p l e R s m args below meth c H locs cells slots Q (F0 m pc ls st0) :=
  have hF := w_free (D := D) (tys := tys) (w_leftD hD) hS hA
  vx_calli hr hS (fun q _ h => hF q h) hF (fun q _ h => hF q h)
    (fun E ce q9 u t H1 locs1 ht hvm _ hB hz hk hS1 h1 h2 h3 => kx E ce q9 H1 locs1 hB.1 (w_frame hP hD hS hA hk (by rw [← ht]; exact hB.2.1) hB.2.2.2).1 hS1 h1 h2 h3)
    (fun r u t H1 locs1 ht hvm hw hB hz hk hS1 =>
      have z := w_frame hP hD hS hA hk (by rw [← ht]; exact hB.1) hB.2.2
      kk r u H1 locs1 hw z.1 z.2 hS1)
theorem callY_vx {S : Type} {post : S → Prop} {w : S → va_W} (hP : va_P D vwCl (w0 ++ Y) H) (hr : vx_Run p l e R s m args below meth c H locs cells slots mc ms (F0 m pc ls st0) rest (QV D tys post w (va_A w0 H.size) a) (XX D tys px w0 (va_A w0 H.size)) (va_A w0 H.size)) (hD : va_D A (w0 ++ Y)) (hS : va_S A s.heap H locs) (hA : ∀ q, s.heap.size ≤ q → A q)
    (kx : ∀ (E : String) (ce : Cell) (q9 : Addr) (H1 : Heap) (locs1 : List Loc), px E → va_P D vwCl (w0 ++ Y) H1 → va_S A s.heap H1 locs1 → H1[q9]? = some ce → ce.vm = .none → s.vm.findClass E = some ce.cls → vx_W p l e R s m args below meth c H1 locs1 (cells + mc) (slots + ms) Q (F0 m pc ls rest) q9)
    (kk : ∀ (u : S) (H1 : Heap) (locs1 : List Loc), post u → va_P D vwCl (w u ++ Y) H1 → va_D A (w u ++ Y) → va_S A s.heap H1 locs1 → W p l e R s m args below meth c H1 locs1 (cells + mc) (slots + ms) Q (F0 m (pc + 3) ls rest)) : W p l e R s m args below meth c H locs cells slots Q (F0 m pc ls st0) :=
  have hF := w_free (D := D) (tys := tys) (w_leftD hD) hS hA
  vx_callv hr hS (fun q _ h => hF q h) hF (fun q _ h => hF q h)
    (fun E ce q9 u t H1 locs1 ht hvm _ hB hz hk hS1 h1 h2 h3 => kx E ce q9 H1 locs1 hB.1 (w_frame hP hD hS hA hk (by rw [← ht]; exact hB.2.1) hB.2.2.2).1 hS1 h1 h2 h3)
    (fun u t H1 locs1 ht hvm hw hB hz hk hS1 =>
      have z := w_frame hP hD hS hA hk (by rw [← ht]; exact hB.1) hB.2.2
      kk u H1 locs1 hw z.1 z.2 hS1)
theorem callY_i {S : Type} {post : Int32 → S → Prop} {w : S → va_W} (hP : va_P D vwCl (w0 ++ Y) H) (hr : va_Run p l e R s m args below meth c H locs cells slots mc ms (F0 m pc ls st0) rest (QI D tys post w (va_A w0 H.size) a) (va_A w0 H.size)) (hD : va_D A (w0 ++ Y)) (hS : va_S A s.heap H locs) (hA : ∀ q, s.heap.size ≤ q → A q)
    (kk : ∀ (r : Int32) (u : S) (H1 : Heap) (locs1 : List Loc), post r u → va_P D vwCl (w u ++ Y) H1 → va_D A (w u ++ Y) → va_S A s.heap H1 locs1 → W p l e R s m args below meth c H1 locs1 (cells + mc) (slots + ms) Q (F0 m (pc + 3) ls (.int r :: rest))) : W p l e R s m args below meth c H locs cells slots Q (F0 m pc ls st0) :=
  have hF := w_free (D := D) (tys := tys) (w_leftD hD) hS hA
  va_calli hr hS (fun q _ h => hF q h) hF (fun r u t H1 locs1 ht hvm hw hB hz hk hS1 =>
    have z := w_frame hP hD hS hA hk (by rw [← ht]; exact hB.1) hB.2.2
    kk r u H1 locs1 hw z.1 z.2 hS1)
theorem callY_v {S : Type} {post : S → Prop} {w : S → va_W} (hP : va_P D vwCl (w0 ++ Y) H) (hr : va_Run p l e R s m args below meth c H locs cells slots mc ms (F0 m pc ls st0) rest (QV D tys post w (va_A w0 H.size) a) (va_A w0 H.size)) (hD : va_D A (w0 ++ Y)) (hS : va_S A s.heap H locs) (hA : ∀ q, s.heap.size ≤ q → A q)
    (kk : ∀ (u : S) (H1 : Heap) (locs1 : List Loc), post u → va_P D vwCl (w u ++ Y) H1 → va_D A (w u ++ Y) → va_S A s.heap H1 locs1 → W p l e R s m args below meth c H1 locs1 (cells + mc) (slots + ms) Q (F0 m (pc + 3) ls rest)) : W p l e R s m args below meth c H locs cells slots Q (F0 m pc ls st0) :=
  have hF := w_free (D := D) (tys := tys) (w_leftD hD) hS hA
  va_callv hr hS (fun q _ h => hF q h) hF (fun u t H1 locs1 ht hvm hw hB hz hk hS1 =>
    have z := w_frame hP hD hS hA hk (by rw [← ht]; exact hB.1) hB.2.2
    kk u H1 locs1 hw z.1 z.2 hS1)
end MyL
theorem okU_item {L : List Lc} {N : NN} {i c n : Nat} (h : okC L N) (hX : okX L N) (hn : n ≤ N 1 0 c) : okC L (nu N 2 i (va_up (N 2 i) c n)) ∧ okX L (nu N 2 i (va_up (N 2 i) c n)) := ⟨okC_item h hn, hX⟩

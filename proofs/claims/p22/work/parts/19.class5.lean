section MyXr
variable {p : Program} {l : Launch} {e : Env} {R : Room} {s : State} {m : MethodId} {args : Array Value} {below : List Frame} {meth : Method} {c : Code} {H : Heap} {locs : List Loc} {cells slots mc ms : Nat} {Q : State → Prop}
variable {cc : ByteArray} {pc : Nat} {ls : Array Slot} {rest st0 : List Value} {D : va_G} {A : Nat → Prop} {a : Array Value} {tys : List (ClassId × FieldType)} {ws : va_W} {px : String → Prop}
theorem callX_r {S : Type} {post : Nat → S → Prop} {w : S → va_W} (hr : vx_Run p l e R s m args below meth c H locs cells slots mc ms (F0 m pc ls st0) rest (QR D tys post w (va_A ws H.size) a) (XX D tys px ws (va_A ws H.size)) (va_A ws H.size)) (hD : va_D A ws) (hS : va_S A s.heap H locs) (hA : ∀ q, s.heap.size ≤ q → A q)
    (kx : ∀ (E : String) (ce : Cell) (q9 : Addr) (H1 : Heap) (locs1 : List Loc), px E → va_P D vwCl ws H1 → va_S A s.heap H1 locs1 → H1[q9]? = some ce → ce.vm = .none → s.vm.findClass E = some ce.cls → vx_W p l e R s m args below meth c H1 locs1 (cells + mc) (slots + ms) Q (F0 m pc ls rest) q9)
    (kk : ∀ (r : Nat) (u : S) (H1 : Heap) (locs1 : List Loc), post r u → va_P D vwCl (w u) H1 → va_D A (w u) → va_S A s.heap H1 locs1 → W p l e R s m args below meth c H1 locs1 (cells + mc) (slots + ms) Q (F0 m (pc + 3) ls (.ref r :: rest))) : W p l e R s m args below meth c H locs cells slots Q (F0 m pc ls st0) := by
  have hF := w_free (D := D) (tys := tys) hD hS hA
  intro T hT X
  rcases hr T hT X with ⟨v, st₀, t, T', L, h0, X', hL, e1, e2, ⟨⟨u, r, hv, -, hq, hB⟩, hF1⟩, st⟩ | ⟨q, st₀, t, T', L, E, ce, h0, X', hL, e1, e2, ⟨u, -, hB, hF1⟩, hce, hcv, hcl, st⟩
  · cases hv
    obtain ⟨k1, k2, k3⟩ := vx_keep h0 e1 hS (fun q _ h => hF q h) hF hL hF1
    obtain ⟨t2, a1, b1⟩ := kk r u T'.heap (locs ++ L) hq (by rw [e1]; exact hB.1) (hB.2.2.weaken (fun _ q _ h => hF q.1 h)) k3 T' rfl X'
    exact ⟨t2, st t2 a1, b1⟩
  · obtain ⟨k1, k2, k3⟩ := vx_keep h0 e1 hS (fun q _ h => hF q h) hF hL hF1
    obtain ⟨t2, a1, b1⟩ := kx E ce q T'.heap (locs ++ L) hB.1 (by rw [e1]; exact hB.2.1) k3 (by rw [e1]; exact hce) hcv hcl T' rfl X'
    exact ⟨t2, st.trans a1, b1⟩
end MyXr
def V_latest (a : Int32) : Nat := if isCl a then 0 else 1
def V_version (N : NN) (a d : Int32) : Nat := if isCt N 0 a then (if isCl d then 0 else 2) else 1
def V_at (N : NN) (k : Nat) (a : Int32) : Nat := if isCt N k a then 0 else 1
def V_owes (N : NN) (a b : Int32) : Nat := if isCt N 0 a then (if isSd b then 0 else 2) else 1
def V_relate (a n f : Int32) : Nat := if isCl a ∧ isOC (ix a) n ∧ isOC (ix a) f then 0 else 1
def V_mark (S : SS) (N : NN) (a b d mk : Int32) : Nat :=
  if isCt N 0 a then (if isSd b ∧ isCl d ∧ (nI 1 ≤ mk ∧ mk ≤ nI 2) then (if isDr S (ix a) ∧ ¬ (N 2 (ix a) (ix d) = 0 ∧ (mk = nI 2 ∨ N 1 0 (ix d) = 0)) then 0 else 3) else 2) else 1
def V_renew (S : SS) (N : NN) (a b d : Int32) : Nat :=
  if isCt N 0 a then (if isSd b ∧ isCl d then (if isDr S (ix a) ∧ hasLater N (ix a) (ix d) then 0 else 3) else 2) else 1
def V_perform (S : SS) (N : NN) (a : Int32) : Nat := if isCt N 5 a then (if isLive S (ix a) then 0 else 2) else 1
def V_notice (S : SS) (N : NN) (a : Int32) : Nat := if isCt N 5 a then (if S 9 (ix a) 0 = 0 ∧ ¬ S 0 0 0 ≤ S 9 (ix a) 1 then 0 else 2) else 1
def V_settle (S : SS) (N : NN) (a : Int32) : Nat := if isCt N 5 a then (if S 9 (ix a) 0 = nI 3 then 0 else 2) else 1
def V_pass (S : SS) (a : Int32) : Nat := if nI 1 ≤ a ∧ a ≤ nI 100 then (if S 0 0 0 + a ≤ nI 9999 then 0 else 2) else 1

set_option maxHeartbeats 4000000 in
set_option maxRecDepth 100000 in
/-- latest -/
theorem qX3_latest (l : Launch) (dC : Nat → ClassId) (dI : Nat → Nat → Nat) (cy : Nat → ClassId) (e0 mi : Nat) (ad : Lc → Nat) (L : List Lc) (S : SS) (N : NN) (sz : Nat) (a : Int32) (hI : okC L N) (hst : l.stackTraces = false) : vx_Met l yX3_latest wsX3_latest ({ frames := 7, cells := 1, slots := 6, locals := 110 }) (va_Pc [.ref (ad (10, 0)), .int a] (wPreX (dC, dI) (tyL cy) e0 mi (cw cy e0 ad L S N) sz)) (QI (dC, dI) (tyL cy) (fun (r : Int32) (u : CS) => V_latest a = 0 ∧ r = nI (N 1 0 (ix a)) ∧ u = (S, N)) (cwU cy e0 ad L) (va_A (cw cy e0 ad L S N) sz)) (XX (dC, dI) (tyL cy) (fun E => (V_latest a = 1 ∧ E = xIA)) (cw cy e0 ad L S N) (va_A (cw cy e0 ad L S N) sz)) 1 6 (va_A (cw cy e0 ad L S N) sz) := by
  refine enX (cc := cX3_latest) (maxL := 2) (ret := (some .int)) (own := RX3) (lv := [(0, .ref (ad (10, 0))), (1, .int a)]) (by decide) rfl rfl (Nat.le_of_ble_eq_true rfl) rfl ?_
  intro p e s m below meth c ls A H locs hx hb hr hts hown hlocks hml hin hsz hK hP hD hS hA hl ham hnt
  generalize hQQ : vx_MQ below _ _ _ s _ _ A = QQ
  have hI0 := hI
  obtain ⟨⟨hM0, hM8, hM9, hMF, hM15, hM17⟩, hV, hLt, hO, hDu, hnc, hnd, hcC, hcD, hcC2, hcD2⟩ := hI
  refine lv_iload_n hx hb dX3_latest_0 rfl (lv_at hl 1 rfl) ?_
  refine callX_v (vx_runS (As := [.int a]) (rest := []) ⟨hx, hb, hml, hown, hts⟩ (qX3_checkClause l dC dI cy e0 mi (cw cy e0 ad L S N) H.size a hst) (va_cwS 1 hts gX3_latest_X3_checkClause rfl rfl rfl (by decide +kernel) ⟨Nat.le_of_ble_eq_true rfl, Nat.le_of_ble_eq_true rfl⟩) (preXS hK hP hD hS hA ham) rfl rfl hl.1 rfl (lv_room (Nat.le_of_ble_eq_true rfl)) dX3_latest_1 ⟨Nat.le_of_ble_eq_true rfl, Nat.le_of_ble_eq_true rfl⟩) hD hS hA (fun E ce q9 H locs hpx hP hS hc1 hc2 hc3 => by rw [← hQQ]; exact outX hnt hlocks hc1 hc2 hc3 (⟨by simp only [V_latest, hpx.2, and_true, true_and, and_false, false_and, if_true, if_false, not_true, not_false_iff, not_false_eq_true, or_true, true_or, or_false, false_or, ite_true, ite_false, and_self, Classical.not_not, Bool.false_eq_true], hpx.1⟩) hK hP hD hS (Nat.le_of_ble_eq_true rfl) (Nat.le_of_ble_eq_true rfl)) (fun u H locs w_2 hP hD hS => ?_)
  have hcnp := w_2
  obtain ⟨cn, hcn, ex, ecn⟩ := cl_ix hcnp
  subst ex
  have hP : va_P (dC, dI) vwCl (cw cy e0 ad L S N) H := hP
  have hD : va_D A (cw cy e0 ad L S N) := hD
  refine lv_aload_n hx hb dX3_latest_4 rfl (lv_at hl 0 rfl) ?_
  refine lv_iload_n hx hb dX3_latest_5 rfl (lv_at hl 1 rfl) ?_
  obtain ⟨z_3, hz_3⟩ := pl_get (ad := ad) (f := cc cy e0 ad S N) (hMF 10 (by decide))
  rw [show cc cy e0 ad S N (10, 0) = .inr (4, [.ref (ad (11, 0)), .ref (ad (12, 0)), .ref (ad (13, 0)), .ref (ad (14, 0)), .ref (ad (16, 0)), .int (S 0 0 0)]) from rfl] at hz_3
  refine call_i (va_runV (As := [.int (nI cn)]) (rest := []) ⟨hx, hb, hml, hown, hts⟩ (qX3_newestNumber l dC dI cy e0 mi ad L S N H.size cn hI0 (by omega)) (cwV 1 hts gX3_latest_X3_newestNumber rfl rfl rfl (by decide +kernel) ⟨Nat.le_of_ble_eq_true rfl, Nat.le_of_ble_eq_true rfl⟩) (preV hK hP hD (w_recv (ci := 4) (q0 := z_3) hK hP hz_3 rfl)) rfl rfl hl.1 rfl (lv_room (Nat.le_of_ble_eq_true rfl)) dX3_latest_6 ⟨Nat.le_of_ble_eq_true rfl, Nat.le_of_ble_eq_true rfl⟩) hD hS hA (fun r_4 u H locs w_5 hP hD hS => ?_)
  obtain ⟨rfl, rfl⟩ := w_5
  have hP : va_P (dC, dI) vwCl (cw cy e0 ad L S N) H := hP
  have hD : va_D A (cw cy e0 ad L S N) := hD
  rw [← hQQ]; apply vx_ret; exact end_i (u := (S, N)) hx hb hr hlocks dX3_latest_9 hK hP hD hS ⟨by simp only [V_latest, eq_true hcnp, ecn, and_true, true_and, and_false, false_and, if_true, if_false, not_true, not_false_iff, not_false_eq_true, or_true, true_or, or_false, false_or, ite_true, ite_false, and_self, Classical.not_not, Bool.false_eq_true], by simp only [ecn, and_true, true_and, and_false, false_and, if_true, if_false, not_true, not_false_iff, not_false_eq_true, or_true, true_or, or_false, false_or, ite_true, ite_false, and_self, Classical.not_not, Bool.false_eq_true], rfl⟩ (Nat.le_of_ble_eq_true rfl) (Nat.le_of_ble_eq_true rfl)

set_option maxHeartbeats 4000000 in
set_option maxRecDepth 100000 in
/-- version -/
theorem qX3_version (l : Launch) (dC : Nat → ClassId) (dI : Nat → Nat → Nat) (cy : Nat → ClassId) (e0 mi : Nat) (ad : Lc → Nat) (L : List Lc) (S : SS) (N : NN) (sz : Nat) (a d : Int32) (hI : okC L N) (hst : l.stackTraces = false) : vx_Met l yX3_version wsX3_version ({ frames := 7, cells := 2, slots := 12, locals := 111 }) (va_Pc [.ref (ad (10, 0)), .int a, .int d] (wPreX (dC, dI) (tyL cy) e0 mi (cw cy e0 ad L S N) sz)) (QI (dC, dI) (tyL cy) (fun (r : Int32) (u : CS) => V_version N a d = 0 ∧ r = nI (N 2 (ix a) (ix d)) ∧ u = (S, N)) (cwU cy e0 ad L) (va_A (cw cy e0 ad L S N) sz)) (XX (dC, dI) (tyL cy) (fun E => (V_version N a d = 1 ∧ E = xIO) ∨ (V_version N a d = 2 ∧ E = xIA)) (cw cy e0 ad L S N) (va_A (cw cy e0 ad L S N) sz)) 2 12 (va_A (cw cy e0 ad L S N) sz) := by
  refine enX (cc := cX3_version) (maxL := 4) (ret := (some .int)) (own := RX3) (lv := [(0, .ref (ad (10, 0))), (1, .int a), (2, .int d)]) (by decide) rfl rfl (Nat.le_of_ble_eq_true rfl) rfl ?_
  intro p e s m below meth c ls A H locs hx hb hr hts hown hlocks hml hin hsz hK hP hD hS hA hl ham hnt
  generalize hQQ : vx_MQ below _ _ _ s _ _ A = QQ
  have hI0 := hI
  obtain ⟨⟨hM0, hM8, hM9, hMF, hM15, hM17⟩, hV, hLt, hO, hDu, hnc, hnd, hcC, hcD, hcC2, hcD2⟩ := hI
  refine lv_aload_n hx hb dX3_version_0 rfl (lv_at hl 0 rfl) ?_
  refine lv_iload_n hx hb dX3_version_1 rfl (lv_at hl 1 rfl) ?_
  obtain ⟨z_1, hz_1⟩ := pl_get (ad := ad) (f := cc cy e0 ad S N) (hMF 10 (by decide))
  rw [show cc cy e0 ad S N (10, 0) = .inr (4, [.ref (ad (11, 0)), .ref (ad (12, 0)), .ref (ad (13, 0)), .ref (ad (14, 0)), .ref (ad (16, 0)), .int (S 0 0 0)]) from rfl] at hz_1
  refine callX_r (vx_runV (As := [.int a]) (rest := []) ⟨hx, hb, hml, hown, hts⟩ (qX3_contractAt l dC dI cy e0 mi ad L S N H.size a hI0 hst) (cwV 1 hts gX3_version_X3_contractAt rfl rfl rfl (by decide +kernel) ⟨Nat.le_of_ble_eq_true rfl, Nat.le_of_ble_eq_true rfl⟩) (preXV hK hP hD hS hA ham (w_recv (ci := 4) (q0 := z_1) hK hP hz_1 rfl)) rfl rfl hl.1 rfl (lv_room (Nat.le_of_ble_eq_true rfl)) dX3_version_2 ⟨Nat.le_of_ble_eq_true rfl, Nat.le_of_ble_eq_true rfl⟩) hD hS hA (fun E ce q9 H locs hpx hP hS hc1 hc2 hc3 => by rw [← hQQ]; exact outX hnt hlocks hc1 hc2 hc3 (Or.inl ⟨by simp only [V_version, hpx.2, and_true, true_and, and_false, false_and, if_true, if_false, not_true, not_false_iff, not_false_eq_true, or_true, true_or, or_false, false_or, ite_true, ite_false, and_self, Classical.not_not, Bool.false_eq_true], hpx.1⟩) hK hP hD hS (Nat.le_of_ble_eq_true rfl) (Nat.le_of_ble_eq_true rfl)) (fun r_2 u H locs w_3 hP hD hS => ?_)
  obtain ⟨⟨i, hi, ex, ei, rfl⟩, hct, rfl⟩ := w_3
  subst ex
  have hP : va_P (dC, dI) vwCl (cw cy e0 ad L S N) H := hP
  have hD : va_D A (cw cy e0 ad L S N) := hD
  refine lv_astore_n (lv' := [(3, .ref (ad (0, i))), (0, .ref (ad (10, 0))), (1, .int (nI i)), (2, .int d)]) hx hb dX3_version_5 rfl hl (by decide) rfl (fun ls hl => ?_)
  refine lv_iload_n hx hb dX3_version_6 rfl (lv_at hl 3 rfl) ?_
  refine callX_v (vx_runS (As := [.int d]) (rest := []) ⟨hx, hb, hml, hown, hts⟩ (qX3_checkClause l dC dI cy e0 mi (cw cy e0 ad L S N) H.size d hst) (va_cwS 1 hts gX3_version_X3_checkClause rfl rfl rfl (by decide +kernel) ⟨Nat.le_of_ble_eq_true rfl, Nat.le_of_ble_eq_true rfl⟩) (preXS hK hP hD hS hA ham) rfl rfl hl.1 rfl (lv_room (Nat.le_of_ble_eq_true rfl)) dX3_version_7 ⟨Nat.le_of_ble_eq_true rfl, Nat.le_of_ble_eq_true rfl⟩) hD hS hA (fun E ce q9 H locs hpx hP hS hc1 hc2 hc3 => by rw [← hQQ]; exact outX hnt hlocks hc1 hc2 hc3 (Or.inr (⟨by simp only [V_version, eq_true hct, ei, hpx.2, and_true, true_and, and_false, false_and, if_true, if_false, not_true, not_false_iff, not_false_eq_true, or_true, true_or, or_false, false_or, ite_true, ite_false, and_self, Classical.not_not, Bool.false_eq_true], hpx.1⟩)) hK hP hD hS (Nat.le_of_ble_eq_true rfl) (Nat.le_of_ble_eq_true rfl)) (fun u H locs w_5 hP hD hS => ?_)
  have hcnp := w_5
  obtain ⟨cn, hcn, ex, ecn⟩ := cl_ix hcnp
  subst ex
  have hP : va_P (dC, dI) vwCl (cw cy e0 ad L S N) H := hP
  have hD : va_D A (cw cy e0 ad L S N) := hD
  refine lv_aload_n hx hb dX3_version_10 rfl (lv_at hl 0 rfl) ?_
  refine lv_iload_n hx hb dX3_version_11 rfl (lv_at hl 3 rfl) ?_
  refine call_i (va_runS (As := [.ref (ad (0, i)), .int (nI cn)]) (rest := []) ⟨hx, hb, hml, hown, hts⟩ (qX3_itemNumber l dC dI cy e0 mi ad L S N H.size i cn hI0 (by omega) (by omega)) (va_cwS 2 hts gX3_version_X3_itemNumber rfl rfl rfl (by decide +kernel) ⟨Nat.le_of_ble_eq_true rfl, Nat.le_of_ble_eq_true rfl⟩) (preS hK hP hD) rfl rfl hl.1 rfl (lv_room (Nat.le_of_ble_eq_true rfl)) dX3_version_12 ⟨Nat.le_of_ble_eq_true rfl, Nat.le_of_ble_eq_true rfl⟩) hD hS hA (fun r_6 u H locs w_7 hP hD hS => ?_)
  obtain ⟨rfl, rfl⟩ := w_7
  have hP : va_P (dC, dI) vwCl (cw cy e0 ad L S N) H := hP
  have hD : va_D A (cw cy e0 ad L S N) := hD
  rw [← hQQ]; apply vx_ret; exact end_i (u := (S, N)) hx hb hr hlocks dX3_version_15 hK hP hD hS ⟨by simp only [V_version, eq_true hct, eq_true hcnp, ei, ecn, and_true, true_and, and_false, false_and, if_true, if_false, not_true, not_false_iff, not_false_eq_true, or_true, true_or, or_false, false_or, ite_true, ite_false, and_self, Classical.not_not, Bool.false_eq_true], by simp only [ei, ecn, and_true, true_and, and_false, false_and, if_true, if_false, not_true, not_false_iff, not_false_eq_true, or_true, true_or, or_false, false_or, ite_true, ite_false, and_self, Classical.not_not, Bool.false_eq_true], rfl⟩ (Nat.le_of_ble_eq_true rfl) (Nat.le_of_ble_eq_true rfl)

def K_off (N : NN) (i : Nat) : Nat → Nat
  | 0 => 0
  | c + 1 => if hasLater N i c then K_off N i c + 1 else K_off N i c
theorem K_off_le (N : NN) (i : Nat) : ∀ c, K_off N i c ≤ c
  | 0 => Nat.le_refl _
  | c + 1 => by
    have := K_off_le N i c
    simp only [K_off]
    split <;> omega

set_option maxHeartbeats 4000000 in
set_option maxRecDepth 100000 in
/-- offered -/
theorem qX3_offered (l : Launch) (dC : Nat → ClassId) (dI : Nat → Nat → Nat) (cy : Nat → ClassId) (e0 mi : Nat) (ad : Lc → Nat) (L : List Lc) (S : SS) (N : NN) (sz : Nat) (a : Int32) (hI : okC L N) (hst : l.stackTraces = false) : vx_Met l yX3_offered wsX3_offered ({ frames := 7, cells := 1, slots := 6, locals := 111 }) (va_Pc [.ref (ad (10, 0)), .int a] (wPreX (dC, dI) (tyL cy) e0 mi (cw cy e0 ad L S N) sz)) (QI (dC, dI) (tyL cy) (fun (r : Int32) (u : CS) => V_at N 0 a = 0 ∧ r = (if isDr S (ix a) then nI (K_off N (ix a) 10) else nI 0) ∧ u = (S, N)) (cwU cy e0 ad L) (va_A (cw cy e0 ad L S N) sz)) (XX (dC, dI) (tyL cy) (fun E => (V_at N 0 a = 1 ∧ E = xIO)) (cw cy e0 ad L S N) (va_A (cw cy e0 ad L S N) sz)) 1 6 (va_A (cw cy e0 ad L S N) sz) := by
  refine enX (cc := cX3_offered) (maxL := 5) (ret := (some .int)) (own := RX3) (lv := [(0, .ref (ad (10, 0))), (1, .int a)]) (by decide) rfl rfl (Nat.le_of_ble_eq_true rfl) rfl ?_
  intro p e s m below meth c ls A H locs hx hb hr hts hown hlocks hml hin hsz hK hP hD hS hA hl ham hnt
  generalize hQQ : vx_MQ below _ _ _ s _ _ A = QQ
  have hI0 := hI
  obtain ⟨⟨hM0, hM8, hM9, hMF, hM15, hM17⟩, hV, hLt, hO, hDu, hnc, hnd, hcC, hcD, hcC2, hcD2⟩ := hI
  refine lv_aload_n hx hb dX3_offered_0 rfl (lv_at hl 0 rfl) ?_
  refine lv_iload_n hx hb dX3_offered_1 rfl (lv_at hl 1 rfl) ?_
  obtain ⟨z_1, hz_1⟩ := pl_get (ad := ad) (f := cc cy e0 ad S N) (hMF 10 (by decide))
  rw [show cc cy e0 ad S N (10, 0) = .inr (4, [.ref (ad (11, 0)), .ref (ad (12, 0)), .ref (ad (13, 0)), .ref (ad (14, 0)), .ref (ad (16, 0)), .int (S 0 0 0)]) from rfl] at hz_1
  refine callX_r (vx_runV (As := [.int a]) (rest := []) ⟨hx, hb, hml, hown, hts⟩ (qX3_contractAt l dC dI cy e0 mi ad L S N H.size a hI0 hst) (cwV 1 hts gX3_offered_X3_contractAt rfl rfl rfl (by decide +kernel) ⟨Nat.le_of_ble_eq_true rfl, Nat.le_of_ble_eq_true rfl⟩) (preXV hK hP hD hS hA ham (w_recv (ci := 4) (q0 := z_1) hK hP hz_1 rfl)) rfl rfl hl.1 rfl (lv_room (Nat.le_of_ble_eq_true rfl)) dX3_offered_2 ⟨Nat.le_of_ble_eq_true rfl, Nat.le_of_ble_eq_true rfl⟩) hD hS hA (fun E ce q9 H locs hpx hP hS hc1 hc2 hc3 => by rw [← hQQ]; exact outX hnt hlocks hc1 hc2 hc3 (⟨by simp only [V_at, hpx.2, and_true, true_and, and_false, false_and, if_true, if_false, not_true, not_false_iff, not_false_eq_true, or_true, true_or, or_false, false_or, ite_true, ite_false, and_self, Classical.not_not, Bool.false_eq_true], hpx.1⟩) hK hP hD hS (Nat.le_of_ble_eq_true rfl) (Nat.le_of_ble_eq_true rfl)) (fun r_2 u H locs w_3 hP hD hS => ?_)
  obtain ⟨⟨i, hi, ex, ei, rfl⟩, hct, rfl⟩ := w_3
  subst ex
  have hP : va_P (dC, dI) vwCl (cw cy e0 ad L S N) H := hP
  have hD : va_D A (cw cy e0 ad L S N) := hD
  refine lv_astore_n (lv' := [(2, .ref (ad (0, i))), (0, .ref (ad (10, 0))), (1, .int (nI i))]) hx hb dX3_offered_5 rfl hl (by decide) rfl (fun ls hl => ?_)
  refine lv_aload_n hx hb dX3_offered_6 rfl (lv_at hl 0 rfl) ?_
  obtain ⟨z_4, hz_4⟩ := pl_get (ad := ad) (f := cc cy e0 ad S N) (hM0 0 i (by decide) (by omega))
  rw [show cc cy e0 ad S N (0, i) = .inr (1, [.ref (ad (1, i)), .ref (ad (2, i)), .ref (ad (5, i)), .ref (ad (6, i)), .ref (ad (7, i))]) from rfl] at hz_4
  refine call_i (va_runV (As := []) (rest := []) ⟨hx, hb, hml, hown, hts⟩ (qX0_isDraft l dC dI cy e0 mi ad L S N H.size i hI0 hi) (cwV 0 hts gX3_offered_X0_isDraft rfl rfl rfl (by decide +kernel) ⟨Nat.le_of_ble_eq_true rfl, Nat.le_of_ble_eq_true rfl⟩) (preV hK hP hD (w_recv (ci := 1) (q0 := z_4) hK hP hz_4 rfl)) rfl rfl hl.1 rfl (lv_room (Nat.le_of_ble_eq_true rfl)) dX3_offered_7 ⟨Nat.le_of_ble_eq_true rfl, Nat.le_of_ble_eq_true rfl⟩) hD hS hA (fun r_5 u H locs w_6 hP hD hS => ?_)
  obtain ⟨rfl, rfl⟩ := w_6
  have hP : va_P (dC, dI) vwCl (cw cy e0 ad L S N) H := hP
  have hD : va_D A (cw cy e0 ad L S N) := hD
  refine br_ne (tgt := 15) hx hb dX3_offered_10 (by decide) (fun c_7 => ?_) (fun c_7 => ?_)
  · refine lv_iconst (v := nI 0) hx hb dX3_offered_15 (by decide) ?_
    refine lv_istore_n (lv' := [(3, .int (nI 0)), (2, .ref (ad (0, i))), (0, .ref (ad (10, 0))), (1, .int (nI i))]) hx hb dX3_offered_16 rfl hl (by decide) rfl (fun ls hl => ?_)
    refine lv_iconst (v := nI 0) hx hb dX3_offered_17 (by decide) ?_
    refine lv_istore (lv' := [(4, .int (nI 0)), (3, .int (nI 0)), (2, .ref (ad (0, i))), (0, .ref (ad (10, 0))), (1, .int (nI i))]) hx hb dX3_offered_18 hl (by decide) rfl (fun ls hl => ?_)
    have hnh : ¬ hasLater N i 0 ∨ True := Or.inr trivial
    have hl_of : ∀ (k9 j : Nat), 10 - j = k9 → j ≤ 10 → ∀ (H : Heap) (locs : List Loc) (ls : Array Slot), va_P (dC, dI) vwCl (cw cy e0 ad L S N) H → va_D A (cw cy e0 ad L S N) → va_S A s.heap H locs → lv_has ls 5 [(0, .ref (ad (10, 0))), (1, .int (nI i)), (2, .ref (ad (0, i))), (3, .int (nI (K_off N i j))), (4, .int (nI j))] → W p l e ({ frames := 7, cells := 1, slots := 6, locals := 111 }) s m (([.ref (ad (10, 0)), .int (nI i)] : List Value).toArray) below meth c H locs 1 6 QQ (F0 m 20 ls []) := by
      intro k9
      induction k9 using Nat.strongRecOn with
      | _ k9 ih =>
        intro j  hk9 hle9  H locs ls hP hD hS hl
        refine lv_iload hx hb dX3_offered_20 (lv_at hl 4 rfl) ?_
        refine lv_bipush (v := nI 10) hx hb dX3_offered_22 (by decide) ?_
        refine n_ge (tgt := 46) hx hb dX3_offered_24 (by decide) (by omega) (by omega) (fun c_8 => ?_) (fun c_8 => ?_)
        · obtain rfl : j = 10 := by omega
          refine lv_iload_n hx hb dX3_offered_46 rfl (lv_at hl 3 rfl) ?_
          rw [← hQQ]; apply vx_ret; exact end_i (u := (S, N)) hx hb hr hlocks dX3_offered_47 hK hP hD hS ⟨by simp only [V_at, eq_true hct, eq_true c_7, ei, and_true, true_and, and_false, false_and, if_true, if_false, not_true, not_false_iff, not_false_eq_true, or_true, true_or, or_false, false_or, ite_true, ite_false, and_self, Classical.not_not, Bool.false_eq_true], by simp only [eq_true hct, eq_true c_7, ei, and_true, true_and, and_false, false_and, if_true, if_false, not_true, not_false_iff, not_false_eq_true, or_true, true_or, or_false, false_or, ite_true, ite_false, and_self, Classical.not_not, Bool.false_eq_true], rfl⟩ (Nat.le_of_ble_eq_true rfl) (Nat.le_of_ble_eq_true rfl)
        · refine lv_aload_n hx hb dX3_offered_27 rfl (lv_at hl 0 rfl) ?_
          refine lv_aload_n hx hb dX3_offered_28 rfl (lv_at hl 2 rfl) ?_
          refine lv_iload hx hb dX3_offered_29 (lv_at hl 4 rfl) ?_
          obtain ⟨z_9, hz_9⟩ := pl_get (ad := ad) (f := cc cy e0 ad S N) (hMF 10 (by decide))
          rw [show cc cy e0 ad S N (10, 0) = .inr (4, [.ref (ad (11, 0)), .ref (ad (12, 0)), .ref (ad (13, 0)), .ref (ad (14, 0)), .ref (ad (16, 0)), .int (S 0 0 0)]) from rfl] at hz_9
          refine call_i (va_runV (As := [.ref (ad (0, i)), .int (nI j)]) (rest := []) ⟨hx, hb, hml, hown, hts⟩ (qX3_hasLaterVersion l dC dI cy e0 mi ad L S N H.size i j hI0 hi (by omega)) (cwV 2 hts gX3_offered_X3_hasLaterVersion rfl rfl rfl (by decide +kernel) ⟨Nat.le_of_ble_eq_true rfl, Nat.le_of_ble_eq_true rfl⟩) (preV hK hP hD (w_recv (ci := 4) (q0 := z_9) hK hP hz_9 rfl)) rfl rfl hl.1 rfl (lv_room (Nat.le_of_ble_eq_true rfl)) dX3_offered_31 ⟨Nat.le_of_ble_eq_true rfl, Nat.le_of_ble_eq_true rfl⟩) hD hS hA (fun r_10 u H locs w_11 hP hD hS => ?_)
          obtain ⟨rfl, rfl⟩ := w_11
          have hP : va_P (dC, dI) vwCl (cw cy e0 ad L S N) H := hP
          have hD : va_D A (cw cy e0 ad L S N) := hD
          refine br_eq (tgt := 40) hx hb dX3_offered_34 (by decide) (fun c_12 => ?_) (fun c_12 => ?_)
          · refine lv_iinc (v := nI (j + 1)) (lv' := [(4, .int (nI (j + 1))), (0, .ref (ad (10, 0))), (1, .int (nI i)), (2, .ref (ad (0, i))), (3, .int (nI (K_off N i j)))]) hx hb dX3_offered_40 hl (k := 4) rfl (by rw [show Int32.ofInt 1 = 1 from rfl]; exact nI_1 _) (by decide) rfl (fun ls hl => ?_)
            refine lv_goto (tgt := 20) hx hb dX3_offered_43 (by decide) ?_
            have e9 : K_off N i (j + 1) = K_off N i j := by simp only [K_off, eq_true hct, eq_true c_7, c_12, ei, and_true, true_and, and_false, false_and, if_true, if_false, not_true, not_false_iff, not_false_eq_true, or_true, true_or, or_false, false_or, ite_true, ite_false, and_self, Classical.not_not, Bool.false_eq_true]
            exact ih (10 - (j + 1)) (by omega) (j + 1)  rfl (by omega)  H locs ls hP hD hS (by rw [e9]; exact lv_sub hl [1, 2, 3, 4, 0] rfl)
          · refine lv_iinc (v := nI (K_off N i j + 1)) (lv' := [(3, .int (nI (K_off N i j + 1))), (0, .ref (ad (10, 0))), (1, .int (nI i)), (2, .ref (ad (0, i))), (4, .int (nI j))]) hx hb dX3_offered_37 hl (k := 3) rfl (by rw [show Int32.ofInt 1 = 1 from rfl]; exact nI_1 _) (by decide) rfl (fun ls hl => ?_)
            refine lv_iinc (v := nI (j + 1)) (lv' := [(4, .int (nI (j + 1))), (3, .int (nI (K_off N i j + 1))), (0, .ref (ad (10, 0))), (1, .int (nI i)), (2, .ref (ad (0, i)))]) hx hb dX3_offered_40 hl (k := 4) rfl (by rw [show Int32.ofInt 1 = 1 from rfl]; exact nI_1 _) (by decide) rfl (fun ls hl => ?_)
            refine lv_goto (tgt := 20) hx hb dX3_offered_43 (by decide) ?_
            have e9 : K_off N i (j + 1) = K_off N i j + 1 := by simp only [K_off, eq_true hct, eq_true c_7, eq_true c_12, ei, and_true, true_and, and_false, false_and, if_true, if_false, not_true, not_false_iff, not_false_eq_true, or_true, true_or, or_false, false_or, ite_true, ite_false, and_self, Classical.not_not, Bool.false_eq_true]
            exact ih (10 - (j + 1)) (by omega) (j + 1)  rfl (by omega)  H locs ls hP hD hS (by rw [e9]; exact lv_sub hl [2, 3, 4, 1, 0] rfl)
    exact hl_of 10 0  rfl (Nat.zero_le _)  H locs ls hP hD hS (lv_sub hl [3, 4, 2, 1, 0] rfl)
  · refine lv_iconst (v := nI 0) hx hb dX3_offered_13 (by decide) ?_
    rw [← hQQ]; apply vx_ret; exact end_i (u := (S, N)) hx hb hr hlocks dX3_offered_14 hK hP hD hS ⟨by simp only [V_at, eq_true hct, c_7, ei, and_true, true_and, and_false, false_and, if_true, if_false, not_true, not_false_iff, not_false_eq_true, or_true, true_or, or_false, false_or, ite_true, ite_false, and_self, Classical.not_not, Bool.false_eq_true], by simp only [eq_true hct, c_7, ei, and_true, true_and, and_false, false_and, if_true, if_false, not_true, not_false_iff, not_false_eq_true, or_true, true_or, or_false, false_or, ite_true, ite_false, and_self, Classical.not_not, Bool.false_eq_true], rfl⟩ (Nat.le_of_ble_eq_true rfl) (Nat.le_of_ble_eq_true rfl)

set_option maxHeartbeats 4000000 in
set_option maxRecDepth 100000 in
/-- whyNot -/
theorem qX3_whyNot (l : Launch) (dC : Nat → ClassId) (dI : Nat → Nat → Nat) (cy : Nat → ClassId) (e0 mi : Nat) (ad : Lc → Nat) (L : List Lc) (S : SS) (N : NN) (sz : Nat) (a : Int32) (hI : okC L N) (hst : l.stackTraces = false) : vx_Met l yX3_whyNot wsX3_whyNot ({ frames := 7, cells := 1, slots := 6, locals := 111 }) (va_Pc [.ref (ad (10, 0)), .int a] (wPreX (dC, dI) (tyL cy) e0 mi (cw cy e0 ad L S N) sz)) (QI (dC, dI) (tyL cy) (fun (r : Int32) (u : CS) => V_at N 0 a = 0 ∧ r = nI (K_obst S N (ix a)) ∧ u = (S, N)) (cwU cy e0 ad L) (va_A (cw cy e0 ad L S N) sz)) (XX (dC, dI) (tyL cy) (fun E => (V_at N 0 a = 1 ∧ E = xIO)) (cw cy e0 ad L S N) (va_A (cw cy e0 ad L S N) sz)) 1 6 (va_A (cw cy e0 ad L S N) sz) := by
  refine enX (cc := cX3_whyNot) (maxL := 2) (ret := (some .int)) (own := RX3) (lv := [(0, .ref (ad (10, 0))), (1, .int a)]) (by decide) rfl rfl (Nat.le_of_ble_eq_true rfl) rfl ?_
  intro p e s m below meth c ls A H locs hx hb hr hts hown hlocks hml hin hsz hK hP hD hS hA hl ham hnt
  generalize hQQ : vx_MQ below _ _ _ s _ _ A = QQ
  have hI0 := hI
  obtain ⟨⟨hM0, hM8, hM9, hMF, hM15, hM17⟩, hV, hLt, hO, hDu, hnc, hnd, hcC, hcD, hcC2, hcD2⟩ := hI
  refine lv_aload_n hx hb dX3_whyNot_0 rfl (lv_at hl 0 rfl) ?_
  refine lv_aload_n hx hb dX3_whyNot_1 rfl (lv_at hl 0 rfl) ?_
  refine lv_iload_n hx hb dX3_whyNot_2 rfl (lv_at hl 1 rfl) ?_
  obtain ⟨z_1, hz_1⟩ := pl_get (ad := ad) (f := cc cy e0 ad S N) (hMF 10 (by decide))
  rw [show cc cy e0 ad S N (10, 0) = .inr (4, [.ref (ad (11, 0)), .ref (ad (12, 0)), .ref (ad (13, 0)), .ref (ad (14, 0)), .ref (ad (16, 0)), .int (S 0 0 0)]) from rfl] at hz_1
  refine callX_r (vx_runV (As := [.int a]) (rest := [.ref (ad (10, 0))]) ⟨hx, hb, hml, hown, hts⟩ (qX3_contractAt l dC dI cy e0 mi ad L S N H.size a hI0 hst) (cwV 1 hts gX3_whyNot_X3_contractAt rfl rfl rfl (by decide +kernel) ⟨Nat.le_of_ble_eq_true rfl, Nat.le_of_ble_eq_true rfl⟩) (preXV hK hP hD hS hA ham (w_recv (ci := 4) (q0 := z_1) hK hP hz_1 rfl)) rfl rfl hl.1 rfl (lv_room (Nat.le_of_ble_eq_true rfl)) dX3_whyNot_3 ⟨Nat.le_of_ble_eq_true rfl, Nat.le_of_ble_eq_true rfl⟩) hD hS hA (fun E ce q9 H locs hpx hP hS hc1 hc2 hc3 => by rw [← hQQ]; exact outX hnt hlocks hc1 hc2 hc3 (⟨by simp only [V_at, hpx.2, and_true, true_and, and_false, false_and, if_true, if_false, not_true, not_false_iff, not_false_eq_true, or_true, true_or, or_false, false_or, ite_true, ite_false, and_self, Classical.not_not, Bool.false_eq_true], hpx.1⟩) hK hP hD hS (Nat.le_of_ble_eq_true rfl) (Nat.le_of_ble_eq_true rfl)) (fun r_2 u H locs w_3 hP hD hS => ?_)
  obtain ⟨⟨i, hi, ex, ei, rfl⟩, hct, rfl⟩ := w_3
  subst ex
  have hP : va_P (dC, dI) vwCl (cw cy e0 ad L S N) H := hP
  have hD : va_D A (cw cy e0 ad L S N) := hD
  obtain ⟨z_4, hz_4⟩ := pl_get (ad := ad) (f := cc cy e0 ad S N) (hMF 10 (by decide))
  rw [show cc cy e0 ad S N (10, 0) = .inr (4, [.ref (ad (11, 0)), .ref (ad (12, 0)), .ref (ad (13, 0)), .ref (ad (14, 0)), .ref (ad (16, 0)), .int (S 0 0 0)]) from rfl] at hz_4
  refine call_i (va_runV (As := [.ref (ad (0, i))]) (rest := []) ⟨hx, hb, hml, hown, hts⟩ (qX3_obstacle l dC dI cy e0 mi ad L S N H.size i hI0 hi) (cwV 1 hts gX3_whyNot_X3_obstacle rfl rfl rfl (by decide +kernel) ⟨Nat.le_of_ble_eq_true rfl, Nat.le_of_ble_eq_true rfl⟩) (preV hK hP hD (w_recv (ci := 4) (q0 := z_4) hK hP hz_4 rfl)) rfl rfl hl.1 rfl (lv_room (Nat.le_of_ble_eq_true rfl)) dX3_whyNot_6 ⟨Nat.le_of_ble_eq_true rfl, Nat.le_of_ble_eq_true rfl⟩) hD hS hA (fun r_5 u H locs w_6 hP hD hS => ?_)
  obtain ⟨rfl, rfl⟩ := w_6
  have hP : va_P (dC, dI) vwCl (cw cy e0 ad L S N) H := hP
  have hD : va_D A (cw cy e0 ad L S N) := hD
  have hob9 := K_obst_le S N i
  rw [← hQQ]; apply vx_ret; exact end_i (u := (S, N)) hx hb hr hlocks dX3_whyNot_9 hK hP hD hS ⟨by simp only [V_at, eq_true hct, ei, and_true, true_and, and_false, false_and, if_true, if_false, not_true, not_false_iff, not_false_eq_true, or_true, true_or, or_false, false_or, ite_true, ite_false, and_self, Classical.not_not, Bool.false_eq_true], by simp only [ei, and_true, true_and, and_false, false_and, if_true, if_false, not_true, not_false_iff, not_false_eq_true, or_true, true_or, or_false, false_or, ite_true, ite_false, and_self, Classical.not_not, Bool.false_eq_true], rfl⟩ (Nat.le_of_ble_eq_true rfl) (Nat.le_of_ble_eq_true rfl)

set_option maxHeartbeats 4000000 in
set_option maxRecDepth 100000 in
/-- duties -/
theorem qX3_duties (l : Launch) (dC : Nat → ClassId) (dI : Nat → Nat → Nat) (cy : Nat → ClassId) (e0 mi : Nat) (ad : Lc → Nat) (L : List Lc) (S : SS) (N : NN) (sz : Nat) (hI : okC L N) : Met l yX3_duties wsX3_duties ({ frames := 1, cells := 0, slots := 0, locals := 20 }) (va_Pc [.ref (ad (10, 0))] (wPre (dC, dI) (tyL cy) (cw cy e0 ad L S N) sz)) (QI (dC, dI) (tyL cy) (fun (r : Int32) (u : CS) => r = nI (N 5 0 0) ∧ u = (S, N)) (cwU cy e0 ad L) (va_A (cw cy e0 ad L S N) sz)) 0 0 (va_A (cw cy e0 ad L S N) sz) := by
  refine en (cc := cX3_duties) (maxL := 1) (ret := (some .int)) (own := RX3) (lv := [(0, .ref (ad (10, 0)))]) (by decide) rfl rfl (Nat.le_of_ble_eq_true rfl) rfl ?_
  intro p e s m below meth c ls A H locs hx hb hr hts hown hlocks hml hin hsz hK hP hD hS hA hl
  generalize hQQ : MQ below _ _ s _ _ A = QQ
  have hI0 := hI
  obtain ⟨⟨hM0, hM8, hM9, hMF, hM15, hM17⟩, hV, hLt, hO, hDu, hnc, hnd, hcC, hcD, hcC2, hcD2⟩ := hI
  have inX3_ : ∀ w ∈ wsX30, w ∈ wsX3_duties := fun _ h => List.mem_cons_of_mem _ (List.mem_append_left _ (List.mem_append_right _ h))
  have lk0 : (Cond.fieldLink RX3 29 "ClauseShop" "dutyList" "Ljava/util/ArrayList;").before (([.ref (ad (10, 0))] : List Value).toArray) s = true := hts _ (List.mem_of_getElem? (i := 1) rfl)
  refine lv_aload_n hx hb dX3_duties_0 rfl (lv_at hl 0 rfl) ?_
  obtain ⟨z_1, hz_1⟩ := pl_get (ad := ad) (f := cc cy e0 ad S N) (hMF 10 (by decide))
  rw [show cc cy e0 ad S N (10, 0) = .inr (4, [.ref (ad (11, 0)), .ref (ad (12, 0)), .ref (ad (13, 0)), .ref (ad (14, 0)), .ref (ad (16, 0)), .int (S 0 0 0)]) from rfl] at hz_1
  refine va_get (D := (dC, dI)) (ci := 4) (v := .ref (ad (16, 0))) (C := RX3) (T := TX3) (N := 6) hx hb hts inX3_ hown hK hP z_1 hz_1 rfl 4 (by decide) lk0 (fun _ h9 => h9) rfl dX3_duties_1 ?_
  obtain ⟨z_2, hz_2⟩ := pl_get (ad := ad) (f := cc cy e0 ad S N) (hMF 16 (by decide))
  rw [show cc cy e0 ad S N (16, 0) = .inr (0, [.int (S 11 0 0), .ref (if N 7 0 0 = 0 then e0 else ad (17, 0)), .int (nI (N 5 0 0))]) from rfl] at hz_2
  refine call_i (va_runV (As := []) (rest := []) ⟨hx, hb, hml, hown, hts⟩ (qJx4a65c_size_8abf5 l dC dI cy e0 mi (cw cy e0 ad L S N) H.size _ z_2 (N 5 0 0) (S 11 0 0) _ hz_2) (cwV 0 hts gX3_duties_Jx4a65c_size_8abf5 rfl rfl rfl (by decide +kernel) ⟨Nat.le_of_ble_eq_true rfl, Nat.le_of_ble_eq_true rfl⟩) (preV hK hP hD (w_recv (ci := 0) (q0 := z_2) hK hP hz_2 rfl)) rfl rfl hl.1 rfl (lv_room (Nat.le_of_ble_eq_true rfl)) dX3_duties_4 ⟨Nat.le_of_ble_eq_true rfl, Nat.le_of_ble_eq_true rfl⟩) hD hS hA (fun r_3 _ H locs w_4 hP hD hS => ?_)
  subst w_4
  have hP : va_P (dC, dI) vwCl (cw cy e0 ad L S N) H := hP
  have hD : va_D A (cw cy e0 ad L S N) := hD
  rw [← hQQ]; exact end_i (u := (S, N)) hx hb hr hlocks dX3_duties_7 hK hP hD hS ⟨rfl, rfl⟩ (Nat.le_of_ble_eq_true rfl) (Nat.le_of_ble_eq_true rfl)

set_option maxHeartbeats 4000000 in
set_option maxRecDepth 100000 in
/-- state -/
theorem qX3_state (l : Launch) (dC : Nat → ClassId) (dI : Nat → Nat → Nat) (cy : Nat → ClassId) (e0 mi : Nat) (ad : Lc → Nat) (L : List Lc) (S : SS) (N : NN) (sz : Nat) (a : Int32) (hI : okC L N) (hst : l.stackTraces = false) : vx_Met l yX3_state wsX3_state ({ frames := 7, cells := 1, slots := 6, locals := 111 }) (va_Pc [.ref (ad (10, 0)), .int a] (wPreX (dC, dI) (tyL cy) e0 mi (cw cy e0 ad L S N) sz)) (QI (dC, dI) (tyL cy) (fun (r : Int32) (u : CS) => V_at N 5 a = 0 ∧ r = S 9 (ix a) 0 ∧ u = (S, N)) (cwU cy e0 ad L) (va_A (cw cy e0 ad L S N) sz)) (XX (dC, dI) (tyL cy) (fun E => (V_at N 5 a = 1 ∧ E = xIO)) (cw cy e0 ad L S N) (va_A (cw cy e0 ad L S N) sz)) 1 6 (va_A (cw cy e0 ad L S N) sz) := by
  refine enX (cc := cX3_state) (maxL := 2) (ret := (some .int)) (own := RX3) (lv := [(0, .ref (ad (10, 0))), (1, .int a)]) (by decide) rfl rfl (Nat.le_of_ble_eq_true rfl) rfl ?_
  intro p e s m below meth c ls A H locs hx hb hr hts hown hlocks hml hin hsz hK hP hD hS hA hl ham hnt
  generalize hQQ : vx_MQ below _ _ _ s _ _ A = QQ
  have hI0 := hI
  obtain ⟨⟨hM0, hM8, hM9, hMF, hM15, hM17⟩, hV, hLt, hO, hDu, hnc, hnd, hcC, hcD, hcC2, hcD2⟩ := hI
  have inX1_ : ∀ w ∈ wsX10, w ∈ wsX3_state := fun _ h => List.mem_cons_of_mem _ (List.mem_append_left _ (List.mem_append_left _ (List.mem_append_left _ (List.mem_append_right _ h))))
  have lk0 : (Cond.fieldLink RX3 151 "ClauseShop$Duty" "state" "I").before (([.ref (ad (10, 0)), .int a] : List Value).toArray) s = true := hts _ (List.mem_of_getElem? (i := 1) rfl)
  refine lv_aload_n hx hb dX3_state_0 rfl (lv_at hl 0 rfl) ?_
  refine lv_iload_n hx hb dX3_state_1 rfl (lv_at hl 1 rfl) ?_
  obtain ⟨z_1, hz_1⟩ := pl_get (ad := ad) (f := cc cy e0 ad S N) (hMF 10 (by decide))
  rw [show cc cy e0 ad S N (10, 0) = .inr (4, [.ref (ad (11, 0)), .ref (ad (12, 0)), .ref (ad (13, 0)), .ref (ad (14, 0)), .ref (ad (16, 0)), .int (S 0 0 0)]) from rfl] at hz_1
  refine callX_r (vx_runV (As := [.int a]) (rest := []) ⟨hx, hb, hml, hown, hts⟩ (qX3_dutyAt l dC dI cy e0 mi ad L S N H.size a hI0 hst) (cwV 1 hts gX3_state_X3_dutyAt rfl rfl rfl (by decide +kernel) ⟨Nat.le_of_ble_eq_true rfl, Nat.le_of_ble_eq_true rfl⟩) (preXV hK hP hD hS hA ham (w_recv (ci := 4) (q0 := z_1) hK hP hz_1 rfl)) rfl rfl hl.1 rfl (lv_room (Nat.le_of_ble_eq_true rfl)) dX3_state_2 ⟨Nat.le_of_ble_eq_true rfl, Nat.le_of_ble_eq_true rfl⟩) hD hS hA (fun E ce q9 H locs hpx hP hS hc1 hc2 hc3 => by rw [← hQQ]; exact outX hnt hlocks hc1 hc2 hc3 (⟨by simp only [V_at, hpx.2, and_true, true_and, and_false, false_and, if_true, if_false, not_true, not_false_iff, not_false_eq_true, or_true, true_or, or_false, false_or, ite_true, ite_false, and_self, Classical.not_not, Bool.false_eq_true], hpx.1⟩) hK hP hD hS (Nat.le_of_ble_eq_true rfl) (Nat.le_of_ble_eq_true rfl)) (fun r_2 u H locs w_3 hP hD hS => ?_)
  obtain ⟨⟨j, hj, ex, ej, rfl⟩, hct, rfl⟩ := w_3
  subst ex
  have hP : va_P (dC, dI) vwCl (cw cy e0 ad L S N) H := hP
  have hD : va_D A (cw cy e0 ad L S N) := hD
  obtain ⟨hdc, hdv⟩ := hDu j hj
  have hob := hO (N 3 j 1)
  obtain ⟨z_4, hz_4⟩ := pl_get (ad := ad) (f := cc cy e0 ad S N) (hM8 j (by omega))
  rw [show cc cy e0 ad S N (8, j) = .inr (2, [.ref (ad (0, N 3 j 0)), .ref (ad (9, N 3 j 1)), .int (S 9 j 0), .int (S 9 j 1)]) from rfl] at hz_4
  refine va_get (D := (dC, dI)) (ci := 2) (v := .int (S 9 j 0)) (C := RX1) (T := TX1) (N := 4) hx hb hts inX1_ hown hK hP z_4 hz_4 rfl 2 (by decide) lk0 (fun _ h9 => h9) rfl dX3_state_5 ?_
  rw [← hQQ]; apply vx_ret; exact end_i (u := (S, N)) hx hb hr hlocks dX3_state_8 hK hP hD hS ⟨by simp only [V_at, eq_true hct, ej, and_true, true_and, and_false, false_and, if_true, if_false, not_true, not_false_iff, not_false_eq_true, or_true, true_or, or_false, false_or, ite_true, ite_false, and_self, Classical.not_not, Bool.false_eq_true], by simp only [ej, and_true, true_and, and_false, false_and, if_true, if_false, not_true, not_false_iff, not_false_eq_true, or_true, true_or, or_false, false_or, ite_true, ite_false, and_self, Classical.not_not, Bool.false_eq_true], rfl⟩ (Nat.le_of_ble_eq_true rfl) (Nat.le_of_ble_eq_true rfl)

set_option maxHeartbeats 4000000 in
set_option maxRecDepth 100000 in
/-- day -/
theorem qX3_day (l : Launch) (dC : Nat → ClassId) (dI : Nat → Nat → Nat) (cy : Nat → ClassId) (e0 mi : Nat) (ad : Lc → Nat) (L : List Lc) (S : SS) (N : NN) (sz : Nat) (a : Int32) (hI : okC L N) (hst : l.stackTraces = false) : vx_Met l yX3_day wsX3_day ({ frames := 7, cells := 1, slots := 6, locals := 111 }) (va_Pc [.ref (ad (10, 0)), .int a] (wPreX (dC, dI) (tyL cy) e0 mi (cw cy e0 ad L S N) sz)) (QI (dC, dI) (tyL cy) (fun (r : Int32) (u : CS) => V_at N 5 a = 0 ∧ r = S 9 (ix a) 1 ∧ u = (S, N)) (cwU cy e0 ad L) (va_A (cw cy e0 ad L S N) sz)) (XX (dC, dI) (tyL cy) (fun E => (V_at N 5 a = 1 ∧ E = xIO)) (cw cy e0 ad L S N) (va_A (cw cy e0 ad L S N) sz)) 1 6 (va_A (cw cy e0 ad L S N) sz) := by
  refine enX (cc := cX3_day) (maxL := 2) (ret := (some .int)) (own := RX3) (lv := [(0, .ref (ad (10, 0))), (1, .int a)]) (by decide) rfl rfl (Nat.le_of_ble_eq_true rfl) rfl ?_
  intro p e s m below meth c ls A H locs hx hb hr hts hown hlocks hml hin hsz hK hP hD hS hA hl ham hnt
  generalize hQQ : vx_MQ below _ _ _ s _ _ A = QQ
  have hI0 := hI
  obtain ⟨⟨hM0, hM8, hM9, hMF, hM15, hM17⟩, hV, hLt, hO, hDu, hnc, hnd, hcC, hcD, hcC2, hcD2⟩ := hI
  have inX1_ : ∀ w ∈ wsX10, w ∈ wsX3_day := fun _ h => List.mem_cons_of_mem _ (List.mem_append_left _ (List.mem_append_left _ (List.mem_append_left _ (List.mem_append_right _ h))))
  have lk0 : (Cond.fieldLink RX3 156 "ClauseShop$Duty" "day" "I").before (([.ref (ad (10, 0)), .int a] : List Value).toArray) s = true := hts _ (List.mem_of_getElem? (i := 1) rfl)
  refine lv_aload_n hx hb dX3_day_0 rfl (lv_at hl 0 rfl) ?_
  refine lv_iload_n hx hb dX3_day_1 rfl (lv_at hl 1 rfl) ?_
  obtain ⟨z_1, hz_1⟩ := pl_get (ad := ad) (f := cc cy e0 ad S N) (hMF 10 (by decide))
  rw [show cc cy e0 ad S N (10, 0) = .inr (4, [.ref (ad (11, 0)), .ref (ad (12, 0)), .ref (ad (13, 0)), .ref (ad (14, 0)), .ref (ad (16, 0)), .int (S 0 0 0)]) from rfl] at hz_1
  refine callX_r (vx_runV (As := [.int a]) (rest := []) ⟨hx, hb, hml, hown, hts⟩ (qX3_dutyAt l dC dI cy e0 mi ad L S N H.size a hI0 hst) (cwV 1 hts gX3_day_X3_dutyAt rfl rfl rfl (by decide +kernel) ⟨Nat.le_of_ble_eq_true rfl, Nat.le_of_ble_eq_true rfl⟩) (preXV hK hP hD hS hA ham (w_recv (ci := 4) (q0 := z_1) hK hP hz_1 rfl)) rfl rfl hl.1 rfl (lv_room (Nat.le_of_ble_eq_true rfl)) dX3_day_2 ⟨Nat.le_of_ble_eq_true rfl, Nat.le_of_ble_eq_true rfl⟩) hD hS hA (fun E ce q9 H locs hpx hP hS hc1 hc2 hc3 => by rw [← hQQ]; exact outX hnt hlocks hc1 hc2 hc3 (⟨by simp only [V_at, hpx.2, and_true, true_and, and_false, false_and, if_true, if_false, not_true, not_false_iff, not_false_eq_true, or_true, true_or, or_false, false_or, ite_true, ite_false, and_self, Classical.not_not, Bool.false_eq_true], hpx.1⟩) hK hP hD hS (Nat.le_of_ble_eq_true rfl) (Nat.le_of_ble_eq_true rfl)) (fun r_2 u H locs w_3 hP hD hS => ?_)
  obtain ⟨⟨j, hj, ex, ej, rfl⟩, hct, rfl⟩ := w_3
  subst ex
  have hP : va_P (dC, dI) vwCl (cw cy e0 ad L S N) H := hP
  have hD : va_D A (cw cy e0 ad L S N) := hD
  obtain ⟨hdc, hdv⟩ := hDu j hj
  have hob := hO (N 3 j 1)
  obtain ⟨z_4, hz_4⟩ := pl_get (ad := ad) (f := cc cy e0 ad S N) (hM8 j (by omega))
  rw [show cc cy e0 ad S N (8, j) = .inr (2, [.ref (ad (0, N 3 j 0)), .ref (ad (9, N 3 j 1)), .int (S 9 j 0), .int (S 9 j 1)]) from rfl] at hz_4
  refine va_get (D := (dC, dI)) (ci := 2) (v := .int (S 9 j 1)) (C := RX1) (T := TX1) (N := 4) hx hb hts inX1_ hown hK hP z_4 hz_4 rfl 3 (by decide) lk0 (fun _ h9 => h9) rfl dX3_day_5 ?_
  rw [← hQQ]; apply vx_ret; exact end_i (u := (S, N)) hx hb hr hlocks dX3_day_8 hK hP hD hS ⟨by simp only [V_at, eq_true hct, ej, and_true, true_and, and_false, false_and, if_true, if_false, not_true, not_false_iff, not_false_eq_true, or_true, true_or, or_false, false_or, ite_true, ite_false, and_self, Classical.not_not, Bool.false_eq_true], by simp only [ej, and_true, true_and, and_false, false_and, if_true, if_false, not_true, not_false_iff, not_false_eq_true, or_true, true_or, or_false, false_or, ite_true, ite_false, and_self, Classical.not_not, Bool.false_eq_true], rfl⟩ (Nat.le_of_ble_eq_true rfl) (Nat.le_of_ble_eq_true rfl)

set_option maxHeartbeats 4000000 in
set_option maxRecDepth 100000 in
/-- isSuspended -/
theorem qX3_isSuspended (l : Launch) (dC : Nat → ClassId) (dI : Nat → Nat → Nat) (cy : Nat → ClassId) (e0 mi : Nat) (ad : Lc → Nat) (L : List Lc) (S : SS) (N : NN) (sz : Nat) (a : Int32) (hI : okC L N) (hst : l.stackTraces = false) : vx_Met l yX3_isSuspended wsX3_isSuspended ({ frames := 7, cells := 1, slots := 6, locals := 111 }) (va_Pc [.ref (ad (10, 0)), .int a] (wPreX (dC, dI) (tyL cy) e0 mi (cw cy e0 ad L S N) sz)) (QI (dC, dI) (tyL cy) (fun (r : Int32) (u : CS) => V_at N 5 a = 0 ∧ r = bi (isHeld S N (ix a)) ∧ u = (S, N)) (cwU cy e0 ad L) (va_A (cw cy e0 ad L S N) sz)) (XX (dC, dI) (tyL cy) (fun E => (V_at N 5 a = 1 ∧ E = xIO)) (cw cy e0 ad L S N) (va_A (cw cy e0 ad L S N) sz)) 1 6 (va_A (cw cy e0 ad L S N) sz) := by
  refine enX (cc := cX3_isSuspended) (maxL := 2) (ret := (some .boolean)) (own := RX3) (lv := [(0, .ref (ad (10, 0))), (1, .int a)]) (by decide) rfl rfl (Nat.le_of_ble_eq_true rfl) rfl ?_
  intro p e s m below meth c ls A H locs hx hb hr hts hown hlocks hml hin hsz hK hP hD hS hA hl ham hnt
  generalize hQQ : vx_MQ below _ _ _ s _ _ A = QQ
  have hI0 := hI
  obtain ⟨⟨hM0, hM8, hM9, hMF, hM15, hM17⟩, hV, hLt, hO, hDu, hnc, hnd, hcC, hcD, hcC2, hcD2⟩ := hI
  refine lv_aload_n hx hb dX3_isSuspended_0 rfl (lv_at hl 0 rfl) ?_
  refine lv_iload_n hx hb dX3_isSuspended_1 rfl (lv_at hl 1 rfl) ?_
  obtain ⟨z_1, hz_1⟩ := pl_get (ad := ad) (f := cc cy e0 ad S N) (hMF 10 (by decide))
  rw [show cc cy e0 ad S N (10, 0) = .inr (4, [.ref (ad (11, 0)), .ref (ad (12, 0)), .ref (ad (13, 0)), .ref (ad (14, 0)), .ref (ad (16, 0)), .int (S 0 0 0)]) from rfl] at hz_1
  refine callX_r (vx_runV (As := [.int a]) (rest := []) ⟨hx, hb, hml, hown, hts⟩ (qX3_dutyAt l dC dI cy e0 mi ad L S N H.size a hI0 hst) (cwV 1 hts gX3_isSuspended_X3_dutyAt rfl rfl rfl (by decide +kernel) ⟨Nat.le_of_ble_eq_true rfl, Nat.le_of_ble_eq_true rfl⟩) (preXV hK hP hD hS hA ham (w_recv (ci := 4) (q0 := z_1) hK hP hz_1 rfl)) rfl rfl hl.1 rfl (lv_room (Nat.le_of_ble_eq_true rfl)) dX3_isSuspended_2 ⟨Nat.le_of_ble_eq_true rfl, Nat.le_of_ble_eq_true rfl⟩) hD hS hA (fun E ce q9 H locs hpx hP hS hc1 hc2 hc3 => by rw [← hQQ]; exact outX hnt hlocks hc1 hc2 hc3 (⟨by simp only [V_at, hpx.2, and_true, true_and, and_false, false_and, if_true, if_false, not_true, not_false_iff, not_false_eq_true, or_true, true_or, or_false, false_or, ite_true, ite_false, and_self, Classical.not_not, Bool.false_eq_true], hpx.1⟩) hK hP hD hS (Nat.le_of_ble_eq_true rfl) (Nat.le_of_ble_eq_true rfl)) (fun r_2 u H locs w_3 hP hD hS => ?_)
  obtain ⟨⟨j, hj, ex, ej, rfl⟩, hct, rfl⟩ := w_3
  subst ex
  have hP : va_P (dC, dI) vwCl (cw cy e0 ad L S N) H := hP
  have hD : va_D A (cw cy e0 ad L S N) := hD
  obtain ⟨hdc, hdv⟩ := hDu j hj
  have hob := hO (N 3 j 1)
  obtain ⟨z_4, hz_4⟩ := pl_get (ad := ad) (f := cc cy e0 ad S N) (hM8 j (by omega))
  rw [show cc cy e0 ad S N (8, j) = .inr (2, [.ref (ad (0, N 3 j 0)), .ref (ad (9, N 3 j 1)), .int (S 9 j 0), .int (S 9 j 1)]) from rfl] at hz_4
  refine call_i (va_runV (As := []) (rest := []) ⟨hx, hb, hml, hown, hts⟩ (qX1_isHeldUp l dC dI cy e0 mi ad L S N H.size j hI0 hj) (cwV 0 hts gX3_isSuspended_X1_isHeldUp rfl rfl rfl (by decide +kernel) ⟨Nat.le_of_ble_eq_true rfl, Nat.le_of_ble_eq_true rfl⟩) (preV hK hP hD (w_recv (ci := 2) (q0 := z_4) hK hP hz_4 rfl)) rfl rfl hl.1 rfl (lv_room (Nat.le_of_ble_eq_true rfl)) dX3_isSuspended_5 ⟨Nat.le_of_ble_eq_true rfl, Nat.le_of_ble_eq_true rfl⟩) hD hS hA (fun r_5 u H locs w_6 hP hD hS => ?_)
  obtain ⟨rfl, rfl⟩ := w_6
  have hP : va_P (dC, dI) vwCl (cw cy e0 ad L S N) H := hP
  have hD : va_D A (cw cy e0 ad L S N) := hD
  rw [← hQQ]; apply vx_ret; exact end_z (u := (S, N)) hx hb hr hlocks dX3_isSuspended_8 hK hP hD hS bi_nar ⟨by simp only [V_at, eq_true hct, ej, and_true, true_and, and_false, false_and, if_true, if_false, not_true, not_false_iff, not_false_eq_true, or_true, true_or, or_false, false_or, ite_true, ite_false, and_self, Classical.not_not, Bool.false_eq_true], by simp only [ej, and_true, true_and, and_false, false_and, if_true, if_false, not_true, not_false_iff, not_false_eq_true, or_true, true_or, or_false, false_or, ite_true, ite_false, and_self, Classical.not_not, Bool.false_eq_true], rfl⟩ (Nat.le_of_ble_eq_true rfl) (Nat.le_of_ble_eq_true rfl)

set_option maxHeartbeats 4000000 in
set_option maxRecDepth 100000 in
/-- owes -/
theorem qX3_owes (l : Launch) (dC : Nat → ClassId) (dI : Nat → Nat → Nat) (cy : Nat → ClassId) (e0 mi : Nat) (ad : Lc → Nat) (L : List Lc) (S : SS) (N : NN) (sz : Nat) (a b : Int32) (hI : okC L N) (hst : l.stackTraces = false) : vx_Met l yX3_owes wsX3_owes ({ frames := 7, cells := 2, slots := 12, locals := 111 }) (va_Pc [.ref (ad (10, 0)), .int a, .int b] (wPreX (dC, dI) (tyL cy) e0 mi (cw cy e0 ad L S N) sz)) (QI (dC, dI) (tyL cy) (fun (r : Int32) (u : CS) => V_owes N a b = 0 ∧ r = (if nI 0 < S 8 (ix a) (ix b) - S 8 (ix a) (1 - ix b) then S 8 (ix a) (ix b) - S 8 (ix a) (1 - ix b) else nI 0) ∧ u = (S, N)) (cwU cy e0 ad L) (va_A (cw cy e0 ad L S N) sz)) (XX (dC, dI) (tyL cy) (fun E => (V_owes N a b = 1 ∧ E = xIO) ∨ (V_owes N a b = 2 ∧ E = xIA)) (cw cy e0 ad L S N) (va_A (cw cy e0 ad L S N) sz)) 2 12 (va_A (cw cy e0 ad L S N) sz) := by
  refine enX (cc := cX3_owes) (maxL := 4) (ret := (some .int)) (own := RX3) (lv := [(0, .ref (ad (10, 0))), (1, .int a), (2, .int b)]) (by decide) rfl rfl (Nat.le_of_ble_eq_true rfl) rfl ?_
  intro p e s m below meth c ls A H locs hx hb hr hts hown hlocks hml hin hsz hK hP hD hS hA hl ham hnt
  generalize hQQ : vx_MQ below _ _ _ s _ _ A = QQ
  have hI0 := hI
  obtain ⟨⟨hM0, hM8, hM9, hMF, hM15, hM17⟩, hV, hLt, hO, hDu, hnc, hnd, hcC, hcD, hcC2, hcD2⟩ := hI
  have inX0_ : ∀ w ∈ wsX00, w ∈ wsX3_owes := fun _ h => List.mem_cons_of_mem _ (List.mem_append_left _ (List.mem_append_left _ (List.mem_append_left _ (List.mem_append_left _ (List.mem_append_right _ h)))))
  have lk0 : (Cond.fieldLink RX3 187 "ClauseShop$Contract" "penalties" "[I").before (([.ref (ad (10, 0)), .int a, .int b] : List Value).toArray) s = true := hts _ (List.mem_of_getElem? (i := 1) rfl)
  have lk1 : (Cond.methodLink RX3 190 Lib.Math.max.name).before (([.ref (ad (10, 0)), .int a, .int b] : List Value).toArray) s = true := hts _ (List.mem_of_getElem? (i := 2) rfl)
  have lk2 : (Cond.static Lib.Math.max.name).before (([.ref (ad (10, 0)), .int a, .int b] : List Value).toArray) s = true := hts _ (List.mem_of_getElem? (i := 3) rfl)
  have lk3 : (Cond.initialized "java/lang/Math").before (([.ref (ad (10, 0)), .int a, .int b] : List Value).toArray) s = true := hts _ (List.mem_of_getElem? (i := 4) rfl)
  have lk4 : (Cond.code Lib.Math.max.name Lib.Math.max.code 2 (some .int)).before (([.ref (ad (10, 0)), .int a, .int b] : List Value).toArray) s = true := hts _ (List.mem_of_getElem? (i := 5) rfl)
  refine lv_aload_n hx hb dX3_owes_0 rfl (lv_at hl 0 rfl) ?_
  refine lv_iload_n hx hb dX3_owes_1 rfl (lv_at hl 1 rfl) ?_
  obtain ⟨z_1, hz_1⟩ := pl_get (ad := ad) (f := cc cy e0 ad S N) (hMF 10 (by decide))
  rw [show cc cy e0 ad S N (10, 0) = .inr (4, [.ref (ad (11, 0)), .ref (ad (12, 0)), .ref (ad (13, 0)), .ref (ad (14, 0)), .ref (ad (16, 0)), .int (S 0 0 0)]) from rfl] at hz_1
  refine callX_r (vx_runV (As := [.int a]) (rest := []) ⟨hx, hb, hml, hown, hts⟩ (qX3_contractAt l dC dI cy e0 mi ad L S N H.size a hI0 hst) (cwV 1 hts gX3_owes_X3_contractAt rfl rfl rfl (by decide +kernel) ⟨Nat.le_of_ble_eq_true rfl, Nat.le_of_ble_eq_true rfl⟩) (preXV hK hP hD hS hA ham (w_recv (ci := 4) (q0 := z_1) hK hP hz_1 rfl)) rfl rfl hl.1 rfl (lv_room (Nat.le_of_ble_eq_true rfl)) dX3_owes_2 ⟨Nat.le_of_ble_eq_true rfl, Nat.le_of_ble_eq_true rfl⟩) hD hS hA (fun E ce q9 H locs hpx hP hS hc1 hc2 hc3 => by rw [← hQQ]; exact outX hnt hlocks hc1 hc2 hc3 (Or.inl ⟨by simp only [V_owes, hpx.2, and_true, true_and, and_false, false_and, if_true, if_false, not_true, not_false_iff, not_false_eq_true, or_true, true_or, or_false, false_or, ite_true, ite_false, and_self, Classical.not_not, Bool.false_eq_true], hpx.1⟩) hK hP hD hS (Nat.le_of_ble_eq_true rfl) (Nat.le_of_ble_eq_true rfl)) (fun r_2 u H locs w_3 hP hD hS => ?_)
  obtain ⟨⟨i, hi, ex, ei, rfl⟩, hct, rfl⟩ := w_3
  subst ex
  have hP : va_P (dC, dI) vwCl (cw cy e0 ad L S N) H := hP
  have hD : va_D A (cw cy e0 ad L S N) := hD
  refine lv_astore_n (lv' := [(3, .ref (ad (0, i))), (0, .ref (ad (10, 0))), (1, .int (nI i)), (2, .int b)]) hx hb dX3_owes_5 rfl hl (by decide) rfl (fun ls hl => ?_)
  refine lv_iload_n hx hb dX3_owes_6 rfl (lv_at hl 3 rfl) ?_
  refine callX_v (vx_runS (As := [.int b]) (rest := []) ⟨hx, hb, hml, hown, hts⟩ (qX3_checkSide l dC dI cy e0 mi (cw cy e0 ad L S N) H.size b hst) (va_cwS 1 hts gX3_owes_X3_checkSide rfl rfl rfl (by decide +kernel) ⟨Nat.le_of_ble_eq_true rfl, Nat.le_of_ble_eq_true rfl⟩) (preXS hK hP hD hS hA ham) rfl rfl hl.1 rfl (lv_room (Nat.le_of_ble_eq_true rfl)) dX3_owes_7 ⟨Nat.le_of_ble_eq_true rfl, Nat.le_of_ble_eq_true rfl⟩) hD hS hA (fun E ce q9 H locs hpx hP hS hc1 hc2 hc3 => by rw [← hQQ]; exact outX hnt hlocks hc1 hc2 hc3 (Or.inr (⟨by simp only [V_owes, eq_true hct, ei, hpx.2, and_true, true_and, and_false, false_and, if_true, if_false, not_true, not_false_iff, not_false_eq_true, or_true, true_or, or_false, false_or, ite_true, ite_false, and_self, Classical.not_not, Bool.false_eq_true], hpx.1⟩)) hK hP hD hS (Nat.le_of_ble_eq_true rfl) (Nat.le_of_ble_eq_true rfl)) (fun u H locs w_5 hP hD hS => ?_)
  have hsdp := w_5
  obtain ⟨sd, hsd, ex, esd⟩ := sd_ix hsdp
  subst ex
  have hP : va_P (dC, dI) vwCl (cw cy e0 ad L S N) H := hP
  have hD : va_D A (cw cy e0 ad L S N) := hD
  refine lv_iconst (v := nI 0) hx hb dX3_owes_10 (by decide) ?_
  refine lv_aload_n hx hb dX3_owes_11 rfl (lv_at hl 0 rfl) ?_
  obtain ⟨z_6, hz_6⟩ := pl_get (ad := ad) (f := cc cy e0 ad S N) (hM0 0 i (by decide) (by omega))
  rw [show cc cy e0 ad S N (0, i) = .inr (1, [.ref (ad (1, i)), .ref (ad (2, i)), .ref (ad (5, i)), .ref (ad (6, i)), .ref (ad (7, i))]) from rfl] at hz_6
  refine va_get (D := (dC, dI)) (ci := 1) (v := .ref (ad (7, i))) (C := RX0) (T := TX0) (N := 5) hx hb hts inX0_ hown hK hP z_6 hz_6 rfl 4 (by decide) lk0 (fun _ h9 => h9) rfl dX3_owes_12 ?_
  refine lv_iload_n hx hb dX3_owes_15 rfl (lv_at hl 3 rfl) ?_
  obtain ⟨z_7, hz_7⟩ := pl_get (ad := ad) (f := cc cy e0 ad S N) (hM0 7 i (by decide) (by omega))
  rw [show cc cy e0 ad S N (7, i) = .inl (cy 0, 2, .inl (S 8 i)) from rfl] at hz_7
  refine x_iald (f := S 8 i) hx hb hK hP z_7 0 hz_7 rfl (t := sd) (by omega) (by decide) dX3_owes_16 ?_
  refine lv_aload_n hx hb dX3_owes_17 rfl (lv_at hl 0 rfl) ?_
  obtain ⟨z_8, hz_8⟩ := pl_get (ad := ad) (f := cc cy e0 ad S N) (hM0 0 i (by decide) (by omega))
  rw [show cc cy e0 ad S N (0, i) = .inr (1, [.ref (ad (1, i)), .ref (ad (2, i)), .ref (ad (5, i)), .ref (ad (6, i)), .ref (ad (7, i))]) from rfl] at hz_8
  refine va_get (D := (dC, dI)) (ci := 1) (v := .ref (ad (7, i))) (C := RX0) (T := TX0) (N := 5) hx hb hts inX0_ hown hK hP z_8 hz_8 rfl 4 (by decide) lk0 (fun _ h9 => h9) rfl dX3_owes_18 ?_
  refine lv_iconst (v := nI 1) hx hb dX3_owes_21 (by decide) ?_
  refine lv_iload_n hx hb dX3_owes_22 rfl (lv_at hl 3 rfl) ?_
  refine lv_isub hx hb dX3_owes_23 ?_
  refine to_i (y := nI (1 - sd)) (pk_sub (by omega)) ?_
  obtain ⟨z_9, hz_9⟩ := pl_get (ad := ad) (f := cc cy e0 ad S N) (hM0 7 i (by decide) (by omega))
  rw [show cc cy e0 ad S N (7, i) = .inl (cy 0, 2, .inl (S 8 i)) from rfl] at hz_9
  refine x_iald (f := S 8 i) hx hb hK hP z_9 0 hz_9 rfl (t := 1 - sd) (by omega) (by decide) dX3_owes_24 ?_
  refine lv_isub hx hb dX3_owes_25 ?_
  refine va_mmax hx hb (hml.trans hl.1.symm) hown lk1 lk2 lk3 lk4 (Nat.le_of_ble_eq_true rfl) (Nat.le_of_ble_eq_true rfl) (Nat.le_of_ble_eq_true rfl) (Nat.le_of_ble_eq_true rfl) dX3_owes_26 ?_
  rw [← hQQ]; apply vx_ret; exact end_i (u := (S, N)) hx hb hr hlocks dX3_owes_29 hK hP hD hS ⟨by simp only [V_owes, eq_true hct, eq_true hsdp, ei, esd, and_true, true_and, and_false, false_and, if_true, if_false, not_true, not_false_iff, not_false_eq_true, or_true, true_or, or_false, false_or, ite_true, ite_false, and_self, Classical.not_not, Bool.false_eq_true], by simp only [ei, esd, and_true, true_and, and_false, false_and, if_true, if_false, not_true, not_false_iff, not_false_eq_true, or_true, true_or, or_false, false_or, ite_true, ite_false, and_self, Classical.not_not, Bool.false_eq_true], rfl⟩ (Nat.le_of_ble_eq_true rfl) (Nat.le_of_ble_eq_true rfl)

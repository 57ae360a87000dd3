/-! the first world -/
abbrev ad00 (q : Nat) (f : Nat → Nat) : Lc → Nat := fun x => if x.1 = 10 then q else f x.1
abbrev ae00 (q : Nat) (f : Nat → Nat) : Nat → Nat := fun k => if k = 0 then q else f k
theorem cw_00 (cy : Nat → ClassId) (e0 q : Nat) (f : Nat → Nat) : cw cy e0 (ad00 q f) L00 S00 N00 = [(q, .inr (4, [.ref (f 11), .ref (f 12), .ref (f 13), .ref (f 14), .ref (f 16), .int (nI 0)])), (f 11, .inl (cy 2, 10, .inr (.inr (.inr (.inr (fun _ => none)))))), (f 12, .inl (cy 0, 10, .inl (fun _ => nI 0))), (f 13, .inl (cy 0, 10, .inl (fun _ => nI 0))), (f 14, .inr (0, [.int (nI 0), .ref e0, .int 0])), (f 16, .inr (0, [.int (nI 0), .ref e0, .int 0]))] := by
  rw [← nI_00]
  rfl
theorem mw_00 (cy : Nat → ClassId) (q : Nat) (f : Nat → Nat) : mwU (ae00 q f) cy v00 = (q, .inr (5, [.int 0, .int 0, .ref (f 2), .ref (f 3), .ref (f 4), .ref (f 5), .ref (f 6), .ref (f 7), .ref (f 8), .int 0, .ref (f 10), .ref (f 11), .ref (f 12), .ref (f 13), .int 0, .ref (f 15), .ref (f 16), .ref (f 17), .ref (f 18), .ref (f 19), .ref (f 20), .ref (f 21)])) ::
    [(f 2, .inl (cy 0, 10, .inl (fun _ => nI 0))), (f 3, .inl (cy 0, 90, .inl (fun _ => nI 0))), (f 4, .inl (cy 0, 90, .inl (fun _ => nI 0))), (f 5, .inl (cy 0, 90, .inl (fun _ => nI 0))), (f 6, .inl (cy 0, 90, .inl (fun _ => nI 0))), (f 7, .inl (cy 0, 10, .inl (fun _ => nI 0))), (f 8, .inl (cy 0, 10, .inl (fun _ => nI 0))), (f 10, .inl (cy 1, 10, .inl (fun _ => nI 0))), (f 11, .inl (cy 0, 10, .inl (fun _ => nI 0))), (f 12, .inl (cy 0, 100, .inl (fun _ => nI 0))), (f 13, .inl (cy 0, 200, .inl (fun _ => nI 0))), (f 15, .inl (cy 0, 100, .inl (fun _ => nI 0))), (f 16, .inl (cy 0, 100, .inl (fun _ => nI 0))), (f 17, .inl (cy 0, 100, .inl (fun _ => nI 0))), (f 18, .inl (cy 0, 100, .inl (fun _ => nI 0))), (f 19, .inl (cy 0, 100, .inl (fun _ => nI 0))), (f 20, .inl (cy 0, 100, .inl (fun _ => nI 0))), (f 21, .inl (cy 1, 100, .inl (fun _ => nI 0)))] := by
  rw [← nI_00]
  rfl
theorem pk_flags {l : Launch} (h : l.flags = flags0) : l.stackTraces = false := by
  unfold Launch.stackTraces
  rw [h]
  decide +kernel

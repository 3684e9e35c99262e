/-! the cases: stubs -/
-- feed
set_option maxHeartbeats 4000000 in
set_option maxRecDepth 100000 in
theorem lc_0 {p : Program} {l : Launch} {e : Env} {s : State} {m : MethodId} {below : List Frame} {meth : Method} {c : Code} {Q : State → Prop} {D : va_G} {cA : Nat → ClassId} {adK adV ad am : Nat → Nat} {AA : Nat → Prop} {b0 L bo : Nat} {xs : Nat → Int32} (C : LCx p s m c D cA adK adV AA b0 L xs) {H : Heap} {locs : List Loc} {ls : Array Slot} {cells slots i : Nat} (hSt : LSt D cA ad am bo AA H) (hS : va_S AA s.heap H locs) (hl : lv_has ls 7 (lvL b0 ad am bo i)) (hi : i + 6 ≤ L) (hcl : cells + 1 ≤ room_1.cells ∧ slots + 6 ≤ room_1.slots) (K : LNx p l e s m below meth c Q D cA ad am bo AA b0 i cells slots) : W p l e room_1 s m #[Value.ref b0] below meth c H locs cells slots Q (F0 m 276 ls []) := by
  sorry
-- text
set_option maxHeartbeats 4000000 in
set_option maxRecDepth 100000 in
theorem lc_1 {p : Program} {l : Launch} {e : Env} {s : State} {m : MethodId} {below : List Frame} {meth : Method} {c : Code} {Q : State → Prop} {D : va_G} {cA : Nat → ClassId} {adK adV ad am : Nat → Nat} {AA : Nat → Prop} {b0 L bo : Nat} {xs : Nat → Int32} (C : LCx p s m c D cA adK adV AA b0 L xs) {H : Heap} {locs : List Loc} {ls : Array Slot} {cells slots i : Nat} (hSt : LSt D cA ad am bo AA H) (hS : va_S AA s.heap H locs) (hl : lv_has ls 7 (lvL b0 ad am bo i)) (hi : i + 6 ≤ L) (hcl : cells + 1 ≤ room_1.cells ∧ slots + 6 ≤ room_1.slots) (K : LNx p l e s m below meth c Q D cA ad am bo AA b0 i cells slots) : W p l e room_1 s m #[Value.ref b0] below meth c H locs cells slots Q (F0 m 349 ls []) := by
  sorry
-- fault
set_option maxHeartbeats 4000000 in
set_option maxRecDepth 100000 in
theorem lc_2 {p : Program} {l : Launch} {e : Env} {s : State} {m : MethodId} {below : List Frame} {meth : Method} {c : Code} {Q : State → Prop} {D : va_G} {cA : Nat → ClassId} {adK adV ad am : Nat → Nat} {AA : Nat → Prop} {b0 L bo : Nat} {xs : Nat → Int32} (C : LCx p s m c D cA adK adV AA b0 L xs) {H : Heap} {locs : List Loc} {ls : Array Slot} {cells slots i : Nat} (hSt : LSt D cA ad am bo AA H) (hS : va_S AA s.heap H locs) (hl : lv_has ls 7 (lvL b0 ad am bo i)) (hi : i + 6 ≤ L) (hcl : cells + 1 ≤ room_1.cells ∧ slots + 6 ≤ room_1.slots) (K : LNx p l e s m below meth c Q D cA ad am bo AA b0 i cells slots) : W p l e room_1 s m #[Value.ref b0] below meth c H locs cells slots Q (F0 m 374 ls []) := by
  sorry
-- set
set_option maxHeartbeats 4000000 in
set_option maxRecDepth 100000 in
theorem lc_4 {p : Program} {l : Launch} {e : Env} {s : State} {m : MethodId} {below : List Frame} {meth : Method} {c : Code} {Q : State → Prop} {D : va_G} {cA : Nat → ClassId} {adK adV ad am : Nat → Nat} {AA : Nat → Prop} {b0 L bo : Nat} {xs : Nat → Int32} (C : LCx p s m c D cA adK adV AA b0 L xs) {H : Heap} {locs : List Loc} {ls : Array Slot} {cells slots i : Nat} (hSt : LSt D cA ad am bo AA H) (hS : va_S AA s.heap H locs) (hl : lv_has ls 7 (lvL b0 ad am bo i)) (hi : i + 6 ≤ L) (hcl : cells + 1 ≤ room_1.cells ∧ slots + 6 ≤ room_1.slots) (K : LNx p l e s m below meth c Q D cA ad am bo AA b0 i cells slots) : W p l e room_1 s m #[Value.ref b0] below meth c H locs cells slots Q (F0 m 467 ls []) := by
  sorry
-- weigh
set_option maxHeartbeats 4000000 in
set_option maxRecDepth 100000 in
theorem lc_5 {p : Program} {l : Launch} {e : Env} {s : State} {m : MethodId} {below : List Frame} {meth : Method} {c : Code} {Q : State → Prop} {D : va_G} {cA : Nat → ClassId} {adK adV ad am : Nat → Nat} {AA : Nat → Prop} {b0 L bo : Nat} {xs : Nat → Int32} (C : LCx p s m c D cA adK adV AA b0 L xs) {H : Heap} {locs : List Loc} {ls : Array Slot} {cells slots i : Nat} (hSt : LSt D cA ad am bo AA H) (hS : va_S AA s.heap H locs) (hl : lv_has ls 7 (lvL b0 ad am bo i)) (hi : i + 6 ≤ L) (hcl : cells + 1 ≤ room_1.cells ∧ slots + 6 ≤ room_1.slots) (K : LNx p l e s m below meth c Q D cA ad am bo AA b0 i cells slots) : W p l e room_1 s m #[Value.ref b0] below meth c H locs cells slots Q (F0 m 504 ls []) := by
  sorry
-- insert
set_option maxHeartbeats 4000000 in
set_option maxRecDepth 100000 in
theorem lc_6 {p : Program} {l : Launch} {e : Env} {s : State} {m : MethodId} {below : List Frame} {meth : Method} {c : Code} {Q : State → Prop} {D : va_G} {cA : Nat → ClassId} {adK adV ad am : Nat → Nat} {AA : Nat → Prop} {b0 L bo : Nat} {xs : Nat → Int32} (C : LCx p s m c D cA adK adV AA b0 L xs) {H : Heap} {locs : List Loc} {ls : Array Slot} {cells slots i : Nat} (hSt : LSt D cA ad am bo AA H) (hS : va_S AA s.heap H locs) (hl : lv_has ls 7 (lvL b0 ad am bo i)) (hi : i + 6 ≤ L) (hcl : cells + 1 ≤ room_1.cells ∧ slots + 6 ≤ room_1.slots) (K : LNx p l e s m below meth c Q D cA ad am bo AA b0 i cells slots) : W p l e room_1 s m #[Value.ref b0] below meth c H locs cells slots Q (F0 m 541 ls []) := by
  sorry
-- remove
set_option maxHeartbeats 4000000 in
set_option maxRecDepth 100000 in
theorem lc_7 {p : Program} {l : Launch} {e : Env} {s : State} {m : MethodId} {below : List Frame} {meth : Method} {c : Code} {Q : State → Prop} {D : va_G} {cA : Nat → ClassId} {adK adV ad am : Nat → Nat} {AA : Nat → Prop} {b0 L bo : Nat} {xs : Nat → Int32} (C : LCx p s m c D cA adK adV AA b0 L xs) {H : Heap} {locs : List Loc} {ls : Array Slot} {cells slots i : Nat} (hSt : LSt D cA ad am bo AA H) (hS : va_S AA s.heap H locs) (hl : lv_has ls 7 (lvL b0 ad am bo i)) (hi : i + 6 ≤ L) (hcl : cells + 1 ≤ room_1.cells ∧ slots + 6 ≤ room_1.slots) (K : LNx p l e s m below meth c Q D cA ad am bo AA b0 i cells slots) : W p l e room_1 s m #[Value.ref b0] below meth c H locs cells slots Q (F0 m 578 ls []) := by
  sorry
-- fill
set_option maxHeartbeats 4000000 in
set_option maxRecDepth 100000 in
theorem lc_8 {p : Program} {l : Launch} {e : Env} {s : State} {m : MethodId} {below : List Frame} {meth : Method} {c : Code} {Q : State → Prop} {D : va_G} {cA : Nat → ClassId} {adK adV ad am : Nat → Nat} {AA : Nat → Prop} {b0 L bo : Nat} {xs : Nat → Int32} (C : LCx p s m c D cA adK adV AA b0 L xs) {H : Heap} {locs : List Loc} {ls : Array Slot} {cells slots i : Nat} (hSt : LSt D cA ad am bo AA H) (hS : va_S AA s.heap H locs) (hl : lv_has ls 7 (lvL b0 ad am bo i)) (hi : i + 6 ≤ L) (hcl : cells + 1 ≤ room_1.cells ∧ slots + 6 ≤ room_1.slots) (K : LNx p l e s m below meth c Q D cA ad am bo AA b0 i cells slots) : W p l e room_1 s m #[Value.ref b0] below meth c H locs cells slots Q (F0 m 603 ls []) := by
  sorry
-- swap
set_option maxHeartbeats 4000000 in
set_option maxRecDepth 100000 in
theorem lc_9 {p : Program} {l : Launch} {e : Env} {s : State} {m : MethodId} {below : List Frame} {meth : Method} {c : Code} {Q : State → Prop} {D : va_G} {cA : Nat → ClassId} {adK adV ad am : Nat → Nat} {AA : Nat → Prop} {b0 L bo : Nat} {xs : Nat → Int32} (C : LCx p s m c D cA adK adV AA b0 L xs) {H : Heap} {locs : List Loc} {ls : Array Slot} {cells slots i : Nat} (hSt : LSt D cA ad am bo AA H) (hS : va_S AA s.heap H locs) (hl : lv_has ls 7 (lvL b0 ad am bo i)) (hi : i + 6 ≤ L) (hcl : cells + 1 ≤ room_1.cells ∧ slots + 6 ≤ room_1.slots) (K : LNx p l e s m below meth c Q D cA ad am bo AA b0 i cells slots) : W p l e room_1 s m #[Value.ref b0] below meth c H locs cells slots Q (F0 m 652 ls []) := by
  sorry
-- flip
set_option maxHeartbeats 4000000 in
set_option maxRecDepth 100000 in
theorem lc_10 {p : Program} {l : Launch} {e : Env} {s : State} {m : MethodId} {below : List Frame} {meth : Method} {c : Code} {Q : State → Prop} {D : va_G} {cA : Nat → ClassId} {adK adV ad am : Nat → Nat} {AA : Nat → Prop} {b0 L bo : Nat} {xs : Nat → Int32} (C : LCx p s m c D cA adK adV AA b0 L xs) {H : Heap} {locs : List Loc} {ls : Array Slot} {cells slots i : Nat} (hSt : LSt D cA ad am bo AA H) (hS : va_S AA s.heap H locs) (hl : lv_has ls 7 (lvL b0 ad am bo i)) (hi : i + 6 ≤ L) (hcl : cells + 1 ≤ room_1.cells ∧ slots + 6 ≤ room_1.slots) (K : LNx p l e s m below meth c Q D cA ad am bo AA b0 i cells slots) : W p l e room_1 s m #[Value.ref b0] below meth c H locs cells slots Q (F0 m 689 ls []) := by
  sorry
-- shift
set_option maxHeartbeats 4000000 in
set_option maxRecDepth 100000 in
theorem lc_11 {p : Program} {l : Launch} {e : Env} {s : State} {m : MethodId} {below : List Frame} {meth : Method} {c : Code} {Q : State → Prop} {D : va_G} {cA : Nat → ClassId} {adK adV ad am : Nat → Nat} {AA : Nat → Prop} {b0 L bo : Nat} {xs : Nat → Int32} (C : LCx p s m c D cA adK adV AA b0 L xs) {H : Heap} {locs : List Loc} {ls : Array Slot} {cells slots i : Nat} (hSt : LSt D cA ad am bo AA H) (hS : va_S AA s.heap H locs) (hl : lv_has ls 7 (lvL b0 ad am bo i)) (hi : i + 6 ≤ L) (hcl : cells + 1 ≤ room_1.cells ∧ slots + 6 ≤ room_1.slots) (K : LNx p l e s m below meth c Q D cA ad am bo AA b0 i cells slots) : W p l e room_1 s m #[Value.ref b0] below meth c H locs cells slots Q (F0 m 726 ls []) := by
  sorry
-- replace
set_option maxHeartbeats 4000000 in
set_option maxRecDepth 100000 in
theorem lc_12 {p : Program} {l : Launch} {e : Env} {s : State} {m : MethodId} {below : List Frame} {meth : Method} {c : Code} {Q : State → Prop} {D : va_G} {cA : Nat → ClassId} {adK adV ad am : Nat → Nat} {AA : Nat → Prop} {b0 L bo : Nat} {xs : Nat → Int32} (C : LCx p s m c D cA adK adV AA b0 L xs) {H : Heap} {locs : List Loc} {ls : Array Slot} {cells slots i : Nat} (hSt : LSt D cA ad am bo AA H) (hS : va_S AA s.heap H locs) (hl : lv_has ls 7 (lvL b0 ad am bo i)) (hi : i + 6 ≤ L) (hcl : cells + 1 ≤ room_1.cells ∧ slots + 6 ≤ room_1.slots) (K : LNx p l e s m below meth c Q D cA ad am bo AA b0 i cells slots) : W p l e room_1 s m #[Value.ref b0] below meth c H locs cells slots Q (F0 m 775 ls []) := by
  sorry
-- sort
set_option maxHeartbeats 4000000 in
set_option maxRecDepth 100000 in
theorem lc_13 {p : Program} {l : Launch} {e : Env} {s : State} {m : MethodId} {below : List Frame} {meth : Method} {c : Code} {Q : State → Prop} {D : va_G} {cA : Nat → ClassId} {adK adV ad am : Nat → Nat} {AA : Nat → Prop} {b0 L bo : Nat} {xs : Nat → Int32} (C : LCx p s m c D cA adK adV AA b0 L xs) {H : Heap} {locs : List Loc} {ls : Array Slot} {cells slots i : Nat} (hSt : LSt D cA ad am bo AA H) (hS : va_S AA s.heap H locs) (hl : lv_has ls 7 (lvL b0 ad am bo i)) (hi : i + 6 ≤ L) (hcl : cells + 1 ≤ room_1.cells ∧ slots + 6 ≤ room_1.slots) (K : LNx p l e s m below meth c Q D cA ad am bo AA b0 i cells slots) : W p l e room_1 s m #[Value.ref b0] below meth c H locs cells slots Q (F0 m 812 ls []) := by
  sorry
-- refreshed
set_option maxHeartbeats 4000000 in
set_option maxRecDepth 100000 in
theorem lc_14 {p : Program} {l : Launch} {e : Env} {s : State} {m : MethodId} {below : List Frame} {meth : Method} {c : Code} {Q : State → Prop} {D : va_G} {cA : Nat → ClassId} {adK adV ad am : Nat → Nat} {AA : Nat → Prop} {b0 L bo : Nat} {xs : Nat → Int32} (C : LCx p s m c D cA adK adV AA b0 L xs) {H : Heap} {locs : List Loc} {ls : Array Slot} {cells slots i : Nat} (hSt : LSt D cA ad am bo AA H) (hS : va_S AA s.heap H locs) (hl : lv_has ls 7 (lvL b0 ad am bo i)) (hi : i + 6 ≤ L) (hcl : cells + 1 ≤ room_1.cells ∧ slots + 6 ≤ room_1.slots) (K : LNx p l e s m below meth c Q D cA ad am bo AA b0 i cells slots) : W p l e room_1 s m #[Value.ref b0] below meth c H locs cells slots Q (F0 m 877 ls []) := by
  sorry
-- undo
set_option maxHeartbeats 4000000 in
set_option maxRecDepth 100000 in
theorem lc_15 {p : Program} {l : Launch} {e : Env} {s : State} {m : MethodId} {below : List Frame} {meth : Method} {c : Code} {Q : State → Prop} {D : va_G} {cA : Nat → ClassId} {adK adV ad am : Nat → Nat} {AA : Nat → Prop} {b0 L bo : Nat} {xs : Nat → Int32} (C : LCx p s m c D cA adK adV AA b0 L xs) {H : Heap} {locs : List Loc} {ls : Array Slot} {cells slots i : Nat} (hSt : LSt D cA ad am bo AA H) (hS : va_S AA s.heap H locs) (hl : lv_has ls 7 (lvL b0 ad am bo i)) (hi : i + 6 ≤ L) (hcl : cells + 1 ≤ room_1.cells ∧ slots + 6 ≤ room_1.slots) (K : LNx p l e s m below meth c Q D cA ad am bo AA b0 i cells slots) : W p l e room_1 s m #[Value.ref b0] below meth c H locs cells slots Q (F0 m 890 ls []) := by
  sorry
-- was
set_option maxHeartbeats 4000000 in
set_option maxRecDepth 100000 in
theorem lc_16 {p : Program} {l : Launch} {e : Env} {s : State} {m : MethodId} {below : List Frame} {meth : Method} {c : Code} {Q : State → Prop} {D : va_G} {cA : Nat → ClassId} {adK adV ad am : Nat → Nat} {AA : Nat → Prop} {b0 L bo : Nat} {xs : Nat → Int32} (C : LCx p s m c D cA adK adV AA b0 L xs) {H : Heap} {locs : List Loc} {ls : Array Slot} {cells slots i : Nat} (hSt : LSt D cA ad am bo AA H) (hS : va_S AA s.heap H locs) (hl : lv_has ls 7 (lvL b0 ad am bo i)) (hi : i + 6 ≤ L) (hcl : cells + 1 ≤ room_1.cells ∧ slots + 6 ≤ room_1.slots) (K : LNx p l e s m below meth c Q D cA ad am bo AA b0 i cells slots) : W p l e room_1 s m #[Value.ref b0] below meth c H locs cells slots Q (F0 m 903 ls []) := by
  sorry
-- mode
set_option maxHeartbeats 4000000 in
set_option maxRecDepth 100000 in
theorem lc_17 {p : Program} {l : Launch} {e : Env} {s : State} {m : MethodId} {below : List Frame} {meth : Method} {c : Code} {Q : State → Prop} {D : va_G} {cA : Nat → ClassId} {adK adV ad am : Nat → Nat} {AA : Nat → Prop} {b0 L bo : Nat} {xs : Nat → Int32} (C : LCx p s m c D cA adK adV AA b0 L xs) {H : Heap} {locs : List Loc} {ls : Array Slot} {cells slots i : Nat} (hSt : LSt D cA ad am bo AA H) (hS : va_S AA s.heap H locs) (hl : lv_has ls 7 (lvL b0 ad am bo i)) (hi : i + 6 ≤ L) (hcl : cells + 1 ≤ room_1.cells ∧ slots + 6 ≤ room_1.slots) (K : LNx p l e s m below meth c Q D cA ad am bo AA b0 i cells slots) : W p l e room_1 s m #[Value.ref b0] below meth c H locs cells slots Q (F0 m 940 ls []) := by
  sorry
-- ranked
set_option maxHeartbeats 4000000 in
set_option maxRecDepth 100000 in
theorem lc_18 {p : Program} {l : Launch} {e : Env} {s : State} {m : MethodId} {below : List Frame} {meth : Method} {c : Code} {Q : State → Prop} {D : va_G} {cA : Nat → ClassId} {adK adV ad am : Nat → Nat} {AA : Nat → Prop} {b0 L bo : Nat} {xs : Nat → Int32} (C : LCx p s m c D cA adK adV AA b0 L xs) {H : Heap} {locs : List Loc} {ls : Array Slot} {cells slots i : Nat} (hSt : LSt D cA ad am bo AA H) (hS : va_S AA s.heap H locs) (hl : lv_has ls 7 (lvL b0 ad am bo i)) (hi : i + 6 ≤ L) (hcl : cells + 1 ≤ room_1.cells ∧ slots + 6 ≤ room_1.slots) (K : LNx p l e s m below meth c Q D cA ad am bo AA b0 i cells slots) : W p l e room_1 s m #[Value.ref b0] below meth c H locs cells slots Q (F0 m 989 ls []) := by
  sorry
-- rank
set_option maxHeartbeats 4000000 in
set_option maxRecDepth 100000 in
theorem lc_19 {p : Program} {l : Launch} {e : Env} {s : State} {m : MethodId} {below : List Frame} {meth : Method} {c : Code} {Q : State → Prop} {D : va_G} {cA : Nat → ClassId} {adK adV ad am : Nat → Nat} {AA : Nat → Prop} {b0 L bo : Nat} {xs : Nat → Int32} (C : LCx p s m c D cA adK adV AA b0 L xs) {H : Heap} {locs : List Loc} {ls : Array Slot} {cells slots i : Nat} (hSt : LSt D cA ad am bo AA H) (hS : va_S AA s.heap H locs) (hl : lv_has ls 7 (lvL b0 ad am bo i)) (hi : i + 6 ≤ L) (hcl : cells + 1 ≤ room_1.cells ∧ slots + 6 ≤ room_1.slots) (K : LNx p l e s m below meth c Q D cA ad am bo AA b0 i cells slots) : W p l e room_1 s m #[Value.ref b0] below meth c H locs cells slots Q (F0 m 1050 ls []) := by
  sorry
-- often
set_option maxHeartbeats 4000000 in
set_option maxRecDepth 100000 in
theorem lc_20 {p : Program} {l : Launch} {e : Env} {s : State} {m : MethodId} {below : List Frame} {meth : Method} {c : Code} {Q : State → Prop} {D : va_G} {cA : Nat → ClassId} {adK adV ad am : Nat → Nat} {AA : Nat → Prop} {b0 L bo : Nat} {xs : Nat → Int32} (C : LCx p s m c D cA adK adV AA b0 L xs) {H : Heap} {locs : List Loc} {ls : Array Slot} {cells slots i : Nat} (hSt : LSt D cA ad am bo AA H) (hS : va_S AA s.heap H locs) (hl : lv_has ls 7 (lvL b0 ad am bo i)) (hi : i + 6 ≤ L) (hcl : cells + 1 ≤ room_1.cells ∧ slots + 6 ≤ room_1.slots) (K : LNx p l e s m below meth c Q D cA ad am bo AA b0 i cells slots) : W p l e room_1 s m #[Value.ref b0] below meth c H locs cells slots Q (F0 m 1099 ls []) := by
  sorry
-- at
set_option maxHeartbeats 4000000 in
set_option maxRecDepth 100000 in
theorem lc_21 {p : Program} {l : Launch} {e : Env} {s : State} {m : MethodId} {below : List Frame} {meth : Method} {c : Code} {Q : State → Prop} {D : va_G} {cA : Nat → ClassId} {adK adV ad am : Nat → Nat} {AA : Nat → Prop} {b0 L bo : Nat} {xs : Nat → Int32} (C : LCx p s m c D cA adK adV AA b0 L xs) {H : Heap} {locs : List Loc} {ls : Array Slot} {cells slots i : Nat} (hSt : LSt D cA ad am bo AA H) (hS : va_S AA s.heap H locs) (hl : lv_has ls 7 (lvL b0 ad am bo i)) (hi : i + 6 ≤ L) (hcl : cells + 1 ≤ room_1.cells ∧ slots + 6 ≤ room_1.slots) (K : LNx p l e s m below meth c Q D cA ad am bo AA b0 i cells slots) : W p l e room_1 s m #[Value.ref b0] below meth c H locs cells slots Q (F0 m 1148 ls []) := by
  sorry
-- unlike
set_option maxHeartbeats 4000000 in
set_option maxRecDepth 100000 in
theorem lc_22 {p : Program} {l : Launch} {e : Env} {s : State} {m : MethodId} {below : List Frame} {meth : Method} {c : Code} {Q : State → Prop} {D : va_G} {cA : Nat → ClassId} {adK adV ad am : Nat → Nat} {AA : Nat → Prop} {b0 L bo : Nat} {xs : Nat → Int32} (C : LCx p s m c D cA adK adV AA b0 L xs) {H : Heap} {locs : List Loc} {ls : Array Slot} {cells slots i : Nat} (hSt : LSt D cA ad am bo AA H) (hS : va_S AA s.heap H locs) (hl : lv_has ls 7 (lvL b0 ad am bo i)) (hi : i + 6 ≤ L) (hcl : cells + 1 ≤ room_1.cells ∧ slots + 6 ≤ room_1.slots) (K : LNx p l e s m below meth c Q D cA ad am bo AA b0 i cells slots) : W p l e room_1 s m #[Value.ref b0] below meth c H locs cells slots Q (F0 m 1185 ls []) := by
  sorry
-- times
set_option maxHeartbeats 4000000 in
set_option maxRecDepth 100000 in
theorem lc_23 {p : Program} {l : Launch} {e : Env} {s : State} {m : MethodId} {below : List Frame} {meth : Method} {c : Code} {Q : State → Prop} {D : va_G} {cA : Nat → ClassId} {adK adV ad am : Nat → Nat} {AA : Nat → Prop} {b0 L bo : Nat} {xs : Nat → Int32} (C : LCx p s m c D cA adK adV AA b0 L xs) {H : Heap} {locs : List Loc} {ls : Array Slot} {cells slots i : Nat} (hSt : LSt D cA ad am bo AA H) (hS : va_S AA s.heap H locs) (hl : lv_has ls 7 (lvL b0 ad am bo i)) (hi : i + 6 ≤ L) (hcl : cells + 1 ≤ room_1.cells ∧ slots + 6 ≤ room_1.slots) (K : LNx p l e s m below meth c Q D cA ad am bo AA b0 i cells slots) : W p l e room_1 s m #[Value.ref b0] below meth c H locs cells slots Q (F0 m 1222 ls []) := by
  sorry
-- majority
set_option maxHeartbeats 4000000 in
set_option maxRecDepth 100000 in
theorem lc_24 {p : Program} {l : Launch} {e : Env} {s : State} {m : MethodId} {below : List Frame} {meth : Method} {c : Code} {Q : State → Prop} {D : va_G} {cA : Nat → ClassId} {adK adV ad am : Nat → Nat} {AA : Nat → Prop} {b0 L bo : Nat} {xs : Nat → Int32} (C : LCx p s m c D cA adK adV AA b0 L xs) {H : Heap} {locs : List Loc} {ls : Array Slot} {cells slots i : Nat} (hSt : LSt D cA ad am bo AA H) (hS : va_S AA s.heap H locs) (hl : lv_has ls 7 (lvL b0 ad am bo i)) (hi : i + 6 ≤ L) (hcl : cells + 1 ≤ room_1.cells ∧ slots + 6 ≤ room_1.slots) (K : LNx p l e s m below meth c Q D cA ad am bo AA b0 i cells slots) : W p l e room_1 s m #[Value.ref b0] below meth c H locs cells slots Q (F0 m 1271 ls []) := by
  sorry
-- heaviest
set_option maxHeartbeats 4000000 in
set_option maxRecDepth 100000 in
theorem lc_25 {p : Program} {l : Launch} {e : Env} {s : State} {m : MethodId} {below : List Frame} {meth : Method} {c : Code} {Q : State → Prop} {D : va_G} {cA : Nat → ClassId} {adK adV ad am : Nat → Nat} {AA : Nat → Prop} {b0 L bo : Nat} {xs : Nat → Int32} (C : LCx p s m c D cA adK adV AA b0 L xs) {H : Heap} {locs : List Loc} {ls : Array Slot} {cells slots i : Nat} (hSt : LSt D cA ad am bo AA H) (hS : va_S AA s.heap H locs) (hl : lv_has ls 7 (lvL b0 ad am bo i)) (hi : i + 6 ≤ L) (hcl : cells + 1 ≤ room_1.cells ∧ slots + 6 ≤ room_1.slots) (K : LNx p l e s m below meth c Q D cA ad am bo AA b0 i cells slots) : W p l e room_1 s m #[Value.ref b0] below meth c H locs cells slots Q (F0 m 1308 ls []) := by
  sorry
-- pair
set_option maxHeartbeats 4000000 in
set_option maxRecDepth 100000 in
theorem lc_26 {p : Program} {l : Launch} {e : Env} {s : State} {m : MethodId} {below : List Frame} {meth : Method} {c : Code} {Q : State → Prop} {D : va_G} {cA : Nat → ClassId} {adK adV ad am : Nat → Nat} {AA : Nat → Prop} {b0 L bo : Nat} {xs : Nat → Int32} (C : LCx p s m c D cA adK adV AA b0 L xs) {H : Heap} {locs : List Loc} {ls : Array Slot} {cells slots i : Nat} (hSt : LSt D cA ad am bo AA H) (hS : va_S AA s.heap H locs) (hl : lv_has ls 7 (lvL b0 ad am bo i)) (hi : i + 6 ≤ L) (hcl : cells + 1 ≤ room_1.cells ∧ slots + 6 ≤ room_1.slots) (K : LNx p l e s m below meth c Q D cA ad am bo AA b0 i cells slots) : W p l e room_1 s m #[Value.ref b0] below meth c H locs cells slots Q (F0 m 1357 ls []) := by
  sorry
-- candidate
set_option maxHeartbeats 4000000 in
set_option maxRecDepth 100000 in
theorem lc_27 {p : Program} {l : Launch} {e : Env} {s : State} {m : MethodId} {below : List Frame} {meth : Method} {c : Code} {Q : State → Prop} {D : va_G} {cA : Nat → ClassId} {adK adV ad am : Nat → Nat} {AA : Nat → Prop} {b0 L bo : Nat} {xs : Nat → Int32} (C : LCx p s m c D cA adK adV AA b0 L xs) {H : Heap} {locs : List Loc} {ls : Array Slot} {cells slots i : Nat} (hSt : LSt D cA ad am bo AA H) (hS : va_S AA s.heap H locs) (hl : lv_has ls 7 (lvL b0 ad am bo i)) (hi : i + 6 ≤ L) (hcl : cells + 1 ≤ room_1.cells ∧ slots + 6 ≤ room_1.slots) (K : LNx p l e s m below meth c Q D cA ad am bo AA b0 i cells slots) : W p l e room_1 s m #[Value.ref b0] below meth c H locs cells slots Q (F0 m 1406 ls []) := by
  sorry
-- median
set_option maxHeartbeats 4000000 in
set_option maxRecDepth 100000 in
theorem lc_28 {p : Program} {l : Launch} {e : Env} {s : State} {m : MethodId} {below : List Frame} {meth : Method} {c : Code} {Q : State → Prop} {D : va_G} {cA : Nat → ClassId} {adK adV ad am : Nat → Nat} {AA : Nat → Prop} {b0 L bo : Nat} {xs : Nat → Int32} (C : LCx p s m c D cA adK adV AA b0 L xs) {H : Heap} {locs : List Loc} {ls : Array Slot} {cells slots i : Nat} (hSt : LSt D cA ad am bo AA H) (hS : va_S AA s.heap H locs) (hl : lv_has ls 7 (lvL b0 ad am bo i)) (hi : i + 6 ≤ L) (hcl : cells + 1 ≤ room_1.cells ∧ slots + 6 ≤ room_1.slots) (K : LNx p l e s m below meth c Q D cA ad am bo AA b0 i cells slots) : W p l e room_1 s m #[Value.ref b0] below meth c H locs cells slots Q (F0 m 1455 ls []) := by
  sorry
-- twisted
set_option maxHeartbeats 4000000 in
set_option maxRecDepth 100000 in
theorem lc_29 {p : Program} {l : Launch} {e : Env} {s : State} {m : MethodId} {below : List Frame} {meth : Method} {c : Code} {Q : State → Prop} {D : va_G} {cA : Nat → ClassId} {adK adV ad am : Nat → Nat} {AA : Nat → Prop} {b0 L bo : Nat} {xs : Nat → Int32} (C : LCx p s m c D cA adK adV AA b0 L xs) {H : Heap} {locs : List Loc} {ls : Array Slot} {cells slots i : Nat} (hSt : LSt D cA ad am bo AA H) (hS : va_S AA s.heap H locs) (hl : lv_has ls 7 (lvL b0 ad am bo i)) (hi : i + 6 ≤ L) (hcl : cells + 1 ≤ room_1.cells ∧ slots + 6 ≤ room_1.slots) (K : LNx p l e s m below meth c Q D cA ad am bo AA b0 i cells slots) : W p l e room_1 s m #[Value.ref b0] below meth c H locs cells slots Q (F0 m 1492 ls []) := by
  sorry
-- run
set_option maxHeartbeats 4000000 in
set_option maxRecDepth 100000 in
theorem lc_30 {p : Program} {l : Launch} {e : Env} {s : State} {m : MethodId} {below : List Frame} {meth : Method} {c : Code} {Q : State → Prop} {D : va_G} {cA : Nat → ClassId} {adK adV ad am : Nat → Nat} {AA : Nat → Prop} {b0 L bo : Nat} {xs : Nat → Int32} (C : LCx p s m c D cA adK adV AA b0 L xs) {H : Heap} {locs : List Loc} {ls : Array Slot} {cells slots i : Nat} (hSt : LSt D cA ad am bo AA H) (hS : va_S AA s.heap H locs) (hl : lv_has ls 7 (lvL b0 ad am bo i)) (hi : i + 6 ≤ L) (hcl : cells + 1 ≤ room_1.cells ∧ slots + 6 ≤ room_1.slots) (K : LNx p l e s m below meth c Q D cA ad am bo AA b0 i cells slots) : W p l e room_1 s m #[Value.ref b0] below meth c H locs cells slots Q (F0 m 1529 ls []) := by
  sorry
-- common
set_option maxHeartbeats 4000000 in
set_option maxRecDepth 100000 in
theorem lc_31 {p : Program} {l : Launch} {e : Env} {s : State} {m : MethodId} {below : List Frame} {meth : Method} {c : Code} {Q : State → Prop} {D : va_G} {cA : Nat → ClassId} {adK adV ad am : Nat → Nat} {AA : Nat → Prop} {b0 L bo : Nat} {xs : Nat → Int32} (C : LCx p s m c D cA adK adV AA b0 L xs) {H : Heap} {locs : List Loc} {ls : Array Slot} {cells slots i : Nat} (hSt : LSt D cA ad am bo AA H) (hS : va_S AA s.heap H locs) (hl : lv_has ls 7 (lvL b0 ad am bo i)) (hi : i + 6 ≤ L) (hcl : cells + 1 ≤ room_1.cells ∧ slots + 6 ≤ room_1.slots) (K : LNx p l e s m below meth c Q D cA ad am bo AA b0 i cells slots) : W p l e room_1 s m #[Value.ref b0] below meth c H locs cells slots Q (F0 m 1578 ls []) := by
  sorry
-- window
set_option maxHeartbeats 4000000 in
set_option maxRecDepth 100000 in
theorem lc_32 {p : Program} {l : Launch} {e : Env} {s : State} {m : MethodId} {below : List Frame} {meth : Method} {c : Code} {Q : State → Prop} {D : va_G} {cA : Nat → ClassId} {adK adV ad am : Nat → Nat} {AA : Nat → Prop} {b0 L bo : Nat} {xs : Nat → Int32} (C : LCx p s m c D cA adK adV AA b0 L xs) {H : Heap} {locs : List Loc} {ls : Array Slot} {cells slots i : Nat} (hSt : LSt D cA ad am bo AA H) (hS : va_S AA s.heap H locs) (hl : lv_has ls 7 (lvL b0 ad am bo i)) (hi : i + 6 ≤ L) (hcl : cells + 1 ≤ room_1.cells ∧ slots + 6 ≤ room_1.slots) (K : LNx p l e s m below meth c Q D cA ad am bo AA b0 i cells slots) : W p l e room_1 s m #[Value.ref b0] below meth c H locs cells slots Q (F0 m 1627 ls []) := by
  sorry
-- windows
set_option maxHeartbeats 4000000 in
set_option maxRecDepth 100000 in
theorem lc_33 {p : Program} {l : Launch} {e : Env} {s : State} {m : MethodId} {below : List Frame} {meth : Method} {c : Code} {Q : State → Prop} {D : va_G} {cA : Nat → ClassId} {adK adV ad am : Nat → Nat} {AA : Nat → Prop} {b0 L bo : Nat} {xs : Nat → Int32} (C : LCx p s m c D cA adK adV AA b0 L xs) {H : Heap} {locs : List Loc} {ls : Array Slot} {cells slots i : Nat} (hSt : LSt D cA ad am bo AA H) (hS : va_S AA s.heap H locs) (hl : lv_has ls 7 (lvL b0 ad am bo i)) (hi : i + 6 ≤ L) (hcl : cells + 1 ≤ room_1.cells ∧ slots + 6 ≤ room_1.slots) (K : LNx p l e s m below meth c Q D cA ad am bo AA b0 i cells slots) : W p l e room_1 s m #[Value.ref b0] below meth c H locs cells slots Q (F0 m 1664 ls []) := by
  sorry
-- spans
set_option maxHeartbeats 4000000 in
set_option maxRecDepth 100000 in
theorem lc_34 {p : Program} {l : Launch} {e : Env} {s : State} {m : MethodId} {below : List Frame} {meth : Method} {c : Code} {Q : State → Prop} {D : va_G} {cA : Nat → ClassId} {adK adV ad am : Nat → Nat} {AA : Nat → Prop} {b0 L bo : Nat} {xs : Nat → Int32} (C : LCx p s m c D cA adK adV AA b0 L xs) {H : Heap} {locs : List Loc} {ls : Array Slot} {cells slots i : Nat} (hSt : LSt D cA ad am bo AA H) (hS : va_S AA s.heap H locs) (hl : lv_has ls 7 (lvL b0 ad am bo i)) (hi : i + 6 ≤ L) (hcl : cells + 1 ≤ room_1.cells ∧ slots + 6 ≤ room_1.slots) (K : LNx p l e s m below meth c Q D cA ad am bo AA b0 i cells slots) : W p l e room_1 s m #[Value.ref b0] below meth c H locs cells slots Q (F0 m 1701 ls []) := by
  sorry
-- longest
set_option maxHeartbeats 4000000 in
set_option maxRecDepth 100000 in
theorem lc_35 {p : Program} {l : Launch} {e : Env} {s : State} {m : MethodId} {below : List Frame} {meth : Method} {c : Code} {Q : State → Prop} {D : va_G} {cA : Nat → ClassId} {adK adV ad am : Nat → Nat} {AA : Nat → Prop} {b0 L bo : Nat} {xs : Nat → Int32} (C : LCx p s m c D cA adK adV AA b0 L xs) {H : Heap} {locs : List Loc} {ls : Array Slot} {cells slots i : Nat} (hSt : LSt D cA ad am bo AA H) (hS : va_S AA s.heap H locs) (hl : lv_has ls 7 (lvL b0 ad am bo i)) (hi : i + 6 ≤ L) (hcl : cells + 1 ≤ room_1.cells ∧ slots + 6 ≤ room_1.slots) (K : LNx p l e s m below meth c Q D cA ad am bo AA b0 i cells slots) : W p l e room_1 s m #[Value.ref b0] below meth c H locs cells slots Q (F0 m 1726 ls []) := by
  sorry
-- tightest
set_option maxHeartbeats 4000000 in
set_option maxRecDepth 100000 in
theorem lc_36 {p : Program} {l : Launch} {e : Env} {s : State} {m : MethodId} {below : List Frame} {meth : Method} {c : Code} {Q : State → Prop} {D : va_G} {cA : Nat → ClassId} {adK adV ad am : Nat → Nat} {AA : Nat → Prop} {b0 L bo : Nat} {xs : Nat → Int32} (C : LCx p s m c D cA adK adV AA b0 L xs) {H : Heap} {locs : List Loc} {ls : Array Slot} {cells slots i : Nat} (hSt : LSt D cA ad am bo AA H) (hS : va_S AA s.heap H locs) (hl : lv_has ls 7 (lvL b0 ad am bo i)) (hi : i + 6 ≤ L) (hcl : cells + 1 ≤ room_1.cells ∧ slots + 6 ≤ room_1.slots) (K : LNx p l e s m below meth c Q D cA ad am bo AA b0 i cells slots) : W p l e room_1 s m #[Value.ref b0] below meth c H locs cells slots Q (F0 m 1763 ls []) := by
  sorry
-- needed
set_option maxHeartbeats 4000000 in
set_option maxRecDepth 100000 in
theorem lc_37 {p : Program} {l : Launch} {e : Env} {s : State} {m : MethodId} {below : List Frame} {meth : Method} {c : Code} {Q : State → Prop} {D : va_G} {cA : Nat → ClassId} {adK adV ad am : Nat → Nat} {AA : Nat → Prop} {b0 L bo : Nat} {xs : Nat → Int32} (C : LCx p s m c D cA adK adV AA b0 L xs) {H : Heap} {locs : List Loc} {ls : Array Slot} {cells slots i : Nat} (hSt : LSt D cA ad am bo AA H) (hS : va_S AA s.heap H locs) (hl : lv_has ls 7 (lvL b0 ad am bo i)) (hi : i + 6 ≤ L) (hcl : cells + 1 ≤ room_1.cells ∧ slots + 6 ≤ room_1.slots) (K : LNx p l e s m below meth c Q D cA ad am bo AA b0 i cells slots) : W p l e room_1 s m #[Value.ref b0] below meth c H locs cells slots Q (F0 m 1800 ls []) := by
  sorry
-- ifSet
set_option maxHeartbeats 4000000 in
set_option maxRecDepth 100000 in
theorem lc_38 {p : Program} {l : Launch} {e : Env} {s : State} {m : MethodId} {below : List Frame} {meth : Method} {c : Code} {Q : State → Prop} {D : va_G} {cA : Nat → ClassId} {adK adV ad am : Nat → Nat} {AA : Nat → Prop} {b0 L bo : Nat} {xs : Nat → Int32} (C : LCx p s m c D cA adK adV AA b0 L xs) {H : Heap} {locs : List Loc} {ls : Array Slot} {cells slots i : Nat} (hSt : LSt D cA ad am bo AA H) (hS : va_S AA s.heap H locs) (hl : lv_has ls 7 (lvL b0 ad am bo i)) (hi : i + 6 ≤ L) (hcl : cells + 1 ≤ room_1.cells ∧ slots + 6 ≤ room_1.slots) (K : LNx p l e s m below meth c Q D cA ad am bo AA b0 i cells slots) : W p l e room_1 s m #[Value.ref b0] below meth c H locs cells slots Q (F0 m 1849 ls []) := by
  sorry
-- ifOut
set_option maxHeartbeats 4000000 in
set_option maxRecDepth 100000 in
theorem lc_39 {p : Program} {l : Launch} {e : Env} {s : State} {m : MethodId} {below : List Frame} {meth : Method} {c : Code} {Q : State → Prop} {D : va_G} {cA : Nat → ClassId} {adK adV ad am : Nat → Nat} {AA : Nat → Prop} {b0 L bo : Nat} {xs : Nat → Int32} (C : LCx p s m c D cA adK adV AA b0 L xs) {H : Heap} {locs : List Loc} {ls : Array Slot} {cells slots i : Nat} (hSt : LSt D cA ad am bo AA H) (hS : va_S AA s.heap H locs) (hl : lv_has ls 7 (lvL b0 ad am bo i)) (hi : i + 6 ≤ L) (hcl : cells + 1 ≤ room_1.cells ∧ slots + 6 ≤ room_1.slots) (K : LNx p l e s m below meth c Q D cA ad am bo AA b0 i cells slots) : W p l e room_1 s m #[Value.ref b0] below meth c H locs cells slots Q (F0 m 1910 ls []) := by
  sorry
-- ifTies
set_option maxHeartbeats 4000000 in
set_option maxRecDepth 100000 in
theorem lc_40 {p : Program} {l : Launch} {e : Env} {s : State} {m : MethodId} {below : List Frame} {meth : Method} {c : Code} {Q : State → Prop} {D : va_G} {cA : Nat → ClassId} {adK adV ad am : Nat → Nat} {AA : Nat → Prop} {b0 L bo : Nat} {xs : Nat → Int32} (C : LCx p s m c D cA adK adV AA b0 L xs) {H : Heap} {locs : List Loc} {ls : Array Slot} {cells slots i : Nat} (hSt : LSt D cA ad am bo AA H) (hS : va_S AA s.heap H locs) (hl : lv_has ls 7 (lvL b0 ad am bo i)) (hi : i + 6 ≤ L) (hcl : cells + 1 ≤ room_1.cells ∧ slots + 6 ≤ room_1.slots) (K : LNx p l e s m below meth c Q D cA ad am bo AA b0 i cells slots) : W p l e room_1 s m #[Value.ref b0] below meth c H locs cells slots Q (F0 m 1959 ls []) := by
  sorry
-- lead
set_option maxHeartbeats 4000000 in
set_option maxRecDepth 100000 in
theorem lc_41 {p : Program} {l : Launch} {e : Env} {s : State} {m : MethodId} {below : List Frame} {meth : Method} {c : Code} {Q : State → Prop} {D : va_G} {cA : Nat → ClassId} {adK adV ad am : Nat → Nat} {AA : Nat → Prop} {b0 L bo : Nat} {xs : Nat → Int32} (C : LCx p s m c D cA adK adV AA b0 L xs) {H : Heap} {locs : List Loc} {ls : Array Slot} {cells slots i : Nat} (hSt : LSt D cA ad am bo AA H) (hS : va_S AA s.heap H locs) (hl : lv_has ls 7 (lvL b0 ad am bo i)) (hi : i + 6 ≤ L) (hcl : cells + 1 ≤ room_1.cells ∧ slots + 6 ≤ room_1.slots) (K : LNx p l e s m below meth c Q D cA ad am bo AA b0 i cells slots) : W p l e room_1 s m #[Value.ref b0] below meth c H locs cells slots Q (F0 m 2008 ls []) := by
  sorry
-- rarest
set_option maxHeartbeats 4000000 in
set_option maxRecDepth 100000 in
theorem lc_42 {p : Program} {l : Launch} {e : Env} {s : State} {m : MethodId} {below : List Frame} {meth : Method} {c : Code} {Q : State → Prop} {D : va_G} {cA : Nat → ClassId} {adK adV ad am : Nat → Nat} {AA : Nat → Prop} {b0 L bo : Nat} {xs : Nat → Int32} (C : LCx p s m c D cA adK adV AA b0 L xs) {H : Heap} {locs : List Loc} {ls : Array Slot} {cells slots i : Nat} (hSt : LSt D cA ad am bo AA H) (hS : va_S AA s.heap H locs) (hl : lv_has ls 7 (lvL b0 ad am bo i)) (hi : i + 6 ≤ L) (hcl : cells + 1 ≤ room_1.cells ∧ slots + 6 ≤ room_1.slots) (K : LNx p l e s m below meth c Q D cA ad am bo AA b0 i cells slots) : W p l e room_1 s m #[Value.ref b0] below meth c H locs cells slots Q (F0 m 2045 ls []) := by
  sorry
-- follow
set_option maxHeartbeats 4000000 in
set_option maxRecDepth 100000 in
theorem lc_43 {p : Program} {l : Launch} {e : Env} {s : State} {m : MethodId} {below : List Frame} {meth : Method} {c : Code} {Q : State → Prop} {D : va_G} {cA : Nat → ClassId} {adK adV ad am : Nat → Nat} {AA : Nat → Prop} {b0 L bo : Nat} {xs : Nat → Int32} (C : LCx p s m c D cA adK adV AA b0 L xs) {H : Heap} {locs : List Loc} {ls : Array Slot} {cells slots i : Nat} (hSt : LSt D cA ad am bo AA H) (hS : va_S AA s.heap H locs) (hl : lv_has ls 7 (lvL b0 ad am bo i)) (hi : i + 6 ≤ L) (hcl : cells + 1 ≤ room_1.cells ∧ slots + 6 ≤ room_1.slots) (K : LNx p l e s m below meth c Q D cA ad am bo AA b0 i cells slots) : W p l e room_1 s m #[Value.ref b0] below meth c H locs cells slots Q (F0 m 2094 ls []) := by
  sorry
-- split
set_option maxHeartbeats 4000000 in
set_option maxRecDepth 100000 in
theorem lc_44 {p : Program} {l : Launch} {e : Env} {s : State} {m : MethodId} {below : List Frame} {meth : Method} {c : Code} {Q : State → Prop} {D : va_G} {cA : Nat → ClassId} {adK adV ad am : Nat → Nat} {AA : Nat → Prop} {b0 L bo : Nat} {xs : Nat → Int32} (C : LCx p s m c D cA adK adV AA b0 L xs) {H : Heap} {locs : List Loc} {ls : Array Slot} {cells slots i : Nat} (hSt : LSt D cA ad am bo AA H) (hS : va_S AA s.heap H locs) (hl : lv_has ls 7 (lvL b0 ad am bo i)) (hi : i + 6 ≤ L) (hcl : cells + 1 ≤ room_1.cells ∧ slots + 6 ≤ room_1.slots) (K : LNx p l e s m below meth c Q D cA ad am bo AA b0 i cells slots) : W p l e room_1 s m #[Value.ref b0] below meth c H locs cells slots Q (F0 m 2159 ls []) := by
  sorry
-- together
set_option maxHeartbeats 4000000 in
set_option maxRecDepth 100000 in
theorem lc_45 {p : Program} {l : Launch} {e : Env} {s : State} {m : MethodId} {below : List Frame} {meth : Method} {c : Code} {Q : State → Prop} {D : va_G} {cA : Nat → ClassId} {adK adV ad am : Nat → Nat} {AA : Nat → Prop} {b0 L bo : Nat} {xs : Nat → Int32} (C : LCx p s m c D cA adK adV AA b0 L xs) {H : Heap} {locs : List Loc} {ls : Array Slot} {cells slots i : Nat} (hSt : LSt D cA ad am bo AA H) (hS : va_S AA s.heap H locs) (hl : lv_has ls 7 (lvL b0 ad am bo i)) (hi : i + 6 ≤ L) (hcl : cells + 1 ≤ room_1.cells ∧ slots + 6 ≤ room_1.slots) (K : LNx p l e s m below meth c Q D cA ad am bo AA b0 i cells slots) : W p l e room_1 s m #[Value.ref b0] below meth c H locs cells slots Q (F0 m 2208 ls []) := by
  sorry
-- agree
set_option maxHeartbeats 4000000 in
set_option maxRecDepth 100000 in
theorem lc_46 {p : Program} {l : Launch} {e : Env} {s : State} {m : MethodId} {below : List Frame} {meth : Method} {c : Code} {Q : State → Prop} {D : va_G} {cA : Nat → ClassId} {adK adV ad am : Nat → Nat} {AA : Nat → Prop} {b0 L bo : Nat} {xs : Nat → Int32} (C : LCx p s m c D cA adK adV AA b0 L xs) {H : Heap} {locs : List Loc} {ls : Array Slot} {cells slots i : Nat} (hSt : LSt D cA ad am bo AA H) (hS : va_S AA s.heap H locs) (hl : lv_has ls 7 (lvL b0 ad am bo i)) (hi : i + 6 ≤ L) (hcl : cells + 1 ≤ room_1.cells ∧ slots + 6 ≤ room_1.slots) (K : LNx p l e s m below meth c Q D cA ad am bo AA b0 i cells slots) : W p l e room_1 s m #[Value.ref b0] below meth c H locs cells slots Q (F0 m 2281 ls []) := by
  sorry
-- peeled
set_option maxHeartbeats 4000000 in
set_option maxRecDepth 100000 in
theorem lc_47 {p : Program} {l : Launch} {e : Env} {s : State} {m : MethodId} {below : List Frame} {meth : Method} {c : Code} {Q : State → Prop} {D : va_G} {cA : Nat → ClassId} {adK adV ad am : Nat → Nat} {AA : Nat → Prop} {b0 L bo : Nat} {xs : Nat → Int32} (C : LCx p s m c D cA adK adV AA b0 L xs) {H : Heap} {locs : List Loc} {ls : Array Slot} {cells slots i : Nat} (hSt : LSt D cA ad am bo AA H) (hS : va_S AA s.heap H locs) (hl : lv_has ls 7 (lvL b0 ad am bo i)) (hi : i + 6 ≤ L) (hcl : cells + 1 ≤ room_1.cells ∧ slots + 6 ≤ room_1.slots) (K : LNx p l e s m below meth c Q D cA ad am bo AA b0 i cells slots) : W p l e room_1 s m #[Value.ref b0] below meth c H locs cells slots Q (F0 m 2330 ls []) := by
  sorry
-- reign
set_option maxHeartbeats 4000000 in
set_option maxRecDepth 100000 in
theorem lc_48 {p : Program} {l : Launch} {e : Env} {s : State} {m : MethodId} {below : List Frame} {meth : Method} {c : Code} {Q : State → Prop} {D : va_G} {cA : Nat → ClassId} {adK adV ad am : Nat → Nat} {AA : Nat → Prop} {b0 L bo : Nat} {xs : Nat → Int32} (C : LCx p s m c D cA adK adV AA b0 L xs) {H : Heap} {locs : List Loc} {ls : Array Slot} {cells slots i : Nat} (hSt : LSt D cA ad am bo AA H) (hS : va_S AA s.heap H locs) (hl : lv_has ls 7 (lvL b0 ad am bo i)) (hi : i + 6 ≤ L) (hcl : cells + 1 ≤ room_1.cells ∧ slots + 6 ≤ room_1.slots) (K : LNx p l e s m below meth c Q D cA ad am bo AA b0 i cells slots) : W p l e room_1 s m #[Value.ref b0] below meth c H locs cells slots Q (F0 m 2379 ls []) := by
  sorry
-- beginnings
set_option maxHeartbeats 4000000 in
set_option maxRecDepth 100000 in
theorem lc_49 {p : Program} {l : Launch} {e : Env} {s : State} {m : MethodId} {below : List Frame} {meth : Method} {c : Code} {Q : State → Prop} {D : va_G} {cA : Nat → ClassId} {adK adV ad am : Nat → Nat} {AA : Nat → Prop} {b0 L bo : Nat} {xs : Nat → Int32} (C : LCx p s m c D cA adK adV AA b0 L xs) {H : Heap} {locs : List Loc} {ls : Array Slot} {cells slots i : Nat} (hSt : LSt D cA ad am bo AA H) (hS : va_S AA s.heap H locs) (hl : lv_has ls 7 (lvL b0 ad am bo i)) (hi : i + 6 ≤ L) (hcl : cells + 1 ≤ room_1.cells ∧ slots + 6 ≤ room_1.slots) (K : LNx p l e s m below meth c Q D cA ad am bo AA b0 i cells slots) : W p l e room_1 s m #[Value.ref b0] below meth c H locs cells slots Q (F0 m 2416 ls []) := by
  sorry
-- since
set_option maxHeartbeats 4000000 in
set_option maxRecDepth 100000 in
theorem lc_50 {p : Program} {l : Launch} {e : Env} {s : State} {m : MethodId} {below : List Frame} {meth : Method} {c : Code} {Q : State → Prop} {D : va_G} {cA : Nat → ClassId} {adK adV ad am : Nat → Nat} {AA : Nat → Prop} {b0 L bo : Nat} {xs : Nat → Int32} (C : LCx p s m c D cA adK adV AA b0 L xs) {H : Heap} {locs : List Loc} {ls : Array Slot} {cells slots i : Nat} (hSt : LSt D cA ad am bo AA H) (hS : va_S AA s.heap H locs) (hl : lv_has ls 7 (lvL b0 ad am bo i)) (hi : i + 6 ≤ L) (hcl : cells + 1 ≤ room_1.cells ∧ slots + 6 ≤ room_1.slots) (K : LNx p l e s m below meth c Q D cA ad am bo AA b0 i cells slots) : W p l e room_1 s m #[Value.ref b0] below meth c H locs cells slots Q (F0 m 2441 ls []) := by
  sorry
-- gap
set_option maxHeartbeats 4000000 in
set_option maxRecDepth 100000 in
theorem lc_51 {p : Program} {l : Launch} {e : Env} {s : State} {m : MethodId} {below : List Frame} {meth : Method} {c : Code} {Q : State → Prop} {D : va_G} {cA : Nat → ClassId} {adK adV ad am : Nat → Nat} {AA : Nat → Prop} {b0 L bo : Nat} {xs : Nat → Int32} (C : LCx p s m c D cA adK adV AA b0 L xs) {H : Heap} {locs : List Loc} {ls : Array Slot} {cells slots i : Nat} (hSt : LSt D cA ad am bo AA H) (hS : va_S AA s.heap H locs) (hl : lv_has ls 7 (lvL b0 ad am bo i)) (hi : i + 6 ≤ L) (hcl : cells + 1 ≤ room_1.cells ∧ slots + 6 ≤ room_1.slots) (K : LNx p l e s m below meth c Q D cA ad am bo AA b0 i cells slots) : W p l e room_1 s m #[Value.ref b0] below meth c H locs cells slots Q (F0 m 2466 ls []) := by
  sorry
-- wide
set_option maxHeartbeats 4000000 in
set_option maxRecDepth 100000 in
theorem lc_52 {p : Program} {l : Launch} {e : Env} {s : State} {m : MethodId} {below : List Frame} {meth : Method} {c : Code} {Q : State → Prop} {D : va_G} {cA : Nat → ClassId} {adK adV ad am : Nat → Nat} {AA : Nat → Prop} {b0 L bo : Nat} {xs : Nat → Int32} (C : LCx p s m c D cA adK adV AA b0 L xs) {H : Heap} {locs : List Loc} {ls : Array Slot} {cells slots i : Nat} (hSt : LSt D cA ad am bo AA H) (hS : va_S AA s.heap H locs) (hl : lv_has ls 7 (lvL b0 ad am bo i)) (hi : i + 6 ≤ L) (hcl : cells + 1 ≤ room_1.cells ∧ slots + 6 ≤ room_1.slots) (K : LNx p l e s m below meth c Q D cA ad am bo AA b0 i cells slots) : W p l e room_1 s m #[Value.ref b0] below meth c H locs cells slots Q (F0 m 2491 ls []) := by
  sorry
-- part
set_option maxHeartbeats 4000000 in
set_option maxRecDepth 100000 in
theorem lc_53 {p : Program} {l : Launch} {e : Env} {s : State} {m : MethodId} {below : List Frame} {meth : Method} {c : Code} {Q : State → Prop} {D : va_G} {cA : Nat → ClassId} {adK adV ad am : Nat → Nat} {AA : Nat → Prop} {b0 L bo : Nat} {xs : Nat → Int32} (C : LCx p s m c D cA adK adV AA b0 L xs) {H : Heap} {locs : List Loc} {ls : Array Slot} {cells slots i : Nat} (hSt : LSt D cA ad am bo AA H) (hS : va_S AA s.heap H locs) (hl : lv_has ls 7 (lvL b0 ad am bo i)) (hi : i + 6 ≤ L) (hcl : cells + 1 ≤ room_1.cells ∧ slots + 6 ≤ room_1.slots) (K : LNx p l e s m below meth c Q D cA ad am bo AA b0 i cells slots) : W p l e room_1 s m #[Value.ref b0] below meth c H locs cells slots Q (F0 m 2516 ls []) := by
  sorry
-- count
set_option maxHeartbeats 4000000 in
set_option maxRecDepth 100000 in
theorem lc_54 {p : Program} {l : Launch} {e : Env} {s : State} {m : MethodId} {below : List Frame} {meth : Method} {c : Code} {Q : State → Prop} {D : va_G} {cA : Nat → ClassId} {adK adV ad am : Nat → Nat} {AA : Nat → Prop} {b0 L bo : Nat} {xs : Nat → Int32} (C : LCx p s m c D cA adK adV AA b0 L xs) {H : Heap} {locs : List Loc} {ls : Array Slot} {cells slots i : Nat} (hSt : LSt D cA ad am bo AA H) (hS : va_S AA s.heap H locs) (hl : lv_has ls 7 (lvL b0 ad am bo i)) (hi : i + 6 ≤ L) (hcl : cells + 1 ≤ room_1.cells ∧ slots + 6 ≤ room_1.slots) (K : LNx p l e s m below meth c Q D cA ad am bo AA b0 i cells slots) : W p l e room_1 s m #[Value.ref b0] below meth c H locs cells slots Q (F0 m 2541 ls []) := by
  sorry

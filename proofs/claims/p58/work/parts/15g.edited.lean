set_option maxHeartbeats 4000000 in
set_option maxRecDepth 100000 in
theorem kL_editedB (l : Launch) (D : va_G) (cA : Nat → ClassId) (b0 : Nat) (b1 : Nat) (b7 : Nat) (b8 : Nat) (n0 : Nat) (f0 : Nat → Int32) (f1 : Nat → Int32) (f7 : Nat → Int32) (f8 : Nat → Int32) (x2 : Int32) (x3 : Int32) (x4 : Int32) (x5 : Int32) (x6 : Int32) (q : Nat × (Nat → Int32) × (Nat → Int32)) (h : mL_edited n0 f0 f1 f7 f8 x2 x3 x4 x5 x6 = some q) (hn0 : n0 ≤ 60) {p : Program} {e : Env} {s : State} {m : MethodId} {args : Array Value} {below : List Frame} {meth : Method} {c : Code} {A : Nat → Prop} {ls : Array Slot} {Q : State → Prop} {H : Heap} {locs : List Loc} (hx : p.tables.exec = Jvm.exec) (hb : c.code = cL_edited) (hml : c.maxLocals = 14) (hts : ∀ w ∈ wsL_edited, w.before args s = true) (hown : s.vm.findClass yL_edited.cls = some m.cls) (hK : va_K D vwCl (TY cA) s) (hO : va_AOA .int s) (hP : va_P D vwCl (wL_edited cA b0 b1 b7 b8 n0 f0 f1 f7 f8) H) (hD : va_D A (wL_edited cA b0 b1 b7 b8 n0 f0 f1 f7 f8)) (hA : ∀ q : Nat, s.heap.size ≤ q → A q) (hS : va_S A s.heap H locs) (hl : lv_has ls 14 [(0, .ref (b0)), (1, .ref (b1)), (2, .int x2), (3, .int x3), (4, .int x4), (5, .int x5), (6, .int x6), (7, .ref (b7)), (8, .ref (b8))]) (hret : ∀ {H : Heap} {locs : List Loc} {ls : Array Slot} {pc : Nat} (q0 q1 q2 : Nat), va_P D vwCl (wL_edR cA b0 b1 q0 q1 q2 n0 f0 f1 q) H → va_D A (wL_edR cA b0 b1 q0 q1 q2 n0 f0 f1 q) → va_S A s.heap H locs → decode cL_edited pc = .ok (.areturn, 1) → W p l e (headSpec wsL_edited { frames := 1, cells := 5, slots := 600, locals := 24 }).room s m args below meth c H locs 5 600 Q (F0 m pc ls [.ref q0])) : W p l e (headSpec wsL_edited { frames := 1, cells := 5, slots := 600, locals := 24 }).room s m args below meth c H locs 2 (n0 + n0) Q (F0 m 22 ls []) := by
  unfold mL_edited at h
  refine lv_iload_n hx hb dL_edited_22 rfl (lv_at hl 3 rfl) ?_
  refine lv_iload hx hb dL_edited_23 (lv_at hl 4 rfl) ?_
  refine va_mmin hx hb (by rw [hml, hl.1]) hown (hts (.methodLink RL 143 Lib.Math.min.name) (by decide +kernel)) (hts (.static Lib.Math.min.name) (by decide +kernel)) (hts (.initialized "java/lang/Math") (by decide +kernel)) (hts (.code Lib.Math.min.name Lib.Math.min.code 2 (some .int)) (by decide +kernel)) (Nat.le_of_ble_eq_true rfl) (Nat.le_of_ble_eq_true rfl) (show 2 ≤ 5 by omega) (show (n0 + n0) ≤ 600 by omega) dL_edited_25 ?_
  refine lv_istore (lv' := [(9, .int (if x4 < x3 then x4 else x3)), (0, .ref (b0)), (1, .ref (b1)), (2, .int x2), (3, .int x3), (4, .int x4), (5, .int x5), (6, .int x6), (7, .ref (b7)), (8, .ref (b8))]) hx hb dL_edited_28 hl (by decide) rfl (fun ls hl => ?_)
  refine lv_iload_n hx hb dL_edited_30 rfl (lv_at hl 4 rfl) ?_
  refine lv_iload hx hb dL_edited_31 (lv_at hl 5 rfl) ?_
  refine va_mmax hx hb (by rw [hml, hl.1]) hown (hts (.methodLink RL 148 Lib.Math.max.name) (by decide +kernel)) (hts (.static Lib.Math.max.name) (by decide +kernel)) (hts (.initialized "java/lang/Math") (by decide +kernel)) (hts (.code Lib.Math.max.name Lib.Math.max.code 2 (some .int)) (by decide +kernel)) (Nat.le_of_ble_eq_true rfl) (Nat.le_of_ble_eq_true rfl) (show 2 ≤ 5 by omega) (show (n0 + n0) ≤ 600 by omega) dL_edited_33 ?_
  refine lv_istore (lv' := [(10, .int (if x3 < x4 then x4 else x3)), (9, .int (if x4 < x3 then x4 else x3)), (0, .ref (b0)), (1, .ref (b1)), (2, .int x2), (3, .int x3), (4, .int x4), (5, .int x5), (6, .int x6), (7, .ref (b7)), (8, .ref (b8))]) hx hb dL_edited_36 hl (by decide) rfl (fun ls hl => ?_)
  refine lv_iload_n hx hb dL_edited_38 rfl (lv_at hl 4 rfl) ?_
  by_cases c2 : x2 = 0
  · have h := e_t c2 h
    refine lv_tableIn (off := 49) (tgt := 88) hx hb dL_edited_39 (by rw [c2]; decide) (by rw [c2]; decide) (by rw [c2]; rfl) (by decide) ?_
    refine lv_aload hx hb dL_edited_88 (lv_at hl 9 rfl) ?_
    refine lv_iload_n hx hb dL_edited_90 rfl (lv_at hl 5 rfl) ?_
    refine lv_iload hx hb dL_edited_91 (lv_at hl 7 rfl) ?_
    obtain ⟨a1, ea1, na1, h⟩ := e_wr h
    refine xa_iast hx hb hK hP hD hS 2 rfl na1 ea1 dL_edited_93 (fun H locs hP hD hS => ?_)
    have hP : va_P D vwCl (wL_edited cA b0 b1 b7 b8 n0 f0 f1 a1 f8) H := hP
    have hD : va_D A (wL_edited cA b0 b1 b7 b8 n0 f0 f1 a1 f8) := hD
    refine lv_goto (tgt := 669) hx hb dL_edited_94 (by decide) ?_
    refine lv_iconst (v := 2) hx hb dL_edited_669 (by decide) ?_
    refine xa_newA hx hb hown (hts (.classLink RL 138 "[I") (by decide +kernel)) hO hK hP hD hS hA (Nat.le_of_ble_eq_true rfl) (show (n0 + n0) + 2 ≤ 600 by omega) dL_edited_670 (fun q670 H hP hD hS => ?_)
    have hP : va_P D vwCl (wL_edited cA b0 b1 b7 b8 n0 f0 f1 a1 f8 ++ [(q670, .inl (cA 5, 2, .inr (.inr (.inr (.inr (fun _ => none))))))]) H := hP
    have hD : va_D A (wL_edited cA b0 b1 b7 b8 n0 f0 f1 a1 f8 ++ [(q670, .inl (cA 5, 2, .inr (.inr (.inr (.inr (fun _ => none))))))]) := hD
    refine lv_dup hx hb dL_edited_673 rfl ?_
    refine lv_iconst (v := 0) hx hb dL_edited_674 (by decide) ?_
    refine lv_aload hx hb dL_edited_675 (lv_at hl 9 rfl) ?_
    refine xa_astA hx hb hO hK hP hD hS 4 2 rfl rfl (i := 0) (show ¬ _ by decide) dL_edited_677 (fun H locs hP hD hS => ?_)
    have hP : va_P D vwCl (wL_edited cA b0 b1 b7 b8 n0 f0 f1 a1 f8 ++ [(q670, .inl (cA 5, 2, .inr (.inr (.inr (.inr (va_up (fun _ => none) 0 (some b7)))))))]) H := hP
    have hD : va_D A (wL_edited cA b0 b1 b7 b8 n0 f0 f1 a1 f8 ++ [(q670, .inl (cA 5, 2, .inr (.inr (.inr (.inr (va_up (fun _ => none) 0 (some b7)))))))]) := hD
    refine lv_dup hx hb dL_edited_678 rfl ?_
    refine lv_iconst (v := 1) hx hb dL_edited_679 (by decide) ?_
    refine lv_aload hx hb dL_edited_680 (lv_at hl 10 rfl) ?_
    refine xa_astA hx hb hO hK hP hD hS 4 3 rfl rfl (i := 1) (show ¬ _ by decide) dL_edited_682 (fun H locs hP hD hS => ?_)
    have hP : va_P D vwCl (wL_edited cA b0 b1 b7 b8 n0 f0 f1 a1 f8 ++ [(q670, .inl (cA 5, 2, .inr (.inr (.inr (.inr (va_up (va_up (fun _ => none) 0 (some b7)) 1 (some b8)))))))]) H := hP
    have hD : va_D A (wL_edited cA b0 b1 b7 b8 n0 f0 f1 a1 f8 ++ [(q670, .inl (cA 5, 2, .inr (.inr (.inr (.inr (va_up (va_up (fun _ => none) 0 (some b7)) 1 (some b8)))))))]) := hD
    obtain rfl := e_s h
    have hP := w_rowsA (q0 := 4) hP rfl (g := fun k => some (adL [q670, b7, b8] (1 + k))) (by intro j hj; rcases (show j = 0 ∨ j = 1 by omega) with rfl | rfl <;> rfl)
    have hD := va_D_fst (A := A) (W := (wL_edited cA b0 b1 b7 b8 n0 f0 f1 a1 f8 ++ [(q670, .inl (cA 5, 2, .inr (.inr (.inr (.inr (va_up (va_up (fun _ => none) 0 (some b7)) 1 (some b8)))))))])) (W' := ((wL_edited cA b0 b1 b7 b8 n0 f0 f1 a1 f8 ++ [(q670, .inl (cA 5, 2, .inr (.inr (.inr (.inr (va_up (va_up (fun _ => none) 0 (some b7)) 1 (some b8)))))))]) : va_W).set 4 (q670, .inl (cA 5, 2, .inr (.inr (.inr (.inr (fun k => some (adL [q670, b7, b8] (1 + k))))))))) rfl hD
    refine W.widen (k := 5) (n := 600) (by omega) (by omega) ?_
    exact hret q670 b7 b8 (hP.sub [0, 1, 4, 2, 3] rfl) (hD.sub [0, 1, 4, 2, 3] (by decide +kernel) rfl) hS dL_edited_683
  have h := e_f c2 h
  by_cases c5 : x2 = 1
  · have h := e_t c5 h
    refine lv_tableIn (off := 58) (tgt := 97) hx hb dL_edited_39 (by rw [c5]; decide) (by rw [c5]; decide) (by rw [c5]; rfl) (by decide) ?_
    refine lv_aload hx hb dL_edited_97 (lv_at hl 10 rfl) ?_
    refine lv_iload_n hx hb dL_edited_99 rfl (lv_at hl 5 rfl) ?_
    refine lv_iconst (v := 1) hx hb dL_edited_100 (by decide) ?_
    refine lv_iload hx hb dL_edited_101 (lv_at hl 7 rfl) ?_
    refine lv_bipush (v := 9) hx hb dL_edited_103 (by decide) ?_
    obtain ⟨v3, ev3, nv3, h⟩ := e_rm h
    refine xa_irem hx hb dL_edited_105 nv3 ev3 ?_
    refine lv_iadd hx hb dL_edited_106 ?_
    obtain ⟨a4, ea4, na4, h⟩ := e_wr h
    refine xa_iast hx hb hK hP hD hS 3 rfl na4 ea4 dL_edited_107 (fun H locs hP hD hS => ?_)
    have hP : va_P D vwCl (wL_edited cA b0 b1 b7 b8 n0 f0 f1 f7 a4) H := hP
    have hD : va_D A (wL_edited cA b0 b1 b7 b8 n0 f0 f1 f7 a4) := hD
    refine lv_goto (tgt := 669) hx hb dL_edited_108 (by decide) ?_
    refine lv_iconst (v := 2) hx hb dL_edited_669 (by decide) ?_
    refine xa_newA hx hb hown (hts (.classLink RL 138 "[I") (by decide +kernel)) hO hK hP hD hS hA (Nat.le_of_ble_eq_true rfl) (show (n0 + n0) + 2 ≤ 600 by omega) dL_edited_670 (fun q670 H hP hD hS => ?_)
    have hP : va_P D vwCl (wL_edited cA b0 b1 b7 b8 n0 f0 f1 f7 a4 ++ [(q670, .inl (cA 5, 2, .inr (.inr (.inr (.inr (fun _ => none))))))]) H := hP
    have hD : va_D A (wL_edited cA b0 b1 b7 b8 n0 f0 f1 f7 a4 ++ [(q670, .inl (cA 5, 2, .inr (.inr (.inr (.inr (fun _ => none))))))]) := hD
    refine lv_dup hx hb dL_edited_673 rfl ?_
    refine lv_iconst (v := 0) hx hb dL_edited_674 (by decide) ?_
    refine lv_aload hx hb dL_edited_675 (lv_at hl 9 rfl) ?_
    refine xa_astA hx hb hO hK hP hD hS 4 2 rfl rfl (i := 0) (show ¬ _ by decide) dL_edited_677 (fun H locs hP hD hS => ?_)
    have hP : va_P D vwCl (wL_edited cA b0 b1 b7 b8 n0 f0 f1 f7 a4 ++ [(q670, .inl (cA 5, 2, .inr (.inr (.inr (.inr (va_up (fun _ => none) 0 (some b7)))))))]) H := hP
    have hD : va_D A (wL_edited cA b0 b1 b7 b8 n0 f0 f1 f7 a4 ++ [(q670, .inl (cA 5, 2, .inr (.inr (.inr (.inr (va_up (fun _ => none) 0 (some b7)))))))]) := hD
    refine lv_dup hx hb dL_edited_678 rfl ?_
    refine lv_iconst (v := 1) hx hb dL_edited_679 (by decide) ?_
    refine lv_aload hx hb dL_edited_680 (lv_at hl 10 rfl) ?_
    refine xa_astA hx hb hO hK hP hD hS 4 3 rfl rfl (i := 1) (show ¬ _ by decide) dL_edited_682 (fun H locs hP hD hS => ?_)
    have hP : va_P D vwCl (wL_edited cA b0 b1 b7 b8 n0 f0 f1 f7 a4 ++ [(q670, .inl (cA 5, 2, .inr (.inr (.inr (.inr (va_up (va_up (fun _ => none) 0 (some b7)) 1 (some b8)))))))]) H := hP
    have hD : va_D A (wL_edited cA b0 b1 b7 b8 n0 f0 f1 f7 a4 ++ [(q670, .inl (cA 5, 2, .inr (.inr (.inr (.inr (va_up (va_up (fun _ => none) 0 (some b7)) 1 (some b8)))))))]) := hD
    obtain rfl := e_s h
    have hP := w_rowsA (q0 := 4) hP rfl (g := fun k => some (adL [q670, b7, b8] (1 + k))) (by intro j hj; rcases (show j = 0 ∨ j = 1 by omega) with rfl | rfl <;> rfl)
    have hD := va_D_fst (A := A) (W := (wL_edited cA b0 b1 b7 b8 n0 f0 f1 f7 a4 ++ [(q670, .inl (cA 5, 2, .inr (.inr (.inr (.inr (va_up (va_up (fun _ => none) 0 (some b7)) 1 (some b8)))))))])) (W' := ((wL_edited cA b0 b1 b7 b8 n0 f0 f1 f7 a4 ++ [(q670, .inl (cA 5, 2, .inr (.inr (.inr (.inr (va_up (va_up (fun _ => none) 0 (some b7)) 1 (some b8)))))))]) : va_W).set 4 (q670, .inl (cA 5, 2, .inr (.inr (.inr (.inr (fun k => some (adL [q670, b7, b8] (1 + k))))))))) rfl hD
    refine W.widen (k := 5) (n := 600) (by omega) (by omega) ?_
    exact hret q670 b7 b8 (hP.sub [0, 1, 4, 2, 3] rfl) (hD.sub [0, 1, 4, 2, 3] (by decide +kernel) rfl) hS dL_edited_683
  have h := e_f c5 h
  by_cases c23 : x2 = 2
  · have h := e_t c23 h
    refine lv_tableIn (off := 72) (tgt := 111) hx hb dL_edited_39 (by rw [c23]; decide) (by rw [c23]; decide) (by rw [c23]; rfl) (by decide) ?_
    refine lv_iload hx hb dL_edited_111 (lv_at hl 8 rfl) ?_
    refine lv_iconst (v := 1) hx hb dL_edited_113 (by decide) ?_
    refine lv_iadd hx hb dL_edited_114 ?_
    obtain ⟨hz115, h⟩ := e_nw h
    refine xa_newi (N' := (x6 + 1).toNatClampNeg) hx hb (hts (.arrayClass .int) (by decide +kernel)) hK hP hD hS hA hz115.1 rfl (by omega) (Nat.le_of_ble_eq_true rfl) (show (n0 + n0) + (x6 + 1).toNatClampNeg ≤ 600 by omega) dL_edited_115 (fun q115 H hP hD hS => ?_)
    have hP : va_P D vwCl (wL_edited cA b0 b1 b7 b8 n0 f0 f1 f7 f8 ++ [(q115, .inl (cA 0, (x6 + 1).toNatClampNeg, .inl (fun _ => 0)))]) H := hP
    have hD : va_D A (wL_edited cA b0 b1 b7 b8 n0 f0 f1 f7 f8 ++ [(q115, .inl (cA 0, (x6 + 1).toNatClampNeg, .inl (fun _ => 0)))]) := hD
    refine lv_astore (lv' := [(7, .ref (q115)), (10, .int (if x3 < x4 then x4 else x3)), (9, .int (if x4 < x3 then x4 else x3)), (0, .ref (b0)), (1, .ref (b1)), (2, .int x2), (3, .int x3), (4, .int x4), (5, .int x5), (6, .int x6), (8, .ref (b8))]) hx hb dL_edited_117 hl (by decide) rfl (fun ls hl => ?_)
    refine lv_iload hx hb dL_edited_119 (lv_at hl 9 rfl) ?_
    refine lv_iconst (v := 1) hx hb dL_edited_121 (by decide) ?_
    refine lv_iadd hx hb dL_edited_122 ?_
    obtain ⟨hz123, h⟩ := e_nw h
    refine xa_newi (N' := (x6 + 1).toNatClampNeg) hx hb (hts (.arrayClass .int) (by decide +kernel)) hK hP hD hS hA hz123.1 rfl (by omega) (Nat.le_of_ble_eq_true rfl) (show ((n0 + n0) + (x6 + 1).toNatClampNeg) + (x6 + 1).toNatClampNeg ≤ 600 by omega) dL_edited_123 (fun q123 H hP hD hS => ?_)
    have hP : va_P D vwCl (wL_edited cA b0 b1 b7 b8 n0 f0 f1 f7 f8 ++ [(q115, .inl (cA 0, (x6 + 1).toNatClampNeg, .inl (fun _ => 0))), (q123, .inl (cA 0, (x6 + 1).toNatClampNeg, .inl (fun _ => 0)))]) H := hP
    have hD : va_D A (wL_edited cA b0 b1 b7 b8 n0 f0 f1 f7 f8 ++ [(q115, .inl (cA 0, (x6 + 1).toNatClampNeg, .inl (fun _ => 0))), (q123, .inl (cA 0, (x6 + 1).toNatClampNeg, .inl (fun _ => 0)))]) := hD
    refine lv_astore (lv' := [(8, .ref (q123)), (7, .ref (q115)), (10, .int (if x3 < x4 then x4 else x3)), (9, .int (if x4 < x3 then x4 else x3)), (0, .ref (b0)), (1, .ref (b1)), (2, .int x2), (3, .int x3), (4, .int x4), (5, .int x5), (6, .int x6)]) hx hb dL_edited_125 hl (by decide) rfl (fun ls hl => ?_)
    refine lv_iconst (v := 0) hx hb dL_edited_127 (by decide) ?_
    refine lv_istore (lv' := [(11, .int 0), (8, .ref (q123)), (7, .ref (q115)), (10, .int (if x3 < x4 then x4 else x3)), (9, .int (if x4 < x3 then x4 else x3)), (0, .ref (b0)), (1, .ref (b1)), (2, .int x2), (3, .int x3), (4, .int x4), (5, .int x5), (6, .int x6)]) hx hb dL_edited_128 hl (by decide) rfl (fun ls hl => ?_)
    have hL130 : ∀ (n : Nat) (x3 : Int32) (x5 : Int32) (x6 : Int32) (x11 : Int32) (f0 : Nat → Int32) (f1 : Nat → Int32) (f7 : Nat → Int32) (f8 : Nat → Int32) (w_115 : Nat → Int32) (w_123 : Nat → Int32) (w_219 : Nat → Int32) (w_227 : Nat → Int32) (z6 : (Nat → Int32) × (Nat → Int32)) (ls : Array Slot) (H : Heap) (locs : List Loc), lv_has ls 14 [(0, .ref (b0)), (1, .ref (b1)), (3, .int x3), (5, .int x5), (6, .int x6), (7, .ref (q115)), (8, .ref (q123)), (11, .int x11)] → va_P D vwCl (wL_edited cA b0 b1 b7 b8 n0 f0 f1 f7 f8 ++ [(q115, .inl (cA 0, (x6 + 1).toNatClampNeg, .inl w_115)), (q123, .inl (cA 0, (x6 + 1).toNatClampNeg, .inl w_123))]) H → va_D A (wL_edited cA b0 b1 b7 b8 n0 f0 f1 f7 f8 ++ [(q115, .inl (cA 0, (x6 + 1).toNatClampNeg, .inl w_115)), (q123, .inl (cA 0, (x6 + 1).toNatClampNeg, .inl w_123))]) → va_S A s.heap H locs → mL_edited_L130 n0 f0 f1 x3 x5 x6 n x11 w_115 w_123 = some z6 → (∀ (ls : Array Slot) (H : Heap) (locs : List Loc), lv_has ls 14 [(7, .ref (q115)), (8, .ref (q123))] → va_P D vwCl (wL_edited cA b0 b1 b7 b8 n0 f0 f1 f7 f8 ++ [(q115, .inl (cA 0, (x6 + 1).toNatClampNeg, .inl z6.1)), (q123, .inl (cA 0, (x6 + 1).toNatClampNeg, .inl z6.2))]) H → va_D A (wL_edited cA b0 b1 b7 b8 n0 f0 f1 f7 f8 ++ [(q115, .inl (cA 0, (x6 + 1).toNatClampNeg, .inl z6.1)), (q123, .inl (cA 0, (x6 + 1).toNatClampNeg, .inl z6.2))]) → va_S A s.heap H locs → W p l e (headSpec wsL_edited { frames := 1, cells := 5, slots := 600, locals := 24 }).room s m args below meth c H locs ((2 + 1) + 1) (((n0 + n0) + (x6 + 1).toNatClampNeg) + (x6 + 1).toNatClampNeg) Q (F0 m 212 ls [])) → W p l e (headSpec wsL_edited { frames := 1, cells := 5, slots := 600, locals := 24 }).room s m args below meth c H locs ((2 + 1) + 1) (((n0 + n0) + (x6 + 1).toNatClampNeg) + (x6 + 1).toNatClampNeg) Q (F0 m 130 ls []) := by
      intro n
      induction n with
      | zero => intro x3 x5 x6 x11 f0 f1 f7 f8 w_115 w_123 w_219 w_227 z6 ls H locs hl hP hD hS h hk130; exact e_n h
      | succ n ih130 =>
        intro x3 x5 x6 x11 f0 f1 f7 f8 w_115 w_123 w_219 w_227 z6 ls H locs hl hP hD hS h hk130
        rw [mL_edited_L130.eq_2] at h
        refine lv_iload hx hb dL_edited_130 (lv_at hl 7 rfl) ?_
        refine lv_iload hx hb dL_edited_132 (lv_at hl 4 rfl) ?_
        refine lv_icmp_gt (tgt := 212) hx hb dL_edited_134 (by decide) (fun c7 => ?_) (fun c7 => ?_)
        · have h := e_t c7 h
          obtain rfl := e_s h
          exact hk130 _ _ _ (lv_sub hl [5, 6] rfl) hP hD hS
        · have h := e_f c7 h
          refine lv_aload hx hb dL_edited_137 (lv_at hl 5 rfl) ?_
          refine lv_iload hx hb dL_edited_139 (lv_at hl 7 rfl) ?_
          refine lv_iload hx hb dL_edited_141 (lv_at hl 7 rfl) ?_
          refine lv_iload_n hx hb dL_edited_143 rfl (lv_at hl 2 rfl) ?_
          obtain ⟨z8, ez8, h⟩ := e_b h
          have hJ9 : ∀ (ls : Array Slot) (H : Heap) (locs : List Loc), lv_has ls 14 [(0, .ref (b0)), (1, .ref (b1)), (3, .int x3), (5, .int x5), (6, .int x6), (7, .ref (q115)), (8, .ref (q123)), (11, .int x11)] → va_P D vwCl (wL_edited cA b0 b1 b7 b8 n0 f0 f1 f7 f8 ++ [(q115, .inl (cA 0, (x6 + 1).toNatClampNeg, .inl w_115)), (q123, .inl (cA 0, (x6 + 1).toNatClampNeg, .inl w_123))]) H → va_D A (wL_edited cA b0 b1 b7 b8 n0 f0 f1 f7 f8 ++ [(q115, .inl (cA 0, (x6 + 1).toNatClampNeg, .inl w_115)), (q123, .inl (cA 0, (x6 + 1).toNatClampNeg, .inl w_123))]) → va_S A s.heap H locs → W p l e (headSpec wsL_edited { frames := 1, cells := 5, slots := 600, locals := 24 }).room s m args below meth c H locs ((2 + 1) + 1) (((n0 + n0) + (x6 + 1).toNatClampNeg) + (x6 + 1).toNatClampNeg) Q (F0 m 171 ls [.int z8, .int x11, .ref (q115)]) := by
            intro ls H locs hl hP hD hS
            obtain ⟨a10, ea10, na10, h⟩ := e_wr h
            refine xa_iast hx hb hK hP hD hS 4 rfl na10 ea10 dL_edited_171 (fun H locs hP hD hS => ?_)
            have hP : va_P D vwCl (wL_edited cA b0 b1 b7 b8 n0 f0 f1 f7 f8 ++ [(q115, .inl (cA 0, (x6 + 1).toNatClampNeg, .inl a10)), (q123, .inl (cA 0, (x6 + 1).toNatClampNeg, .inl w_123))]) H := hP
            have hD : va_D A (wL_edited cA b0 b1 b7 b8 n0 f0 f1 f7 f8 ++ [(q115, .inl (cA 0, (x6 + 1).toNatClampNeg, .inl a10)), (q123, .inl (cA 0, (x6 + 1).toNatClampNeg, .inl w_123))]) := hD
            refine lv_aload hx hb dL_edited_172 (lv_at hl 6 rfl) ?_
            refine lv_iload hx hb dL_edited_174 (lv_at hl 7 rfl) ?_
            refine lv_iload hx hb dL_edited_176 (lv_at hl 7 rfl) ?_
            refine lv_iload_n hx hb dL_edited_178 rfl (lv_at hl 2 rfl) ?_
            refine lv_icmp_ge (tgt := 189) hx hb dL_edited_179 (by decide) (fun c11 => ?_) (fun c11 => ?_)
            · have h := e_t c11 h
              refine lv_iload hx hb dL_edited_189 (lv_at hl 7 rfl) ?_
              refine lv_iload_n hx hb dL_edited_191 rfl (lv_at hl 2 rfl) ?_
              refine lv_icmp_ne (tgt := 199) hx hb dL_edited_192 (by decide) (fun c12 => ?_) (fun c12 => ?_)
              · have h := e_t c12 h
                refine lv_aload_n hx hb dL_edited_199 rfl (lv_at hl 1 rfl) ?_
                refine lv_iload hx hb dL_edited_200 (lv_at hl 7 rfl) ?_
                refine lv_iconst (v := 1) hx hb dL_edited_202 (by decide) ?_
                refine lv_isub hx hb dL_edited_203 ?_
                obtain ⟨v13, ev13, nv13, h⟩ := e_rd h
                refine xa_iald hx hb hK hP 1 rfl nv13 ev13 dL_edited_204 ?_
                obtain ⟨a14, ea14, na14, h⟩ := e_wr h
                refine xa_iast hx hb hK hP hD hS 5 rfl na14 ea14 dL_edited_205 (fun H locs hP hD hS => ?_)
                have hP : va_P D vwCl (wL_edited cA b0 b1 b7 b8 n0 f0 f1 f7 f8 ++ [(q115, .inl (cA 0, (x6 + 1).toNatClampNeg, .inl a10)), (q123, .inl (cA 0, (x6 + 1).toNatClampNeg, .inl a14))]) H := hP
                have hD : va_D A (wL_edited cA b0 b1 b7 b8 n0 f0 f1 f7 f8 ++ [(q115, .inl (cA 0, (x6 + 1).toNatClampNeg, .inl a10)), (q123, .inl (cA 0, (x6 + 1).toNatClampNeg, .inl a14))]) := hD
                refine lv_iinc (v := (x11 + 1)) (lv' := [(11, .int (x11 + 1)), (0, .ref (b0)), (1, .ref (b1)), (3, .int x3), (5, .int x5), (6, .int x6), (7, .ref (q115)), (8, .ref (q123))]) hx hb dL_edited_206 hl (k := 7) rfl rfl (by decide) rfl (fun ls hl => ?_)
                refine lv_goto (tgt := 130) hx hb dL_edited_209 (by decide) ?_
                exact ih130 x3 x5 x6 (x11 + 1) f0 f1 f7 f8 a10 a14 w_219 w_227 z6 _ _ _ (lv_sub hl [1, 2, 3, 4, 5, 6, 7, 0] rfl) hP hD hS h hk130
              · have h := e_f (not_not_intro c12) h
                refine lv_iconst (v := 1) hx hb dL_edited_195 (by decide) ?_
                refine lv_goto (tgt := 205) hx hb dL_edited_196 (by decide) ?_
                obtain ⟨a15, ea15, na15, h⟩ := e_wr h
                refine xa_iast hx hb hK hP hD hS 5 rfl na15 ea15 dL_edited_205 (fun H locs hP hD hS => ?_)
                have hP : va_P D vwCl (wL_edited cA b0 b1 b7 b8 n0 f0 f1 f7 f8 ++ [(q115, .inl (cA 0, (x6 + 1).toNatClampNeg, .inl a10)), (q123, .inl (cA 0, (x6 + 1).toNatClampNeg, .inl a15))]) H := hP
                have hD : va_D A (wL_edited cA b0 b1 b7 b8 n0 f0 f1 f7 f8 ++ [(q115, .inl (cA 0, (x6 + 1).toNatClampNeg, .inl a10)), (q123, .inl (cA 0, (x6 + 1).toNatClampNeg, .inl a15))]) := hD
                refine lv_iinc (v := (x11 + 1)) (lv' := [(11, .int (x11 + 1)), (0, .ref (b0)), (1, .ref (b1)), (3, .int x3), (5, .int x5), (6, .int x6), (7, .ref (q115)), (8, .ref (q123))]) hx hb dL_edited_206 hl (k := 7) rfl rfl (by decide) rfl (fun ls hl => ?_)
                refine lv_goto (tgt := 130) hx hb dL_edited_209 (by decide) ?_
                exact ih130 x3 x5 x6 (x11 + 1) f0 f1 f7 f8 a10 a15 w_219 w_227 z6 _ _ _ (lv_sub hl [1, 2, 3, 4, 5, 6, 7, 0] rfl) hP hD hS h hk130
            · have h := e_f c11 h
              refine lv_aload_n hx hb dL_edited_182 rfl (lv_at hl 1 rfl) ?_
              refine lv_iload hx hb dL_edited_183 (lv_at hl 7 rfl) ?_
              obtain ⟨v16, ev16, nv16, h⟩ := e_rd h
              refine xa_iald hx hb hK hP 1 rfl nv16 ev16 dL_edited_185 ?_
              refine lv_goto (tgt := 205) hx hb dL_edited_186 (by decide) ?_
              obtain ⟨a17, ea17, na17, h⟩ := e_wr h
              refine xa_iast hx hb hK hP hD hS 5 rfl na17 ea17 dL_edited_205 (fun H locs hP hD hS => ?_)
              have hP : va_P D vwCl (wL_edited cA b0 b1 b7 b8 n0 f0 f1 f7 f8 ++ [(q115, .inl (cA 0, (x6 + 1).toNatClampNeg, .inl a10)), (q123, .inl (cA 0, (x6 + 1).toNatClampNeg, .inl a17))]) H := hP
              have hD : va_D A (wL_edited cA b0 b1 b7 b8 n0 f0 f1 f7 f8 ++ [(q115, .inl (cA 0, (x6 + 1).toNatClampNeg, .inl a10)), (q123, .inl (cA 0, (x6 + 1).toNatClampNeg, .inl a17))]) := hD
              refine lv_iinc (v := (x11 + 1)) (lv' := [(11, .int (x11 + 1)), (0, .ref (b0)), (1, .ref (b1)), (3, .int x3), (5, .int x5), (6, .int x6), (7, .ref (q115)), (8, .ref (q123))]) hx hb dL_edited_206 hl (k := 7) rfl rfl (by decide) rfl (fun ls hl => ?_)
              refine lv_goto (tgt := 130) hx hb dL_edited_209 (by decide) ?_
              exact ih130 x3 x5 x6 (x11 + 1) f0 f1 f7 f8 a10 a17 w_219 w_227 z6 _ _ _ (lv_sub hl [1, 2, 3, 4, 5, 6, 7, 0] rfl) hP hD hS h hk130
          have h := ez8
          refine lv_icmp_ge (tgt := 154) hx hb dL_edited_144 (by decide) (fun c18 => ?_) (fun c18 => ?_)
          · have h := e_t c18 h
            refine lv_iload hx hb dL_edited_154 (lv_at hl 7 rfl) ?_
            refine lv_iload_n hx hb dL_edited_156 rfl (lv_at hl 2 rfl) ?_
            refine lv_icmp_ne (tgt := 165) hx hb dL_edited_157 (by decide) (fun c19 => ?_) (fun c19 => ?_)
            · have h := e_t c19 h
              refine lv_aload_n hx hb dL_edited_165 rfl (lv_at hl 0 rfl) ?_
              refine lv_iload hx hb dL_edited_166 (lv_at hl 7 rfl) ?_
              refine lv_iconst (v := 1) hx hb dL_edited_168 (by decide) ?_
              refine lv_isub hx hb dL_edited_169 ?_
              obtain ⟨v20, ev20, nv20, h⟩ := e_rd h
              refine xa_iald hx hb hK hP 0 rfl nv20 ev20 dL_edited_170 ?_
              obtain rfl := e_s h
              exact hJ9 _ _ _ (lv_sub hl [0, 1, 2, 3, 4, 5, 6, 7] rfl) hP hD hS
            · have h := e_f (not_not_intro c19) h
              refine lv_iload hx hb dL_edited_160 (lv_at hl 3 rfl) ?_
              refine lv_goto (tgt := 171) hx hb dL_edited_162 (by decide) ?_
              obtain rfl := e_s h
              exact hJ9 _ _ _ (lv_sub hl [0, 1, 2, 3, 4, 5, 6, 7] rfl) hP hD hS
          · have h := e_f c18 h
            refine lv_aload_n hx hb dL_edited_147 rfl (lv_at hl 0 rfl) ?_
            refine lv_iload hx hb dL_edited_148 (lv_at hl 7 rfl) ?_
            obtain ⟨v21, ev21, nv21, h⟩ := e_rd h
            refine xa_iald hx hb hK hP 0 rfl nv21 ev21 dL_edited_150 ?_
            refine lv_goto (tgt := 171) hx hb dL_edited_151 (by decide) ?_
            obtain rfl := e_s h
            exact hJ9 _ _ _ (lv_sub hl [0, 1, 2, 3, 4, 5, 6, 7] rfl) hP hD hS
    obtain ⟨z22, ez22, h⟩ := e_b h
    refine hL130 FU x3 x5 x6 0 f0 f1 f7 f8 (fun _ => 0) (fun _ => 0) (fun _ => 0) (fun _ => 0) z22 _ _ _ (lv_sub hl [5, 6, 8, 10, 11, 2, 1, 0] rfl) hP hD hS ez22 (fun ls H locs hl hP hD hS => ?_)
    refine lv_goto (tgt := 669) hx hb dL_edited_212 (by decide) ?_
    refine lv_iconst (v := 2) hx hb dL_edited_669 (by decide) ?_
    refine xa_newA hx hb hown (hts (.classLink RL 138 "[I") (by decide +kernel)) hO hK hP hD hS hA (Nat.le_of_ble_eq_true rfl) (show (((n0 + n0) + (x6 + 1).toNatClampNeg) + (x6 + 1).toNatClampNeg) + 2 ≤ 600 by omega) dL_edited_670 (fun q670 H hP hD hS => ?_)
    have hP : va_P D vwCl (wL_edited cA b0 b1 b7 b8 n0 f0 f1 f7 f8 ++ [(q115, .inl (cA 0, (x6 + 1).toNatClampNeg, .inl z22.1)), (q123, .inl (cA 0, (x6 + 1).toNatClampNeg, .inl z22.2)), (q670, .inl (cA 5, 2, .inr (.inr (.inr (.inr (fun _ => none))))))]) H := hP
    have hD : va_D A (wL_edited cA b0 b1 b7 b8 n0 f0 f1 f7 f8 ++ [(q115, .inl (cA 0, (x6 + 1).toNatClampNeg, .inl z22.1)), (q123, .inl (cA 0, (x6 + 1).toNatClampNeg, .inl z22.2)), (q670, .inl (cA 5, 2, .inr (.inr (.inr (.inr (fun _ => none))))))]) := hD
    refine lv_dup hx hb dL_edited_673 rfl ?_
    refine lv_iconst (v := 0) hx hb dL_edited_674 (by decide) ?_
    refine lv_aload hx hb dL_edited_675 (lv_at hl 0 rfl) ?_
    refine xa_astA hx hb hO hK hP hD hS 6 4 rfl rfl (i := 0) (show ¬ _ by decide) dL_edited_677 (fun H locs hP hD hS => ?_)
    have hP : va_P D vwCl (wL_edited cA b0 b1 b7 b8 n0 f0 f1 f7 f8 ++ [(q115, .inl (cA 0, (x6 + 1).toNatClampNeg, .inl z22.1)), (q123, .inl (cA 0, (x6 + 1).toNatClampNeg, .inl z22.2)), (q670, .inl (cA 5, 2, .inr (.inr (.inr (.inr (va_up (fun _ => none) 0 (some q115)))))))]) H := hP
    have hD : va_D A (wL_edited cA b0 b1 b7 b8 n0 f0 f1 f7 f8 ++ [(q115, .inl (cA 0, (x6 + 1).toNatClampNeg, .inl z22.1)), (q123, .inl (cA 0, (x6 + 1).toNatClampNeg, .inl z22.2)), (q670, .inl (cA 5, 2, .inr (.inr (.inr (.inr (va_up (fun _ => none) 0 (some q115)))))))]) := hD
    refine lv_dup hx hb dL_edited_678 rfl ?_
    refine lv_iconst (v := 1) hx hb dL_edited_679 (by decide) ?_
    refine lv_aload hx hb dL_edited_680 (lv_at hl 1 rfl) ?_
    refine xa_astA hx hb hO hK hP hD hS 6 5 rfl rfl (i := 1) (show ¬ _ by decide) dL_edited_682 (fun H locs hP hD hS => ?_)
    have hP : va_P D vwCl (wL_edited cA b0 b1 b7 b8 n0 f0 f1 f7 f8 ++ [(q115, .inl (cA 0, (x6 + 1).toNatClampNeg, .inl z22.1)), (q123, .inl (cA 0, (x6 + 1).toNatClampNeg, .inl z22.2)), (q670, .inl (cA 5, 2, .inr (.inr (.inr (.inr (va_up (va_up (fun _ => none) 0 (some q115)) 1 (some q123)))))))]) H := hP
    have hD : va_D A (wL_edited cA b0 b1 b7 b8 n0 f0 f1 f7 f8 ++ [(q115, .inl (cA 0, (x6 + 1).toNatClampNeg, .inl z22.1)), (q123, .inl (cA 0, (x6 + 1).toNatClampNeg, .inl z22.2)), (q670, .inl (cA 5, 2, .inr (.inr (.inr (.inr (va_up (va_up (fun _ => none) 0 (some q115)) 1 (some q123)))))))]) := hD
    obtain rfl := e_s h
    have hP := w_rowsA (q0 := 6) hP rfl (g := fun k => some (adL [q670, q115, q123] (1 + k))) (by intro j hj; rcases (show j = 0 ∨ j = 1 by omega) with rfl | rfl <;> rfl)
    have hD := va_D_fst (A := A) (W := (wL_edited cA b0 b1 b7 b8 n0 f0 f1 f7 f8 ++ [(q115, .inl (cA 0, (x6 + 1).toNatClampNeg, .inl z22.1)), (q123, .inl (cA 0, (x6 + 1).toNatClampNeg, .inl z22.2)), (q670, .inl (cA 5, 2, .inr (.inr (.inr (.inr (va_up (va_up (fun _ => none) 0 (some q115)) 1 (some q123)))))))])) (W' := ((wL_edited cA b0 b1 b7 b8 n0 f0 f1 f7 f8 ++ [(q115, .inl (cA 0, (x6 + 1).toNatClampNeg, .inl z22.1)), (q123, .inl (cA 0, (x6 + 1).toNatClampNeg, .inl z22.2)), (q670, .inl (cA 5, 2, .inr (.inr (.inr (.inr (va_up (va_up (fun _ => none) 0 (some q115)) 1 (some q123)))))))]) : va_W).set 6 (q670, .inl (cA 5, 2, .inr (.inr (.inr (.inr (fun k => some (adL [q670, q115, q123] (1 + k))))))))) rfl hD
    refine W.widen (k := 5) (n := 600) (by omega) (by omega) ?_
    exact hret q670 q115 q123 (hP.sub [0, 1, 6, 4, 5] rfl) (hD.sub [0, 1, 6, 4, 5] (by decide +kernel) rfl) hS dL_edited_683
  have h := e_f c23 h
  by_cases c37 : x2 = 3
  · have h := e_t c37 h
    refine lv_tableIn (off := 176) (tgt := 215) hx hb dL_edited_39 (by rw [c37]; decide) (by rw [c37]; decide) (by rw [c37]; rfl) (by decide) ?_
    refine lv_iload hx hb dL_edited_215 (lv_at hl 8 rfl) ?_
    refine lv_iconst (v := 1) hx hb dL_edited_217 (by decide) ?_
    refine lv_isub hx hb dL_edited_218 ?_
    obtain ⟨hz219, h⟩ := e_nw h
    refine xa_newi (N' := (x6 - 1).toNatClampNeg) hx hb (hts (.arrayClass .int) (by decide +kernel)) hK hP hD hS hA hz219.1 rfl (by omega) (Nat.le_of_ble_eq_true rfl) (show (n0 + n0) + (x6 - 1).toNatClampNeg ≤ 600 by omega) dL_edited_219 (fun q219 H hP hD hS => ?_)
    have hP : va_P D vwCl (wL_edited cA b0 b1 b7 b8 n0 f0 f1 f7 f8 ++ [(q219, .inl (cA 0, (x6 - 1).toNatClampNeg, .inl (fun _ => 0)))]) H := hP
    have hD : va_D A (wL_edited cA b0 b1 b7 b8 n0 f0 f1 f7 f8 ++ [(q219, .inl (cA 0, (x6 - 1).toNatClampNeg, .inl (fun _ => 0)))]) := hD
    refine lv_astore (lv' := [(7, .ref (q219)), (10, .int (if x3 < x4 then x4 else x3)), (9, .int (if x4 < x3 then x4 else x3)), (0, .ref (b0)), (1, .ref (b1)), (2, .int x2), (3, .int x3), (4, .int x4), (5, .int x5), (6, .int x6), (8, .ref (b8))]) hx hb dL_edited_221 hl (by decide) rfl (fun ls hl => ?_)
    refine lv_iload hx hb dL_edited_223 (lv_at hl 9 rfl) ?_
    refine lv_iconst (v := 1) hx hb dL_edited_225 (by decide) ?_
    refine lv_isub hx hb dL_edited_226 ?_
    obtain ⟨hz227, h⟩ := e_nw h
    refine xa_newi (N' := (x6 - 1).toNatClampNeg) hx hb (hts (.arrayClass .int) (by decide +kernel)) hK hP hD hS hA hz227.1 rfl (by omega) (Nat.le_of_ble_eq_true rfl) (show ((n0 + n0) + (x6 - 1).toNatClampNeg) + (x6 - 1).toNatClampNeg ≤ 600 by omega) dL_edited_227 (fun q227 H hP hD hS => ?_)
    have hP : va_P D vwCl (wL_edited cA b0 b1 b7 b8 n0 f0 f1 f7 f8 ++ [(q219, .inl (cA 0, (x6 - 1).toNatClampNeg, .inl (fun _ => 0))), (q227, .inl (cA 0, (x6 - 1).toNatClampNeg, .inl (fun _ => 0)))]) H := hP
    have hD : va_D A (wL_edited cA b0 b1 b7 b8 n0 f0 f1 f7 f8 ++ [(q219, .inl (cA 0, (x6 - 1).toNatClampNeg, .inl (fun _ => 0))), (q227, .inl (cA 0, (x6 - 1).toNatClampNeg, .inl (fun _ => 0)))]) := hD
    refine lv_astore (lv' := [(8, .ref (q227)), (7, .ref (q219)), (10, .int (if x3 < x4 then x4 else x3)), (9, .int (if x4 < x3 then x4 else x3)), (0, .ref (b0)), (1, .ref (b1)), (2, .int x2), (3, .int x3), (4, .int x4), (5, .int x5), (6, .int x6)]) hx hb dL_edited_229 hl (by decide) rfl (fun ls hl => ?_)
    refine lv_iconst (v := 0) hx hb dL_edited_231 (by decide) ?_
    refine lv_istore (lv' := [(11, .int 0), (8, .ref (q227)), (7, .ref (q219)), (10, .int (if x3 < x4 then x4 else x3)), (9, .int (if x4 < x3 then x4 else x3)), (0, .ref (b0)), (1, .ref (b1)), (2, .int x2), (3, .int x3), (4, .int x4), (5, .int x5), (6, .int x6)]) hx hb dL_edited_232 hl (by decide) rfl (fun ls hl => ?_)
    have hL234 : ∀ (n : Nat) (x3 : Int32) (x6 : Int32) (x11 : Int32) (f0 : Nat → Int32) (f1 : Nat → Int32) (f7 : Nat → Int32) (f8 : Nat → Int32) (w_115 : Nat → Int32) (w_123 : Nat → Int32) (w_219 : Nat → Int32) (w_227 : Nat → Int32) (z24 : (Nat → Int32) × (Nat → Int32)) (ls : Array Slot) (H : Heap) (locs : List Loc), lv_has ls 14 [(0, .ref (b0)), (1, .ref (b1)), (3, .int x3), (6, .int x6), (7, .ref (q219)), (8, .ref (q227)), (11, .int x11)] → va_P D vwCl (wL_edited cA b0 b1 b7 b8 n0 f0 f1 f7 f8 ++ [(q219, .inl (cA 0, (x6 - 1).toNatClampNeg, .inl w_219)), (q227, .inl (cA 0, (x6 - 1).toNatClampNeg, .inl w_227))]) H → va_D A (wL_edited cA b0 b1 b7 b8 n0 f0 f1 f7 f8 ++ [(q219, .inl (cA 0, (x6 - 1).toNatClampNeg, .inl w_219)), (q227, .inl (cA 0, (x6 - 1).toNatClampNeg, .inl w_227))]) → va_S A s.heap H locs → mL_edited_L234 n0 f0 f1 x3 x6 n x11 w_219 w_227 = some z24 → (∀ (ls : Array Slot) (H : Heap) (locs : List Loc), lv_has ls 14 [(7, .ref (q219)), (8, .ref (q227))] → va_P D vwCl (wL_edited cA b0 b1 b7 b8 n0 f0 f1 f7 f8 ++ [(q219, .inl (cA 0, (x6 - 1).toNatClampNeg, .inl z24.1)), (q227, .inl (cA 0, (x6 - 1).toNatClampNeg, .inl z24.2))]) H → va_D A (wL_edited cA b0 b1 b7 b8 n0 f0 f1 f7 f8 ++ [(q219, .inl (cA 0, (x6 - 1).toNatClampNeg, .inl z24.1)), (q227, .inl (cA 0, (x6 - 1).toNatClampNeg, .inl z24.2))]) → va_S A s.heap H locs → W p l e (headSpec wsL_edited { frames := 1, cells := 5, slots := 600, locals := 24 }).room s m args below meth c H locs ((2 + 1) + 1) (((n0 + n0) + (x6 - 1).toNatClampNeg) + (x6 - 1).toNatClampNeg) Q (F0 m 293 ls [])) → W p l e (headSpec wsL_edited { frames := 1, cells := 5, slots := 600, locals := 24 }).room s m args below meth c H locs ((2 + 1) + 1) (((n0 + n0) + (x6 - 1).toNatClampNeg) + (x6 - 1).toNatClampNeg) Q (F0 m 234 ls []) := by
      intro n
      induction n with
      | zero => intro x3 x6 x11 f0 f1 f7 f8 w_115 w_123 w_219 w_227 z24 ls H locs hl hP hD hS h hk234; exact e_n h
      | succ n ih234 =>
        intro x3 x6 x11 f0 f1 f7 f8 w_115 w_123 w_219 w_227 z24 ls H locs hl hP hD hS h hk234
        rw [mL_edited_L234.eq_2] at h
        refine lv_iload hx hb dL_edited_234 (lv_at hl 6 rfl) ?_
        refine lv_iconst (v := 1) hx hb dL_edited_236 (by decide) ?_
        refine lv_iadd hx hb dL_edited_237 ?_
        refine lv_iload hx hb dL_edited_238 (lv_at hl 3 rfl) ?_
        refine lv_icmp_ge (tgt := 293) hx hb dL_edited_240 (by decide) (fun c25 => ?_) (fun c25 => ?_)
        · have h := e_t c25 h
          obtain rfl := e_s h
          exact hk234 _ _ _ (lv_sub hl [4, 5] rfl) hP hD hS
        · have h := e_f c25 h
          refine lv_aload hx hb dL_edited_243 (lv_at hl 4 rfl) ?_
          refine lv_iload hx hb dL_edited_245 (lv_at hl 6 rfl) ?_
          refine lv_aload_n hx hb dL_edited_247 rfl (lv_at hl 0 rfl) ?_
          refine lv_iload hx hb dL_edited_248 (lv_at hl 6 rfl) ?_
          refine lv_iload_n hx hb dL_edited_250 rfl (lv_at hl 2 rfl) ?_
          obtain ⟨z26, ez26, h⟩ := e_b h
          have hJ27 : ∀ (ls : Array Slot) (H : Heap) (locs : List Loc), lv_has ls 14 [(0, .ref (b0)), (1, .ref (b1)), (3, .int x3), (6, .int x6), (7, .ref (q219)), (8, .ref (q227)), (11, .int x11)] → va_P D vwCl (wL_edited cA b0 b1 b7 b8 n0 f0 f1 f7 f8 ++ [(q219, .inl (cA 0, (x6 - 1).toNatClampNeg, .inl w_219)), (q227, .inl (cA 0, (x6 - 1).toNatClampNeg, .inl w_227))]) H → va_D A (wL_edited cA b0 b1 b7 b8 n0 f0 f1 f7 f8 ++ [(q219, .inl (cA 0, (x6 - 1).toNatClampNeg, .inl w_219)), (q227, .inl (cA 0, (x6 - 1).toNatClampNeg, .inl w_227))]) → va_S A s.heap H locs → W p l e (headSpec wsL_edited { frames := 1, cells := 5, slots := 600, locals := 24 }).room s m args below meth c H locs ((2 + 1) + 1) (((n0 + n0) + (x6 - 1).toNatClampNeg) + (x6 - 1).toNatClampNeg) Q (F0 m 263 ls [.int z26, .ref (b0), .int x11, .ref (q219)]) := by
            intro ls H locs hl hP hD hS
            obtain ⟨v28, ev28, nv28, h⟩ := e_rd h
            refine xa_iald hx hb hK hP 0 rfl nv28 ev28 dL_edited_263 ?_
            obtain ⟨a29, ea29, na29, h⟩ := e_wr h
            refine xa_iast hx hb hK hP hD hS 4 rfl na29 ea29 dL_edited_264 (fun H locs hP hD hS => ?_)
            have hP : va_P D vwCl (wL_edited cA b0 b1 b7 b8 n0 f0 f1 f7 f8 ++ [(q219, .inl (cA 0, (x6 - 1).toNatClampNeg, .inl a29)), (q227, .inl (cA 0, (x6 - 1).toNatClampNeg, .inl w_227))]) H := hP
            have hD : va_D A (wL_edited cA b0 b1 b7 b8 n0 f0 f1 f7 f8 ++ [(q219, .inl (cA 0, (x6 - 1).toNatClampNeg, .inl a29)), (q227, .inl (cA 0, (x6 - 1).toNatClampNeg, .inl w_227))]) := hD
            refine lv_aload hx hb dL_edited_265 (lv_at hl 5 rfl) ?_
            refine lv_iload hx hb dL_edited_267 (lv_at hl 6 rfl) ?_
            refine lv_aload_n hx hb dL_edited_269 rfl (lv_at hl 1 rfl) ?_
            refine lv_iload hx hb dL_edited_270 (lv_at hl 6 rfl) ?_
            refine lv_iload_n hx hb dL_edited_272 rfl (lv_at hl 2 rfl) ?_
            refine lv_icmp_ge (tgt := 281) hx hb dL_edited_273 (by decide) (fun c30 => ?_) (fun c30 => ?_)
            · have h := e_t c30 h
              refine lv_iload hx hb dL_edited_281 (lv_at hl 6 rfl) ?_
              refine lv_iconst (v := 1) hx hb dL_edited_283 (by decide) ?_
              refine lv_iadd hx hb dL_edited_284 ?_
              obtain ⟨v31, ev31, nv31, h⟩ := e_rd h
              refine xa_iald hx hb hK hP 1 rfl nv31 ev31 dL_edited_285 ?_
              obtain ⟨a32, ea32, na32, h⟩ := e_wr h
              refine xa_iast hx hb hK hP hD hS 5 rfl na32 ea32 dL_edited_286 (fun H locs hP hD hS => ?_)
              have hP : va_P D vwCl (wL_edited cA b0 b1 b7 b8 n0 f0 f1 f7 f8 ++ [(q219, .inl (cA 0, (x6 - 1).toNatClampNeg, .inl a29)), (q227, .inl (cA 0, (x6 - 1).toNatClampNeg, .inl a32))]) H := hP
              have hD : va_D A (wL_edited cA b0 b1 b7 b8 n0 f0 f1 f7 f8 ++ [(q219, .inl (cA 0, (x6 - 1).toNatClampNeg, .inl a29)), (q227, .inl (cA 0, (x6 - 1).toNatClampNeg, .inl a32))]) := hD
              refine lv_iinc (v := (x11 + 1)) (lv' := [(11, .int (x11 + 1)), (0, .ref (b0)), (1, .ref (b1)), (3, .int x3), (6, .int x6), (7, .ref (q219)), (8, .ref (q227))]) hx hb dL_edited_287 hl (k := 6) rfl rfl (by decide) rfl (fun ls hl => ?_)
              refine lv_goto (tgt := 234) hx hb dL_edited_290 (by decide) ?_
              exact ih234 x3 x6 (x11 + 1) f0 f1 f7 f8 w_115 w_123 a29 a32 z24 _ _ _ (lv_sub hl [1, 2, 3, 4, 5, 6, 0] rfl) hP hD hS h hk234
            · have h := e_f c30 h
              refine lv_iload hx hb dL_edited_276 (lv_at hl 6 rfl) ?_
              refine lv_goto (tgt := 285) hx hb dL_edited_278 (by decide) ?_
              obtain ⟨v33, ev33, nv33, h⟩ := e_rd h
              refine xa_iald hx hb hK hP 1 rfl nv33 ev33 dL_edited_285 ?_
              obtain ⟨a34, ea34, na34, h⟩ := e_wr h
              refine xa_iast hx hb hK hP hD hS 5 rfl na34 ea34 dL_edited_286 (fun H locs hP hD hS => ?_)
              have hP : va_P D vwCl (wL_edited cA b0 b1 b7 b8 n0 f0 f1 f7 f8 ++ [(q219, .inl (cA 0, (x6 - 1).toNatClampNeg, .inl a29)), (q227, .inl (cA 0, (x6 - 1).toNatClampNeg, .inl a34))]) H := hP
              have hD : va_D A (wL_edited cA b0 b1 b7 b8 n0 f0 f1 f7 f8 ++ [(q219, .inl (cA 0, (x6 - 1).toNatClampNeg, .inl a29)), (q227, .inl (cA 0, (x6 - 1).toNatClampNeg, .inl a34))]) := hD
              refine lv_iinc (v := (x11 + 1)) (lv' := [(11, .int (x11 + 1)), (0, .ref (b0)), (1, .ref (b1)), (3, .int x3), (6, .int x6), (7, .ref (q219)), (8, .ref (q227))]) hx hb dL_edited_287 hl (k := 6) rfl rfl (by decide) rfl (fun ls hl => ?_)
              refine lv_goto (tgt := 234) hx hb dL_edited_290 (by decide) ?_
              exact ih234 x3 x6 (x11 + 1) f0 f1 f7 f8 w_115 w_123 a29 a34 z24 _ _ _ (lv_sub hl [1, 2, 3, 4, 5, 6, 0] rfl) hP hD hS h hk234
          have h := ez26
          refine lv_icmp_ge (tgt := 259) hx hb dL_edited_251 (by decide) (fun c35 => ?_) (fun c35 => ?_)
          · have h := e_t c35 h
            refine lv_iload hx hb dL_edited_259 (lv_at hl 6 rfl) ?_
            refine lv_iconst (v := 1) hx hb dL_edited_261 (by decide) ?_
            refine lv_iadd hx hb dL_edited_262 ?_
            obtain rfl := e_s h
            exact hJ27 _ _ _ (lv_sub hl [0, 1, 2, 3, 4, 5, 6] rfl) hP hD hS
          · have h := e_f c35 h
            refine lv_iload hx hb dL_edited_254 (lv_at hl 6 rfl) ?_
            refine lv_goto (tgt := 263) hx hb dL_edited_256 (by decide) ?_
            obtain rfl := e_s h
            exact hJ27 _ _ _ (lv_sub hl [0, 1, 2, 3, 4, 5, 6] rfl) hP hD hS
    obtain ⟨z36, ez36, h⟩ := e_b h
    refine hL234 FU x3 x6 0 f0 f1 f7 f8 (fun _ => 0) (fun _ => 0) (fun _ => 0) (fun _ => 0) z36 _ _ _ (lv_sub hl [5, 6, 8, 11, 2, 1, 0] rfl) hP hD hS ez36 (fun ls H locs hl hP hD hS => ?_)
    refine lv_goto (tgt := 669) hx hb dL_edited_293 (by decide) ?_
    refine lv_iconst (v := 2) hx hb dL_edited_669 (by decide) ?_
    refine xa_newA hx hb hown (hts (.classLink RL 138 "[I") (by decide +kernel)) hO hK hP hD hS hA (Nat.le_of_ble_eq_true rfl) (show (((n0 + n0) + (x6 - 1).toNatClampNeg) + (x6 - 1).toNatClampNeg) + 2 ≤ 600 by omega) dL_edited_670 (fun q670 H hP hD hS => ?_)
    have hP : va_P D vwCl (wL_edited cA b0 b1 b7 b8 n0 f0 f1 f7 f8 ++ [(q219, .inl (cA 0, (x6 - 1).toNatClampNeg, .inl z36.1)), (q227, .inl (cA 0, (x6 - 1).toNatClampNeg, .inl z36.2)), (q670, .inl (cA 5, 2, .inr (.inr (.inr (.inr (fun _ => none))))))]) H := hP
    have hD : va_D A (wL_edited cA b0 b1 b7 b8 n0 f0 f1 f7 f8 ++ [(q219, .inl (cA 0, (x6 - 1).toNatClampNeg, .inl z36.1)), (q227, .inl (cA 0, (x6 - 1).toNatClampNeg, .inl z36.2)), (q670, .inl (cA 5, 2, .inr (.inr (.inr (.inr (fun _ => none))))))]) := hD
    refine lv_dup hx hb dL_edited_673 rfl ?_
    refine lv_iconst (v := 0) hx hb dL_edited_674 (by decide) ?_
    refine lv_aload hx hb dL_edited_675 (lv_at hl 0 rfl) ?_
    refine xa_astA hx hb hO hK hP hD hS 6 4 rfl rfl (i := 0) (show ¬ _ by decide) dL_edited_677 (fun H locs hP hD hS => ?_)
    have hP : va_P D vwCl (wL_edited cA b0 b1 b7 b8 n0 f0 f1 f7 f8 ++ [(q219, .inl (cA 0, (x6 - 1).toNatClampNeg, .inl z36.1)), (q227, .inl (cA 0, (x6 - 1).toNatClampNeg, .inl z36.2)), (q670, .inl (cA 5, 2, .inr (.inr (.inr (.inr (va_up (fun _ => none) 0 (some q219)))))))]) H := hP
    have hD : va_D A (wL_edited cA b0 b1 b7 b8 n0 f0 f1 f7 f8 ++ [(q219, .inl (cA 0, (x6 - 1).toNatClampNeg, .inl z36.1)), (q227, .inl (cA 0, (x6 - 1).toNatClampNeg, .inl z36.2)), (q670, .inl (cA 5, 2, .inr (.inr (.inr (.inr (va_up (fun _ => none) 0 (some q219)))))))]) := hD
    refine lv_dup hx hb dL_edited_678 rfl ?_
    refine lv_iconst (v := 1) hx hb dL_edited_679 (by decide) ?_
    refine lv_aload hx hb dL_edited_680 (lv_at hl 1 rfl) ?_
    refine xa_astA hx hb hO hK hP hD hS 6 5 rfl rfl (i := 1) (show ¬ _ by decide) dL_edited_682 (fun H locs hP hD hS => ?_)
    have hP : va_P D vwCl (wL_edited cA b0 b1 b7 b8 n0 f0 f1 f7 f8 ++ [(q219, .inl (cA 0, (x6 - 1).toNatClampNeg, .inl z36.1)), (q227, .inl (cA 0, (x6 - 1).toNatClampNeg, .inl z36.2)), (q670, .inl (cA 5, 2, .inr (.inr (.inr (.inr (va_up (va_up (fun _ => none) 0 (some q219)) 1 (some q227)))))))]) H := hP
    have hD : va_D A (wL_edited cA b0 b1 b7 b8 n0 f0 f1 f7 f8 ++ [(q219, .inl (cA 0, (x6 - 1).toNatClampNeg, .inl z36.1)), (q227, .inl (cA 0, (x6 - 1).toNatClampNeg, .inl z36.2)), (q670, .inl (cA 5, 2, .inr (.inr (.inr (.inr (va_up (va_up (fun _ => none) 0 (some q219)) 1 (some q227)))))))]) := hD
    obtain rfl := e_s h
    have hP := w_rowsA (q0 := 6) hP rfl (g := fun k => some (adL [q670, q219, q227] (1 + k))) (by intro j hj; rcases (show j = 0 ∨ j = 1 by omega) with rfl | rfl <;> rfl)
    have hD := va_D_fst (A := A) (W := (wL_edited cA b0 b1 b7 b8 n0 f0 f1 f7 f8 ++ [(q219, .inl (cA 0, (x6 - 1).toNatClampNeg, .inl z36.1)), (q227, .inl (cA 0, (x6 - 1).toNatClampNeg, .inl z36.2)), (q670, .inl (cA 5, 2, .inr (.inr (.inr (.inr (va_up (va_up (fun _ => none) 0 (some q219)) 1 (some q227)))))))])) (W' := ((wL_edited cA b0 b1 b7 b8 n0 f0 f1 f7 f8 ++ [(q219, .inl (cA 0, (x6 - 1).toNatClampNeg, .inl z36.1)), (q227, .inl (cA 0, (x6 - 1).toNatClampNeg, .inl z36.2)), (q670, .inl (cA 5, 2, .inr (.inr (.inr (.inr (va_up (va_up (fun _ => none) 0 (some q219)) 1 (some q227)))))))]) : va_W).set 6 (q670, .inl (cA 5, 2, .inr (.inr (.inr (.inr (fun k => some (adL [q670, q219, q227] (1 + k))))))))) rfl hD
    refine W.widen (k := 5) (n := 600) (by omega) (by omega) ?_
    exact hret q670 q219 q227 (hP.sub [0, 1, 6, 4, 5] rfl) (hD.sub [0, 1, 6, 4, 5] (by decide +kernel) rfl) hS dL_edited_683
  have h := e_f c37 h
  by_cases c42 : x2 = 4
  · have h := e_t c42 h
    refine lv_tableIn (off := 257) (tgt := 296) hx hb dL_edited_39 (by rw [c42]; decide) (by rw [c42]; decide) (by rw [c42]; rfl) (by decide) ?_
    refine lv_iload hx hb dL_edited_296 (lv_at hl 1 rfl) ?_
    refine lv_istore (lv' := [(11, .int (if x4 < x3 then x4 else x3)), (10, .int (if x3 < x4 then x4 else x3)), (9, .int (if x4 < x3 then x4 else x3)), (0, .ref (b0)), (1, .ref (b1)), (2, .int x2), (3, .int x3), (4, .int x4), (5, .int x5), (6, .int x6), (7, .ref (b7)), (8, .ref (b8))]) hx hb dL_edited_298 hl (by decide) rfl (fun ls hl => ?_)
    have hL300 : ∀ (n : Nat) (x5 : Int32) (x10 : Int32) (x11 : Int32) (f0 : Nat → Int32) (f1 : Nat → Int32) (f7 : Nat → Int32) (f8 : Nat → Int32) (w_115 : Nat → Int32) (w_123 : Nat → Int32) (w_219 : Nat → Int32) (w_227 : Nat → Int32) (z38 : (Nat → Int32)) (ls : Array Slot) (H : Heap) (locs : List Loc), lv_has ls 14 [(5, .int x5), (7, .ref (b7)), (8, .ref (b8)), (10, .int x10), (11, .int x11)] → va_P D vwCl (wL_edited cA b0 b1 b7 b8 n0 f0 f1 f7 f8) H → va_D A (wL_edited cA b0 b1 b7 b8 n0 f0 f1 f7 f8) → va_S A s.heap H locs → mL_edited_L300 n0 x5 x10 n x11 f7 = some z38 → (∀ (ls : Array Slot) (H : Heap) (locs : List Loc), lv_has ls 14 [(7, .ref (b7)), (8, .ref (b8))] → va_P D vwCl (wL_edited cA b0 b1 b7 b8 n0 f0 f1 z38 f8) H → va_D A (wL_edited cA b0 b1 b7 b8 n0 f0 f1 z38 f8) → va_S A s.heap H locs → W p l e (headSpec wsL_edited { frames := 1, cells := 5, slots := 600, locals := 24 }).room s m args below meth c H locs 2 (n0 + n0) Q (F0 m 320 ls [])) → W p l e (headSpec wsL_edited { frames := 1, cells := 5, slots := 600, locals := 24 }).room s m args below meth c H locs 2 (n0 + n0) Q (F0 m 300 ls []) := by
      intro n
      induction n with
      | zero => intro x5 x10 x11 f0 f1 f7 f8 w_115 w_123 w_219 w_227 z38 ls H locs hl hP hD hS h hk300; exact e_n h
      | succ n ih300 =>
        intro x5 x10 x11 f0 f1 f7 f8 w_115 w_123 w_219 w_227 z38 ls H locs hl hP hD hS h hk300
        rw [mL_edited_L300.eq_2] at h
        refine lv_iload hx hb dL_edited_300 (lv_at hl 4 rfl) ?_
        refine lv_iload hx hb dL_edited_302 (lv_at hl 3 rfl) ?_
        refine lv_icmp_gt (tgt := 320) hx hb dL_edited_304 (by decide) (fun c39 => ?_) (fun c39 => ?_)
        · have h := e_t c39 h
          obtain rfl := e_s h
          exact hk300 _ _ _ (lv_sub hl [1, 2] rfl) hP hD hS
        · have h := e_f c39 h
          refine lv_aload hx hb dL_edited_307 (lv_at hl 1 rfl) ?_
          refine lv_iload hx hb dL_edited_309 (lv_at hl 4 rfl) ?_
          refine lv_iload hx hb dL_edited_311 (lv_at hl 0 rfl) ?_
          obtain ⟨a40, ea40, na40, h⟩ := e_wr h
          refine xa_iast hx hb hK hP hD hS 2 rfl na40 ea40 dL_edited_313 (fun H locs hP hD hS => ?_)
          have hP : va_P D vwCl (wL_edited cA b0 b1 b7 b8 n0 f0 f1 a40 f8) H := hP
          have hD : va_D A (wL_edited cA b0 b1 b7 b8 n0 f0 f1 a40 f8) := hD
          refine lv_iinc (v := (x11 + 1)) (lv' := [(11, .int (x11 + 1)), (5, .int x5), (7, .ref (b7)), (8, .ref (b8)), (10, .int x10)]) hx hb dL_edited_314 hl (k := 4) rfl rfl (by decide) rfl (fun ls hl => ?_)
          refine lv_goto (tgt := 300) hx hb dL_edited_317 (by decide) ?_
          exact ih300 x5 x10 (x11 + 1) f0 f1 a40 f8 w_115 w_123 w_219 w_227 z38 _ _ _ (lv_sub hl [1, 2, 3, 4, 0] rfl) hP hD hS h hk300
    obtain ⟨z41, ez41, h⟩ := e_b h
    refine hL300 FU x5 (if x3 < x4 then x4 else x3) (if x4 < x3 then x4 else x3) f0 f1 f7 f8 (fun _ => 0) (fun _ => 0) (fun _ => 0) (fun _ => 0) z41 _ _ _ (lv_sub hl [8, 10, 11, 1, 0] rfl) hP hD hS ez41 (fun ls H locs hl hP hD hS => ?_)
    refine lv_goto (tgt := 669) hx hb dL_edited_320 (by decide) ?_
    refine lv_iconst (v := 2) hx hb dL_edited_669 (by decide) ?_
    refine xa_newA hx hb hown (hts (.classLink RL 138 "[I") (by decide +kernel)) hO hK hP hD hS hA (Nat.le_of_ble_eq_true rfl) (show (n0 + n0) + 2 ≤ 600 by omega) dL_edited_670 (fun q670 H hP hD hS => ?_)
    have hP : va_P D vwCl (wL_edited cA b0 b1 b7 b8 n0 f0 f1 z41 f8 ++ [(q670, .inl (cA 5, 2, .inr (.inr (.inr (.inr (fun _ => none))))))]) H := hP
    have hD : va_D A (wL_edited cA b0 b1 b7 b8 n0 f0 f1 z41 f8 ++ [(q670, .inl (cA 5, 2, .inr (.inr (.inr (.inr (fun _ => none))))))]) := hD
    refine lv_dup hx hb dL_edited_673 rfl ?_
    refine lv_iconst (v := 0) hx hb dL_edited_674 (by decide) ?_
    refine lv_aload hx hb dL_edited_675 (lv_at hl 0 rfl) ?_
    refine xa_astA hx hb hO hK hP hD hS 4 2 rfl rfl (i := 0) (show ¬ _ by decide) dL_edited_677 (fun H locs hP hD hS => ?_)
    have hP : va_P D vwCl (wL_edited cA b0 b1 b7 b8 n0 f0 f1 z41 f8 ++ [(q670, .inl (cA 5, 2, .inr (.inr (.inr (.inr (va_up (fun _ => none) 0 (some b7)))))))]) H := hP
    have hD : va_D A (wL_edited cA b0 b1 b7 b8 n0 f0 f1 z41 f8 ++ [(q670, .inl (cA 5, 2, .inr (.inr (.inr (.inr (va_up (fun _ => none) 0 (some b7)))))))]) := hD
    refine lv_dup hx hb dL_edited_678 rfl ?_
    refine lv_iconst (v := 1) hx hb dL_edited_679 (by decide) ?_
    refine lv_aload hx hb dL_edited_680 (lv_at hl 1 rfl) ?_
    refine xa_astA hx hb hO hK hP hD hS 4 3 rfl rfl (i := 1) (show ¬ _ by decide) dL_edited_682 (fun H locs hP hD hS => ?_)
    have hP : va_P D vwCl (wL_edited cA b0 b1 b7 b8 n0 f0 f1 z41 f8 ++ [(q670, .inl (cA 5, 2, .inr (.inr (.inr (.inr (va_up (va_up (fun _ => none) 0 (some b7)) 1 (some b8)))))))]) H := hP
    have hD : va_D A (wL_edited cA b0 b1 b7 b8 n0 f0 f1 z41 f8 ++ [(q670, .inl (cA 5, 2, .inr (.inr (.inr (.inr (va_up (va_up (fun _ => none) 0 (some b7)) 1 (some b8)))))))]) := hD
    obtain rfl := e_s h
    have hP := w_rowsA (q0 := 4) hP rfl (g := fun k => some (adL [q670, b7, b8] (1 + k))) (by intro j hj; rcases (show j = 0 ∨ j = 1 by omega) with rfl | rfl <;> rfl)
    have hD := va_D_fst (A := A) (W := (wL_edited cA b0 b1 b7 b8 n0 f0 f1 z41 f8 ++ [(q670, .inl (cA 5, 2, .inr (.inr (.inr (.inr (va_up (va_up (fun _ => none) 0 (some b7)) 1 (some b8)))))))])) (W' := ((wL_edited cA b0 b1 b7 b8 n0 f0 f1 z41 f8 ++ [(q670, .inl (cA 5, 2, .inr (.inr (.inr (.inr (va_up (va_up (fun _ => none) 0 (some b7)) 1 (some b8)))))))]) : va_W).set 4 (q670, .inl (cA 5, 2, .inr (.inr (.inr (.inr (fun k => some (adL [q670, b7, b8] (1 + k))))))))) rfl hD
    refine W.widen (k := 5) (n := 600) (by omega) (by omega) ?_
    exact hret q670 b7 b8 (hP.sub [0, 1, 4, 2, 3] rfl) (hD.sub [0, 1, 4, 2, 3] (by decide +kernel) rfl) hS dL_edited_683
  have h := e_f c42 h
  by_cases c51 : x2 = 5
  · have h := e_t c51 h
    refine lv_tableIn (off := 284) (tgt := 323) hx hb dL_edited_39 (by rw [c51]; decide) (by rw [c51]; decide) (by rw [c51]; rfl) (by decide) ?_
    refine lv_aload hx hb dL_edited_323 (lv_at hl 9 rfl) ?_
    refine lv_iload_n hx hb dL_edited_325 rfl (lv_at hl 5 rfl) ?_
    refine lv_aload_n hx hb dL_edited_326 rfl (lv_at hl 2 rfl) ?_
    refine lv_iload hx hb dL_edited_327 (lv_at hl 6 rfl) ?_
    obtain ⟨v43, ev43, nv43, h⟩ := e_rd h
    refine xa_iald hx hb hK hP 0 rfl nv43 ev43 dL_edited_329 ?_
    obtain ⟨a44, ea44, na44, h⟩ := e_wr h
    refine xa_iast hx hb hK hP hD hS 2 rfl na44 ea44 dL_edited_330 (fun H locs hP hD hS => ?_)
    have hP : va_P D vwCl (wL_edited cA b0 b1 b7 b8 n0 f0 f1 a44 f8) H := hP
    have hD : va_D A (wL_edited cA b0 b1 b7 b8 n0 f0 f1 a44 f8) := hD
    refine lv_aload hx hb dL_edited_331 (lv_at hl 10 rfl) ?_
    refine lv_iload_n hx hb dL_edited_333 rfl (lv_at hl 5 rfl) ?_
    refine lv_aload_n hx hb dL_edited_334 rfl (lv_at hl 3 rfl) ?_
    refine lv_iload hx hb dL_edited_335 (lv_at hl 6 rfl) ?_
    obtain ⟨v45, ev45, nv45, h⟩ := e_rd h
    refine xa_iald hx hb hK hP 1 rfl nv45 ev45 dL_edited_337 ?_
    obtain ⟨a46, ea46, na46, h⟩ := e_wr h
    refine xa_iast hx hb hK hP hD hS 3 rfl na46 ea46 dL_edited_338 (fun H locs hP hD hS => ?_)
    have hP : va_P D vwCl (wL_edited cA b0 b1 b7 b8 n0 f0 f1 a44 a46) H := hP
    have hD : va_D A (wL_edited cA b0 b1 b7 b8 n0 f0 f1 a44 a46) := hD
    refine lv_aload hx hb dL_edited_339 (lv_at hl 9 rfl) ?_
    refine lv_iload hx hb dL_edited_341 (lv_at hl 6 rfl) ?_
    refine lv_aload_n hx hb dL_edited_343 rfl (lv_at hl 2 rfl) ?_
    refine lv_iload_n hx hb dL_edited_344 rfl (lv_at hl 5 rfl) ?_
    obtain ⟨v47, ev47, nv47, h⟩ := e_rd h
    refine xa_iald hx hb hK hP 0 rfl nv47 ev47 dL_edited_345 ?_
    obtain ⟨a48, ea48, na48, h⟩ := e_wr h
    refine xa_iast hx hb hK hP hD hS 2 rfl na48 ea48 dL_edited_346 (fun H locs hP hD hS => ?_)
    have hP : va_P D vwCl (wL_edited cA b0 b1 b7 b8 n0 f0 f1 a48 a46) H := hP
    have hD : va_D A (wL_edited cA b0 b1 b7 b8 n0 f0 f1 a48 a46) := hD
    refine lv_aload hx hb dL_edited_347 (lv_at hl 10 rfl) ?_
    refine lv_iload hx hb dL_edited_349 (lv_at hl 6 rfl) ?_
    refine lv_aload_n hx hb dL_edited_351 rfl (lv_at hl 3 rfl) ?_
    refine lv_iload_n hx hb dL_edited_352 rfl (lv_at hl 5 rfl) ?_
    obtain ⟨v49, ev49, nv49, h⟩ := e_rd h
    refine xa_iald hx hb hK hP 1 rfl nv49 ev49 dL_edited_353 ?_
    obtain ⟨a50, ea50, na50, h⟩ := e_wr h
    refine xa_iast hx hb hK hP hD hS 3 rfl na50 ea50 dL_edited_354 (fun H locs hP hD hS => ?_)
    have hP : va_P D vwCl (wL_edited cA b0 b1 b7 b8 n0 f0 f1 a48 a50) H := hP
    have hD : va_D A (wL_edited cA b0 b1 b7 b8 n0 f0 f1 a48 a50) := hD
    refine lv_goto (tgt := 669) hx hb dL_edited_355 (by decide) ?_
    refine lv_iconst (v := 2) hx hb dL_edited_669 (by decide) ?_
    refine xa_newA hx hb hown (hts (.classLink RL 138 "[I") (by decide +kernel)) hO hK hP hD hS hA (Nat.le_of_ble_eq_true rfl) (show (n0 + n0) + 2 ≤ 600 by omega) dL_edited_670 (fun q670 H hP hD hS => ?_)
    have hP : va_P D vwCl (wL_edited cA b0 b1 b7 b8 n0 f0 f1 a48 a50 ++ [(q670, .inl (cA 5, 2, .inr (.inr (.inr (.inr (fun _ => none))))))]) H := hP
    have hD : va_D A (wL_edited cA b0 b1 b7 b8 n0 f0 f1 a48 a50 ++ [(q670, .inl (cA 5, 2, .inr (.inr (.inr (.inr (fun _ => none))))))]) := hD
    refine lv_dup hx hb dL_edited_673 rfl ?_
    refine lv_iconst (v := 0) hx hb dL_edited_674 (by decide) ?_
    refine lv_aload hx hb dL_edited_675 (lv_at hl 9 rfl) ?_
    refine xa_astA hx hb hO hK hP hD hS 4 2 rfl rfl (i := 0) (show ¬ _ by decide) dL_edited_677 (fun H locs hP hD hS => ?_)
    have hP : va_P D vwCl (wL_edited cA b0 b1 b7 b8 n0 f0 f1 a48 a50 ++ [(q670, .inl (cA 5, 2, .inr (.inr (.inr (.inr (va_up (fun _ => none) 0 (some b7)))))))]) H := hP
    have hD : va_D A (wL_edited cA b0 b1 b7 b8 n0 f0 f1 a48 a50 ++ [(q670, .inl (cA 5, 2, .inr (.inr (.inr (.inr (va_up (fun _ => none) 0 (some b7)))))))]) := hD
    refine lv_dup hx hb dL_edited_678 rfl ?_
    refine lv_iconst (v := 1) hx hb dL_edited_679 (by decide) ?_
    refine lv_aload hx hb dL_edited_680 (lv_at hl 10 rfl) ?_
    refine xa_astA hx hb hO hK hP hD hS 4 3 rfl rfl (i := 1) (show ¬ _ by decide) dL_edited_682 (fun H locs hP hD hS => ?_)
    have hP : va_P D vwCl (wL_edited cA b0 b1 b7 b8 n0 f0 f1 a48 a50 ++ [(q670, .inl (cA 5, 2, .inr (.inr (.inr (.inr (va_up (va_up (fun _ => none) 0 (some b7)) 1 (some b8)))))))]) H := hP
    have hD : va_D A (wL_edited cA b0 b1 b7 b8 n0 f0 f1 a48 a50 ++ [(q670, .inl (cA 5, 2, .inr (.inr (.inr (.inr (va_up (va_up (fun _ => none) 0 (some b7)) 1 (some b8)))))))]) := hD
    obtain rfl := e_s h
    have hP := w_rowsA (q0 := 4) hP rfl (g := fun k => some (adL [q670, b7, b8] (1 + k))) (by intro j hj; rcases (show j = 0 ∨ j = 1 by omega) with rfl | rfl <;> rfl)
    have hD := va_D_fst (A := A) (W := (wL_edited cA b0 b1 b7 b8 n0 f0 f1 a48 a50 ++ [(q670, .inl (cA 5, 2, .inr (.inr (.inr (.inr (va_up (va_up (fun _ => none) 0 (some b7)) 1 (some b8)))))))])) (W' := ((wL_edited cA b0 b1 b7 b8 n0 f0 f1 a48 a50 ++ [(q670, .inl (cA 5, 2, .inr (.inr (.inr (.inr (va_up (va_up (fun _ => none) 0 (some b7)) 1 (some b8)))))))]) : va_W).set 4 (q670, .inl (cA 5, 2, .inr (.inr (.inr (.inr (fun k => some (adL [q670, b7, b8] (1 + k))))))))) rfl hD
    refine W.widen (k := 5) (n := 600) (by omega) (by omega) ?_
    exact hret q670 b7 b8 (hP.sub [0, 1, 4, 2, 3] rfl) (hD.sub [0, 1, 4, 2, 3] (by decide +kernel) rfl) hS dL_edited_683
  have h := e_f c51 h
  by_cases c59 : x2 = 6
  · have h := e_t c59 h
    refine lv_tableIn (off := 319) (tgt := 358) hx hb dL_edited_39 (by rw [c59]; decide) (by rw [c59]; decide) (by rw [c59]; rfl) (by decide) ?_
    refine lv_iload hx hb dL_edited_358 (lv_at hl 1 rfl) ?_
    refine lv_istore (lv' := [(11, .int (if x4 < x3 then x4 else x3)), (10, .int (if x3 < x4 then x4 else x3)), (9, .int (if x4 < x3 then x4 else x3)), (0, .ref (b0)), (1, .ref (b1)), (2, .int x2), (3, .int x3), (4, .int x4), (5, .int x5), (6, .int x6), (7, .ref (b7)), (8, .ref (b8))]) hx hb dL_edited_360 hl (by decide) rfl (fun ls hl => ?_)
    have hL362 : ∀ (n : Nat) (x9 : Int32) (x10 : Int32) (x11 : Int32) (f0 : Nat → Int32) (f1 : Nat → Int32) (f7 : Nat → Int32) (f8 : Nat → Int32) (w_115 : Nat → Int32) (w_123 : Nat → Int32) (w_219 : Nat → Int32) (w_227 : Nat → Int32) (z52 : (Nat → Int32) × (Nat → Int32)) (ls : Array Slot) (H : Heap) (locs : List Loc), lv_has ls 14 [(0, .ref (b0)), (1, .ref (b1)), (7, .ref (b7)), (8, .ref (b8)), (9, .int x9), (10, .int x10), (11, .int x11)] → va_P D vwCl (wL_edited cA b0 b1 b7 b8 n0 f0 f1 f7 f8) H → va_D A (wL_edited cA b0 b1 b7 b8 n0 f0 f1 f7 f8) → va_S A s.heap H locs → mL_edited_L362 n0 f0 f1 x9 x10 n x11 f7 f8 = some z52 → (∀ (ls : Array Slot) (H : Heap) (locs : List Loc), lv_has ls 14 [(7, .ref (b7)), (8, .ref (b8))] → va_P D vwCl (wL_edited cA b0 b1 b7 b8 n0 f0 f1 z52.1 z52.2) H → va_D A (wL_edited cA b0 b1 b7 b8 n0 f0 f1 z52.1 z52.2) → va_S A s.heap H locs → W p l e (headSpec wsL_edited { frames := 1, cells := 5, slots := 600, locals := 24 }).room s m args below meth c H locs 2 (n0 + n0) Q (F0 m 405 ls [])) → W p l e (headSpec wsL_edited { frames := 1, cells := 5, slots := 600, locals := 24 }).room s m args below meth c H locs 2 (n0 + n0) Q (F0 m 362 ls []) := by
      intro n
      induction n with
      | zero => intro x9 x10 x11 f0 f1 f7 f8 w_115 w_123 w_219 w_227 z52 ls H locs hl hP hD hS h hk362; exact e_n h
      | succ n ih362 =>
        intro x9 x10 x11 f0 f1 f7 f8 w_115 w_123 w_219 w_227 z52 ls H locs hl hP hD hS h hk362
        rw [mL_edited_L362.eq_2] at h
        refine lv_iload hx hb dL_edited_362 (lv_at hl 6 rfl) ?_
        refine lv_iload hx hb dL_edited_364 (lv_at hl 5 rfl) ?_
        refine lv_icmp_gt (tgt := 405) hx hb dL_edited_366 (by decide) (fun c53 => ?_) (fun c53 => ?_)
        · have h := e_t c53 h
          obtain rfl := e_s h
          exact hk362 _ _ _ (lv_sub hl [2, 3] rfl) hP hD hS
        · have h := e_f c53 h
          refine lv_aload hx hb dL_edited_369 (lv_at hl 2 rfl) ?_
          refine lv_iload hx hb dL_edited_371 (lv_at hl 6 rfl) ?_
          refine lv_aload_n hx hb dL_edited_373 rfl (lv_at hl 0 rfl) ?_
          refine lv_iload hx hb dL_edited_374 (lv_at hl 4 rfl) ?_
          refine lv_iload hx hb dL_edited_376 (lv_at hl 5 rfl) ?_
          refine lv_iadd hx hb dL_edited_378 ?_
          refine lv_iload hx hb dL_edited_379 (lv_at hl 6 rfl) ?_
          refine lv_isub hx hb dL_edited_381 ?_
          obtain ⟨v54, ev54, nv54, h⟩ := e_rd h
          refine xa_iald hx hb hK hP 0 rfl nv54 ev54 dL_edited_382 ?_
          obtain ⟨a55, ea55, na55, h⟩ := e_wr h
          refine xa_iast hx hb hK hP hD hS 2 rfl na55 ea55 dL_edited_383 (fun H locs hP hD hS => ?_)
          have hP : va_P D vwCl (wL_edited cA b0 b1 b7 b8 n0 f0 f1 a55 f8) H := hP
          have hD : va_D A (wL_edited cA b0 b1 b7 b8 n0 f0 f1 a55 f8) := hD
          refine lv_aload hx hb dL_edited_384 (lv_at hl 3 rfl) ?_
          refine lv_iload hx hb dL_edited_386 (lv_at hl 6 rfl) ?_
          refine lv_aload_n hx hb dL_edited_388 rfl (lv_at hl 1 rfl) ?_
          refine lv_iload hx hb dL_edited_389 (lv_at hl 4 rfl) ?_
          refine lv_iload hx hb dL_edited_391 (lv_at hl 5 rfl) ?_
          refine lv_iadd hx hb dL_edited_393 ?_
          refine lv_iload hx hb dL_edited_394 (lv_at hl 6 rfl) ?_
          refine lv_isub hx hb dL_edited_396 ?_
          obtain ⟨v56, ev56, nv56, h⟩ := e_rd h
          refine xa_iald hx hb hK hP 1 rfl nv56 ev56 dL_edited_397 ?_
          obtain ⟨a57, ea57, na57, h⟩ := e_wr h
          refine xa_iast hx hb hK hP hD hS 3 rfl na57 ea57 dL_edited_398 (fun H locs hP hD hS => ?_)
          have hP : va_P D vwCl (wL_edited cA b0 b1 b7 b8 n0 f0 f1 a55 a57) H := hP
          have hD : va_D A (wL_edited cA b0 b1 b7 b8 n0 f0 f1 a55 a57) := hD
          refine lv_iinc (v := (x11 + 1)) (lv' := [(11, .int (x11 + 1)), (0, .ref (b0)), (1, .ref (b1)), (7, .ref (b7)), (8, .ref (b8)), (9, .int x9), (10, .int x10)]) hx hb dL_edited_399 hl (k := 6) rfl rfl (by decide) rfl (fun ls hl => ?_)
          refine lv_goto (tgt := 362) hx hb dL_edited_402 (by decide) ?_
          exact ih362 x9 x10 (x11 + 1) f0 f1 a55 a57 w_115 w_123 w_219 w_227 z52 _ _ _ (lv_sub hl [1, 2, 3, 4, 5, 6, 0] rfl) hP hD hS h hk362
    obtain ⟨z58, ez58, h⟩ := e_b h
    refine hL362 FU (if x4 < x3 then x4 else x3) (if x3 < x4 then x4 else x3) (if x4 < x3 then x4 else x3) f0 f1 f7 f8 (fun _ => 0) (fun _ => 0) (fun _ => 0) (fun _ => 0) z58 _ _ _ (lv_sub hl [3, 4, 10, 11, 2, 1, 0] rfl) hP hD hS ez58 (fun ls H locs hl hP hD hS => ?_)
    refine lv_goto (tgt := 669) hx hb dL_edited_405 (by decide) ?_
    refine lv_iconst (v := 2) hx hb dL_edited_669 (by decide) ?_
    refine xa_newA hx hb hown (hts (.classLink RL 138 "[I") (by decide +kernel)) hO hK hP hD hS hA (Nat.le_of_ble_eq_true rfl) (show (n0 + n0) + 2 ≤ 600 by omega) dL_edited_670 (fun q670 H hP hD hS => ?_)
    have hP : va_P D vwCl (wL_edited cA b0 b1 b7 b8 n0 f0 f1 z58.1 z58.2 ++ [(q670, .inl (cA 5, 2, .inr (.inr (.inr (.inr (fun _ => none))))))]) H := hP
    have hD : va_D A (wL_edited cA b0 b1 b7 b8 n0 f0 f1 z58.1 z58.2 ++ [(q670, .inl (cA 5, 2, .inr (.inr (.inr (.inr (fun _ => none))))))]) := hD
    refine lv_dup hx hb dL_edited_673 rfl ?_
    refine lv_iconst (v := 0) hx hb dL_edited_674 (by decide) ?_
    refine lv_aload hx hb dL_edited_675 (lv_at hl 0 rfl) ?_
    refine xa_astA hx hb hO hK hP hD hS 4 2 rfl rfl (i := 0) (show ¬ _ by decide) dL_edited_677 (fun H locs hP hD hS => ?_)
    have hP : va_P D vwCl (wL_edited cA b0 b1 b7 b8 n0 f0 f1 z58.1 z58.2 ++ [(q670, .inl (cA 5, 2, .inr (.inr (.inr (.inr (va_up (fun _ => none) 0 (some b7)))))))]) H := hP
    have hD : va_D A (wL_edited cA b0 b1 b7 b8 n0 f0 f1 z58.1 z58.2 ++ [(q670, .inl (cA 5, 2, .inr (.inr (.inr (.inr (va_up (fun _ => none) 0 (some b7)))))))]) := hD
    refine lv_dup hx hb dL_edited_678 rfl ?_
    refine lv_iconst (v := 1) hx hb dL_edited_679 (by decide) ?_
    refine lv_aload hx hb dL_edited_680 (lv_at hl 1 rfl) ?_
    refine xa_astA hx hb hO hK hP hD hS 4 3 rfl rfl (i := 1) (show ¬ _ by decide) dL_edited_682 (fun H locs hP hD hS => ?_)
    have hP : va_P D vwCl (wL_edited cA b0 b1 b7 b8 n0 f0 f1 z58.1 z58.2 ++ [(q670, .inl (cA 5, 2, .inr (.inr (.inr (.inr (va_up (va_up (fun _ => none) 0 (some b7)) 1 (some b8)))))))]) H := hP
    have hD : va_D A (wL_edited cA b0 b1 b7 b8 n0 f0 f1 z58.1 z58.2 ++ [(q670, .inl (cA 5, 2, .inr (.inr (.inr (.inr (va_up (va_up (fun _ => none) 0 (some b7)) 1 (some b8)))))))]) := hD
    obtain rfl := e_s h
    have hP := w_rowsA (q0 := 4) hP rfl (g := fun k => some (adL [q670, b7, b8] (1 + k))) (by intro j hj; rcases (show j = 0 ∨ j = 1 by omega) with rfl | rfl <;> rfl)
    have hD := va_D_fst (A := A) (W := (wL_edited cA b0 b1 b7 b8 n0 f0 f1 z58.1 z58.2 ++ [(q670, .inl (cA 5, 2, .inr (.inr (.inr (.inr (va_up (va_up (fun _ => none) 0 (some b7)) 1 (some b8)))))))])) (W' := ((wL_edited cA b0 b1 b7 b8 n0 f0 f1 z58.1 z58.2 ++ [(q670, .inl (cA 5, 2, .inr (.inr (.inr (.inr (va_up (va_up (fun _ => none) 0 (some b7)) 1 (some b8)))))))]) : va_W).set 4 (q670, .inl (cA 5, 2, .inr (.inr (.inr (.inr (fun k => some (adL [q670, b7, b8] (1 + k))))))))) rfl hD
    refine W.widen (k := 5) (n := 600) (by omega) (by omega) ?_
    exact hret q670 b7 b8 (hP.sub [0, 1, 4, 2, 3] rfl) (hD.sub [0, 1, 4, 2, 3] (by decide +kernel) rfl) hS dL_edited_683
  have h := e_f c59 h
  by_cases c71 : x2 = 7
  · have h := e_t c71 h
    refine lv_tableIn (off := 369) (tgt := 408) hx hb dL_edited_39 (by rw [c71]; decide) (by rw [c71]; decide) (by rw [c71]; rfl) (by decide) ?_
    refine lv_iload hx hb dL_edited_408 (lv_at hl 1 rfl) ?_
    refine lv_istore (lv' := [(11, .int (if x4 < x3 then x4 else x3)), (10, .int (if x3 < x4 then x4 else x3)), (9, .int (if x4 < x3 then x4 else x3)), (0, .ref (b0)), (1, .ref (b1)), (2, .int x2), (3, .int x3), (4, .int x4), (5, .int x5), (6, .int x6), (7, .ref (b7)), (8, .ref (b8))]) hx hb dL_edited_410 hl (by decide) rfl (fun ls hl => ?_)
    have hL412 : ∀ (n : Nat) (x5 : Int32) (x9 : Int32) (x10 : Int32) (x11 : Int32) (f0 : Nat → Int32) (f1 : Nat → Int32) (f7 : Nat → Int32) (f8 : Nat → Int32) (w_115 : Nat → Int32) (w_123 : Nat → Int32) (w_219 : Nat → Int32) (w_227 : Nat → Int32) (z60 : (Nat → Int32) × (Nat → Int32)) (ls : Array Slot) (H : Heap) (locs : List Loc), lv_has ls 14 [(0, .ref (b0)), (1, .ref (b1)), (5, .int x5), (7, .ref (b7)), (8, .ref (b8)), (9, .int x9), (10, .int x10), (11, .int x11)] → va_P D vwCl (wL_edited cA b0 b1 b7 b8 n0 f0 f1 f7 f8) H → va_D A (wL_edited cA b0 b1 b7 b8 n0 f0 f1 f7 f8) → va_S A s.heap H locs → mL_edited_L412 n0 f0 f1 x5 x9 x10 n x11 f7 f8 = some z60 → (∀ (ls : Array Slot) (H : Heap) (locs : List Loc), lv_has ls 14 [(7, .ref (b7)), (8, .ref (b8))] → va_P D vwCl (wL_edited cA b0 b1 b7 b8 n0 f0 f1 z60.1 z60.2) H → va_D A (wL_edited cA b0 b1 b7 b8 n0 f0 f1 z60.1 z60.2) → va_S A s.heap H locs → W p l e (headSpec wsL_edited { frames := 1, cells := 5, slots := 600, locals := 24 }).room s m args below meth c H locs 2 (n0 + n0) Q (F0 m 493 ls [])) → W p l e (headSpec wsL_edited { frames := 1, cells := 5, slots := 600, locals := 24 }).room s m args below meth c H locs 2 (n0 + n0) Q (F0 m 412 ls []) := by
      intro n
      induction n with
      | zero => intro x5 x9 x10 x11 f0 f1 f7 f8 w_115 w_123 w_219 w_227 z60 ls H locs hl hP hD hS h hk412; exact e_n h
      | succ n ih412 =>
        intro x5 x9 x10 x11 f0 f1 f7 f8 w_115 w_123 w_219 w_227 z60 ls H locs hl hP hD hS h hk412
        rw [mL_edited_L412.eq_2] at h
        refine lv_iload hx hb dL_edited_412 (lv_at hl 7 rfl) ?_
        refine lv_iload hx hb dL_edited_414 (lv_at hl 6 rfl) ?_
        refine lv_icmp_gt (tgt := 493) hx hb dL_edited_416 (by decide) (fun c61 => ?_) (fun c61 => ?_)
        · have h := e_t c61 h
          obtain rfl := e_s h
          exact hk412 _ _ _ (lv_sub hl [3, 4] rfl) hP hD hS
        · have h := e_f c61 h
          refine lv_aload hx hb dL_edited_419 (lv_at hl 3 rfl) ?_
          refine lv_iload hx hb dL_edited_421 (lv_at hl 5 rfl) ?_
          refine lv_iload hx hb dL_edited_423 (lv_at hl 7 rfl) ?_
          refine lv_iload hx hb dL_edited_425 (lv_at hl 5 rfl) ?_
          refine lv_isub hx hb dL_edited_427 ?_
          refine lv_iload hx hb dL_edited_428 (lv_at hl 2 rfl) ?_
          refine lv_iload hx hb dL_edited_430 (lv_at hl 6 rfl) ?_
          refine lv_iload hx hb dL_edited_432 (lv_at hl 5 rfl) ?_
          refine lv_isub hx hb dL_edited_434 ?_
          refine lv_iconst (v := 2) hx hb dL_edited_435 (by decide) ?_
          refine lv_iadd hx hb dL_edited_436 ?_
          obtain ⟨v62, ev62, nv62, h⟩ := e_rm h
          refine xa_irem hx hb dL_edited_437 nv62 ev62 ?_
          refine lv_iadd hx hb dL_edited_438 ?_
          refine lv_iload hx hb dL_edited_439 (lv_at hl 6 rfl) ?_
          refine lv_iload hx hb dL_edited_441 (lv_at hl 5 rfl) ?_
          refine lv_isub hx hb dL_edited_443 ?_
          refine lv_iconst (v := 1) hx hb dL_edited_444 (by decide) ?_
          refine lv_iadd hx hb dL_edited_445 ?_
          obtain ⟨v63, ev63, nv63, h⟩ := e_rm h
          refine xa_irem hx hb dL_edited_446 nv63 ev63 ?_
          refine lv_iadd hx hb dL_edited_447 ?_
          refine lv_aload_n hx hb dL_edited_448 rfl (lv_at hl 0 rfl) ?_
          refine lv_iload hx hb dL_edited_449 (lv_at hl 7 rfl) ?_
          obtain ⟨v64, ev64, nv64, h⟩ := e_rd h
          refine xa_iald hx hb hK hP 0 rfl nv64 ev64 dL_edited_451 ?_
          obtain ⟨a65, ea65, na65, h⟩ := e_wr h
          refine xa_iast hx hb hK hP hD hS 2 rfl na65 ea65 dL_edited_452 (fun H locs hP hD hS => ?_)
          have hP : va_P D vwCl (wL_edited cA b0 b1 b7 b8 n0 f0 f1 a65 f8) H := hP
          have hD : va_D A (wL_edited cA b0 b1 b7 b8 n0 f0 f1 a65 f8) := hD
          refine lv_aload hx hb dL_edited_453 (lv_at hl 4 rfl) ?_
          refine lv_iload hx hb dL_edited_455 (lv_at hl 5 rfl) ?_
          refine lv_iload hx hb dL_edited_457 (lv_at hl 7 rfl) ?_
          refine lv_iload hx hb dL_edited_459 (lv_at hl 5 rfl) ?_
          refine lv_isub hx hb dL_edited_461 ?_
          refine lv_iload hx hb dL_edited_462 (lv_at hl 2 rfl) ?_
          refine lv_iload hx hb dL_edited_464 (lv_at hl 6 rfl) ?_
          refine lv_iload hx hb dL_edited_466 (lv_at hl 5 rfl) ?_
          refine lv_isub hx hb dL_edited_468 ?_
          refine lv_iconst (v := 2) hx hb dL_edited_469 (by decide) ?_
          refine lv_iadd hx hb dL_edited_470 ?_
          obtain ⟨v66, ev66, nv66, h⟩ := e_rm h
          refine xa_irem hx hb dL_edited_471 nv66 ev66 ?_
          refine lv_iadd hx hb dL_edited_472 ?_
          refine lv_iload hx hb dL_edited_473 (lv_at hl 6 rfl) ?_
          refine lv_iload hx hb dL_edited_475 (lv_at hl 5 rfl) ?_
          refine lv_isub hx hb dL_edited_477 ?_
          refine lv_iconst (v := 1) hx hb dL_edited_478 (by decide) ?_
          refine lv_iadd hx hb dL_edited_479 ?_
          obtain ⟨v67, ev67, nv67, h⟩ := e_rm h
          refine xa_irem hx hb dL_edited_480 nv67 ev67 ?_
          refine lv_iadd hx hb dL_edited_481 ?_
          refine lv_aload_n hx hb dL_edited_482 rfl (lv_at hl 1 rfl) ?_
          refine lv_iload hx hb dL_edited_483 (lv_at hl 7 rfl) ?_
          obtain ⟨v68, ev68, nv68, h⟩ := e_rd h
          refine xa_iald hx hb hK hP 1 rfl nv68 ev68 dL_edited_485 ?_
          obtain ⟨a69, ea69, na69, h⟩ := e_wr h
          refine xa_iast hx hb hK hP hD hS 3 rfl na69 ea69 dL_edited_486 (fun H locs hP hD hS => ?_)
          have hP : va_P D vwCl (wL_edited cA b0 b1 b7 b8 n0 f0 f1 a65 a69) H := hP
          have hD : va_D A (wL_edited cA b0 b1 b7 b8 n0 f0 f1 a65 a69) := hD
          refine lv_iinc (v := (x11 + 1)) (lv' := [(11, .int (x11 + 1)), (0, .ref (b0)), (1, .ref (b1)), (5, .int x5), (7, .ref (b7)), (8, .ref (b8)), (9, .int x9), (10, .int x10)]) hx hb dL_edited_487 hl (k := 7) rfl rfl (by decide) rfl (fun ls hl => ?_)
          refine lv_goto (tgt := 412) hx hb dL_edited_490 (by decide) ?_
          exact ih412 x5 x9 x10 (x11 + 1) f0 f1 a65 a69 w_115 w_123 w_219 w_227 z60 _ _ _ (lv_sub hl [1, 2, 3, 4, 5, 6, 7, 0] rfl) hP hD hS h hk412
    obtain ⟨z70, ez70, h⟩ := e_b h
    refine hL412 FU x5 (if x4 < x3 then x4 else x3) (if x3 < x4 then x4 else x3) (if x4 < x3 then x4 else x3) f0 f1 f7 f8 (fun _ => 0) (fun _ => 0) (fun _ => 0) (fun _ => 0) z70 _ _ _ (lv_sub hl [3, 4, 8, 10, 11, 2, 1, 0] rfl) hP hD hS ez70 (fun ls H locs hl hP hD hS => ?_)
    refine lv_goto (tgt := 669) hx hb dL_edited_493 (by decide) ?_
    refine lv_iconst (v := 2) hx hb dL_edited_669 (by decide) ?_
    refine xa_newA hx hb hown (hts (.classLink RL 138 "[I") (by decide +kernel)) hO hK hP hD hS hA (Nat.le_of_ble_eq_true rfl) (show (n0 + n0) + 2 ≤ 600 by omega) dL_edited_670 (fun q670 H hP hD hS => ?_)
    have hP : va_P D vwCl (wL_edited cA b0 b1 b7 b8 n0 f0 f1 z70.1 z70.2 ++ [(q670, .inl (cA 5, 2, .inr (.inr (.inr (.inr (fun _ => none))))))]) H := hP
    have hD : va_D A (wL_edited cA b0 b1 b7 b8 n0 f0 f1 z70.1 z70.2 ++ [(q670, .inl (cA 5, 2, .inr (.inr (.inr (.inr (fun _ => none))))))]) := hD
    refine lv_dup hx hb dL_edited_673 rfl ?_
    refine lv_iconst (v := 0) hx hb dL_edited_674 (by decide) ?_
    refine lv_aload hx hb dL_edited_675 (lv_at hl 0 rfl) ?_
    refine xa_astA hx hb hO hK hP hD hS 4 2 rfl rfl (i := 0) (show ¬ _ by decide) dL_edited_677 (fun H locs hP hD hS => ?_)
    have hP : va_P D vwCl (wL_edited cA b0 b1 b7 b8 n0 f0 f1 z70.1 z70.2 ++ [(q670, .inl (cA 5, 2, .inr (.inr (.inr (.inr (va_up (fun _ => none) 0 (some b7)))))))]) H := hP
    have hD : va_D A (wL_edited cA b0 b1 b7 b8 n0 f0 f1 z70.1 z70.2 ++ [(q670, .inl (cA 5, 2, .inr (.inr (.inr (.inr (va_up (fun _ => none) 0 (some b7)))))))]) := hD
    refine lv_dup hx hb dL_edited_678 rfl ?_
    refine lv_iconst (v := 1) hx hb dL_edited_679 (by decide) ?_
    refine lv_aload hx hb dL_edited_680 (lv_at hl 1 rfl) ?_
    refine xa_astA hx hb hO hK hP hD hS 4 3 rfl rfl (i := 1) (show ¬ _ by decide) dL_edited_682 (fun H locs hP hD hS => ?_)
    have hP : va_P D vwCl (wL_edited cA b0 b1 b7 b8 n0 f0 f1 z70.1 z70.2 ++ [(q670, .inl (cA 5, 2, .inr (.inr (.inr (.inr (va_up (va_up (fun _ => none) 0 (some b7)) 1 (some b8)))))))]) H := hP
    have hD : va_D A (wL_edited cA b0 b1 b7 b8 n0 f0 f1 z70.1 z70.2 ++ [(q670, .inl (cA 5, 2, .inr (.inr (.inr (.inr (va_up (va_up (fun _ => none) 0 (some b7)) 1 (some b8)))))))]) := hD
    obtain rfl := e_s h
    have hP := w_rowsA (q0 := 4) hP rfl (g := fun k => some (adL [q670, b7, b8] (1 + k))) (by intro j hj; rcases (show j = 0 ∨ j = 1 by omega) with rfl | rfl <;> rfl)
    have hD := va_D_fst (A := A) (W := (wL_edited cA b0 b1 b7 b8 n0 f0 f1 z70.1 z70.2 ++ [(q670, .inl (cA 5, 2, .inr (.inr (.inr (.inr (va_up (va_up (fun _ => none) 0 (some b7)) 1 (some b8)))))))])) (W' := ((wL_edited cA b0 b1 b7 b8 n0 f0 f1 z70.1 z70.2 ++ [(q670, .inl (cA 5, 2, .inr (.inr (.inr (.inr (va_up (va_up (fun _ => none) 0 (some b7)) 1 (some b8)))))))]) : va_W).set 4 (q670, .inl (cA 5, 2, .inr (.inr (.inr (.inr (fun k => some (adL [q670, b7, b8] (1 + k))))))))) rfl hD
    refine W.widen (k := 5) (n := 600) (by omega) (by omega) ?_
    exact hret q670 b7 b8 (hP.sub [0, 1, 4, 2, 3] rfl) (hD.sub [0, 1, 4, 2, 3] (by decide +kernel) rfl) hS dL_edited_683
  have h := e_f c71 h
  by_cases c81 : x2 = 8
  · have h := e_t c81 h
    refine lv_tableIn (off := 457) (tgt := 496) hx hb dL_edited_39 (by rw [c81]; decide) (by rw [c81]; decide) (by rw [c81]; rfl) (by decide) ?_
    refine lv_iconst (v := 0) hx hb dL_edited_496 (by decide) ?_
    refine lv_istore (lv' := [(11, .int 0), (10, .int (if x3 < x4 then x4 else x3)), (9, .int (if x4 < x3 then x4 else x3)), (0, .ref (b0)), (1, .ref (b1)), (2, .int x2), (3, .int x3), (4, .int x4), (5, .int x5), (6, .int x6), (7, .ref (b7)), (8, .ref (b8))]) hx hb dL_edited_497 hl (by decide) rfl (fun ls hl => ?_)
    have hL499 : ∀ (n : Nat) (x3 : Int32) (x5 : Int32) (x6 : Int32) (x11 : Int32) (f0 : Nat → Int32) (f1 : Nat → Int32) (f7 : Nat → Int32) (f8 : Nat → Int32) (w_115 : Nat → Int32) (w_123 : Nat → Int32) (w_219 : Nat → Int32) (w_227 : Nat → Int32) (z72 : (Nat → Int32)) (ls : Array Slot) (H : Heap) (locs : List Loc), lv_has ls 14 [(0, .ref (b0)), (3, .int x3), (5, .int x5), (6, .int x6), (7, .ref (b7)), (8, .ref (b8)), (11, .int x11)] → va_P D vwCl (wL_edited cA b0 b1 b7 b8 n0 f0 f1 f7 f8) H → va_D A (wL_edited cA b0 b1 b7 b8 n0 f0 f1 f7 f8) → va_S A s.heap H locs → mL_edited_L499 n0 f0 x3 x5 x6 n x11 f7 = some z72 → (∀ (ls : Array Slot) (H : Heap) (locs : List Loc), lv_has ls 14 [(7, .ref (b7)), (8, .ref (b8))] → va_P D vwCl (wL_edited cA b0 b1 b7 b8 n0 f0 f1 z72 f8) H → va_D A (wL_edited cA b0 b1 b7 b8 n0 f0 f1 z72 f8) → va_S A s.heap H locs → W p l e (headSpec wsL_edited { frames := 1, cells := 5, slots := 600, locals := 24 }).room s m args below meth c H locs 2 (n0 + n0) Q (F0 m 536 ls [])) → W p l e (headSpec wsL_edited { frames := 1, cells := 5, slots := 600, locals := 24 }).room s m args below meth c H locs 2 (n0 + n0) Q (F0 m 499 ls []) := by
      intro n
      induction n with
      | zero => intro x3 x5 x6 x11 f0 f1 f7 f8 w_115 w_123 w_219 w_227 z72 ls H locs hl hP hD hS h hk499; exact e_n h
      | succ n ih499 =>
        intro x3 x5 x6 x11 f0 f1 f7 f8 w_115 w_123 w_219 w_227 z72 ls H locs hl hP hD hS h hk499
        rw [mL_edited_L499.eq_2] at h
        refine lv_iload hx hb dL_edited_499 (lv_at hl 6 rfl) ?_
        refine lv_iload hx hb dL_edited_501 (lv_at hl 3 rfl) ?_
        refine lv_icmp_ge (tgt := 536) hx hb dL_edited_503 (by decide) (fun c73 => ?_) (fun c73 => ?_)
        · have h := e_t c73 h
          obtain rfl := e_s h
          exact hk499 _ _ _ (lv_sub hl [4, 5] rfl) hP hD hS
        · have h := e_f c73 h
          refine lv_aload hx hb dL_edited_506 (lv_at hl 4 rfl) ?_
          refine lv_iload hx hb dL_edited_508 (lv_at hl 6 rfl) ?_
          refine lv_aload_n hx hb dL_edited_510 rfl (lv_at hl 0 rfl) ?_
          refine lv_iload hx hb dL_edited_511 (lv_at hl 6 rfl) ?_
          obtain ⟨v74, ev74, nv74, h⟩ := e_rd h
          refine xa_iald hx hb hK hP 0 rfl nv74 ev74 dL_edited_513 ?_
          refine lv_aload_n hx hb dL_edited_514 rfl (lv_at hl 0 rfl) ?_
          refine lv_iload_n hx hb dL_edited_515 rfl (lv_at hl 1 rfl) ?_
          obtain ⟨v75, ev75, nv75, h⟩ := e_rd h
          refine xa_iald hx hb hK hP 0 rfl nv75 ev75 dL_edited_516 ?_
          refine lv_icmp_ne (tgt := 525) hx hb dL_edited_517 (by decide) (fun c76 => ?_) (fun c76 => ?_)
          · have h := e_t c76 h
            refine lv_aload_n hx hb dL_edited_525 rfl (lv_at hl 0 rfl) ?_
            refine lv_iload hx hb dL_edited_526 (lv_at hl 6 rfl) ?_
            obtain ⟨v77, ev77, nv77, h⟩ := e_rd h
            refine xa_iald hx hb hK hP 0 rfl nv77 ev77 dL_edited_528 ?_
            obtain ⟨a78, ea78, na78, h⟩ := e_wr h
            refine xa_iast hx hb hK hP hD hS 2 rfl na78 ea78 dL_edited_529 (fun H locs hP hD hS => ?_)
            have hP : va_P D vwCl (wL_edited cA b0 b1 b7 b8 n0 f0 f1 a78 f8) H := hP
            have hD : va_D A (wL_edited cA b0 b1 b7 b8 n0 f0 f1 a78 f8) := hD
            refine lv_iinc (v := (x11 + 1)) (lv' := [(11, .int (x11 + 1)), (0, .ref (b0)), (3, .int x3), (5, .int x5), (6, .int x6), (7, .ref (b7)), (8, .ref (b8))]) hx hb dL_edited_530 hl (k := 6) rfl rfl (by decide) rfl (fun ls hl => ?_)
            refine lv_goto (tgt := 499) hx hb dL_edited_533 (by decide) ?_
            exact ih499 x3 x5 x6 (x11 + 1) f0 f1 a78 f8 w_115 w_123 w_219 w_227 z72 _ _ _ (lv_sub hl [1, 2, 3, 4, 5, 6, 0] rfl) hP hD hS h hk499
          · have h := e_f (not_not_intro c76) h
            refine lv_iload hx hb dL_edited_520 (lv_at hl 2 rfl) ?_
            refine lv_goto (tgt := 529) hx hb dL_edited_522 (by decide) ?_
            obtain ⟨a79, ea79, na79, h⟩ := e_wr h
            refine xa_iast hx hb hK hP hD hS 2 rfl na79 ea79 dL_edited_529 (fun H locs hP hD hS => ?_)
            have hP : va_P D vwCl (wL_edited cA b0 b1 b7 b8 n0 f0 f1 a79 f8) H := hP
            have hD : va_D A (wL_edited cA b0 b1 b7 b8 n0 f0 f1 a79 f8) := hD
            refine lv_iinc (v := (x11 + 1)) (lv' := [(11, .int (x11 + 1)), (0, .ref (b0)), (3, .int x3), (5, .int x5), (6, .int x6), (7, .ref (b7)), (8, .ref (b8))]) hx hb dL_edited_530 hl (k := 6) rfl rfl (by decide) rfl (fun ls hl => ?_)
            refine lv_goto (tgt := 499) hx hb dL_edited_533 (by decide) ?_
            exact ih499 x3 x5 x6 (x11 + 1) f0 f1 a79 f8 w_115 w_123 w_219 w_227 z72 _ _ _ (lv_sub hl [1, 2, 3, 4, 5, 6, 0] rfl) hP hD hS h hk499
    obtain ⟨z80, ez80, h⟩ := e_b h
    refine hL499 FU x3 x5 x6 0 f0 f1 f7 f8 (fun _ => 0) (fun _ => 0) (fun _ => 0) (fun _ => 0) z80 _ _ _ (lv_sub hl [3, 6, 8, 9, 10, 11, 0] rfl) hP hD hS ez80 (fun ls H locs hl hP hD hS => ?_)
    refine lv_goto (tgt := 669) hx hb dL_edited_536 (by decide) ?_
    refine lv_iconst (v := 2) hx hb dL_edited_669 (by decide) ?_
    refine xa_newA hx hb hown (hts (.classLink RL 138 "[I") (by decide +kernel)) hO hK hP hD hS hA (Nat.le_of_ble_eq_true rfl) (show (n0 + n0) + 2 ≤ 600 by omega) dL_edited_670 (fun q670 H hP hD hS => ?_)
    have hP : va_P D vwCl (wL_edited cA b0 b1 b7 b8 n0 f0 f1 z80 f8 ++ [(q670, .inl (cA 5, 2, .inr (.inr (.inr (.inr (fun _ => none))))))]) H := hP
    have hD : va_D A (wL_edited cA b0 b1 b7 b8 n0 f0 f1 z80 f8 ++ [(q670, .inl (cA 5, 2, .inr (.inr (.inr (.inr (fun _ => none))))))]) := hD
    refine lv_dup hx hb dL_edited_673 rfl ?_
    refine lv_iconst (v := 0) hx hb dL_edited_674 (by decide) ?_
    refine lv_aload hx hb dL_edited_675 (lv_at hl 0 rfl) ?_
    refine xa_astA hx hb hO hK hP hD hS 4 2 rfl rfl (i := 0) (show ¬ _ by decide) dL_edited_677 (fun H locs hP hD hS => ?_)
    have hP : va_P D vwCl (wL_edited cA b0 b1 b7 b8 n0 f0 f1 z80 f8 ++ [(q670, .inl (cA 5, 2, .inr (.inr (.inr (.inr (va_up (fun _ => none) 0 (some b7)))))))]) H := hP
    have hD : va_D A (wL_edited cA b0 b1 b7 b8 n0 f0 f1 z80 f8 ++ [(q670, .inl (cA 5, 2, .inr (.inr (.inr (.inr (va_up (fun _ => none) 0 (some b7)))))))]) := hD
    refine lv_dup hx hb dL_edited_678 rfl ?_
    refine lv_iconst (v := 1) hx hb dL_edited_679 (by decide) ?_
    refine lv_aload hx hb dL_edited_680 (lv_at hl 1 rfl) ?_
    refine xa_astA hx hb hO hK hP hD hS 4 3 rfl rfl (i := 1) (show ¬ _ by decide) dL_edited_682 (fun H locs hP hD hS => ?_)
    have hP : va_P D vwCl (wL_edited cA b0 b1 b7 b8 n0 f0 f1 z80 f8 ++ [(q670, .inl (cA 5, 2, .inr (.inr (.inr (.inr (va_up (va_up (fun _ => none) 0 (some b7)) 1 (some b8)))))))]) H := hP
    have hD : va_D A (wL_edited cA b0 b1 b7 b8 n0 f0 f1 z80 f8 ++ [(q670, .inl (cA 5, 2, .inr (.inr (.inr (.inr (va_up (va_up (fun _ => none) 0 (some b7)) 1 (some b8)))))))]) := hD
    obtain rfl := e_s h
    have hP := w_rowsA (q0 := 4) hP rfl (g := fun k => some (adL [q670, b7, b8] (1 + k))) (by intro j hj; rcases (show j = 0 ∨ j = 1 by omega) with rfl | rfl <;> rfl)
    have hD := va_D_fst (A := A) (W := (wL_edited cA b0 b1 b7 b8 n0 f0 f1 z80 f8 ++ [(q670, .inl (cA 5, 2, .inr (.inr (.inr (.inr (va_up (va_up (fun _ => none) 0 (some b7)) 1 (some b8)))))))])) (W' := ((wL_edited cA b0 b1 b7 b8 n0 f0 f1 z80 f8 ++ [(q670, .inl (cA 5, 2, .inr (.inr (.inr (.inr (va_up (va_up (fun _ => none) 0 (some b7)) 1 (some b8)))))))]) : va_W).set 4 (q670, .inl (cA 5, 2, .inr (.inr (.inr (.inr (fun k => some (adL [q670, b7, b8] (1 + k))))))))) rfl hD
    refine W.widen (k := 5) (n := 600) (by omega) (by omega) ?_
    exact hret q670 b7 b8 (hP.sub [0, 1, 4, 2, 3] rfl) (hD.sub [0, 1, 4, 2, 3] (by decide +kernel) rfl) hS dL_edited_683
  have h := e_f c81 h
  refine lv_tableOut (tgt := 539) hx hb dL_edited_39 (sw_out 8 (fun k hk => by match k, hk with | 0, _ => exact c2 | 1, _ => exact c5 | 2, _ => exact c23 | 3, _ => exact c37 | 4, _ => exact c42 | 5, _ => exact c51 | 6, _ => exact c59 | 7, _ => exact c71 | 8, _ => exact c81 | (n + 9), hk => exact absurd hk (by omega)) (by decide)) (by decide) ?_
  refine lv_iload hx hb dL_edited_539 (lv_at hl 1 rfl) ?_
  refine lv_istore (lv' := [(11, .int (if x4 < x3 then x4 else x3)), (10, .int (if x3 < x4 then x4 else x3)), (9, .int (if x4 < x3 then x4 else x3)), (0, .ref (b0)), (1, .ref (b1)), (2, .int x2), (3, .int x3), (4, .int x4), (5, .int x5), (6, .int x6), (7, .ref (b7)), (8, .ref (b8))]) hx hb dL_edited_541 hl (by decide) rfl (fun ls hl => ?_)
  have hL543 : ∀ (n : Nat) (x5 : Int32) (x9 : Int32) (x10 : Int32) (x11 : Int32) (f0 : Nat → Int32) (f1 : Nat → Int32) (f7 : Nat → Int32) (f8 : Nat → Int32) (w_115 : Nat → Int32) (w_123 : Nat → Int32) (w_219 : Nat → Int32) (w_227 : Nat → Int32) (z82 : (Nat → Int32) × (Nat → Int32)) (ls : Array Slot) (H : Heap) (locs : List Loc), lv_has ls 14 [(5, .int x5), (7, .ref (b7)), (8, .ref (b8)), (9, .int x9), (10, .int x10), (11, .int x11)] → va_P D vwCl (wL_edited cA b0 b1 b7 b8 n0 f0 f1 f7 f8) H → va_D A (wL_edited cA b0 b1 b7 b8 n0 f0 f1 f7 f8) → va_S A s.heap H locs → mL_edited_L543 n0 x5 x9 x10 n x11 f7 f8 = some z82 → (∀ (ls : Array Slot) (H : Heap) (locs : List Loc), lv_has ls 14 [(7, .ref (b7)), (8, .ref (b8))] → va_P D vwCl (wL_edited cA b0 b1 b7 b8 n0 f0 f1 z82.1 z82.2) H → va_D A (wL_edited cA b0 b1 b7 b8 n0 f0 f1 z82.1 z82.2) → va_S A s.heap H locs → W p l e (headSpec wsL_edited { frames := 1, cells := 5, slots := 600, locals := 24 }).room s m args below meth c H locs 2 (n0 + n0) Q (F0 m 669 ls [])) → W p l e (headSpec wsL_edited { frames := 1, cells := 5, slots := 600, locals := 24 }).room s m args below meth c H locs 2 (n0 + n0) Q (F0 m 543 ls []) := by
    intro n
    induction n with
    | zero => intro x5 x9 x10 x11 f0 f1 f7 f8 w_115 w_123 w_219 w_227 z82 ls H locs hl hP hD hS h hk543; exact e_n h
    | succ n ih543 =>
      intro x5 x9 x10 x11 f0 f1 f7 f8 w_115 w_123 w_219 w_227 z82 ls H locs hl hP hD hS h hk543
      rw [mL_edited_L543.eq_2] at h
      refine lv_iload hx hb dL_edited_543 (lv_at hl 5 rfl) ?_
      refine lv_iload hx hb dL_edited_545 (lv_at hl 4 rfl) ?_
      refine lv_icmp_gt (tgt := 669) hx hb dL_edited_547 (by decide) (fun c83 => ?_) (fun c83 => ?_)
      · have h := e_t c83 h
        obtain rfl := e_s h
        exact hk543 _ _ _ (lv_sub hl [1, 2] rfl) hP hD hS
      · have h := e_f c83 h
        refine lv_iload hx hb dL_edited_550 (lv_at hl 5 rfl) ?_
        refine lv_istore (lv' := [(12, .int x11), (5, .int x5), (7, .ref (b7)), (8, .ref (b8)), (9, .int x9), (10, .int x10), (11, .int x11)]) hx hb dL_edited_552 hl (by decide) rfl (fun ls hl => ?_)
        have hL554 : ∀ (n : Nat) (x5 : Int32) (x9 : Int32) (x10 : Int32) (x11 : Int32) (x12 : Int32) (f0 : Nat → Int32) (f1 : Nat → Int32) (f7 : Nat → Int32) (f8 : Nat → Int32) (w_115 : Nat → Int32) (w_123 : Nat → Int32) (w_219 : Nat → Int32) (w_227 : Nat → Int32) (z84 : (Nat → Int32) × (Nat → Int32)) (ls : Array Slot) (H : Heap) (locs : List Loc), lv_has ls 14 [(5, .int x5), (7, .ref (b7)), (8, .ref (b8)), (9, .int x9), (10, .int x10), (11, .int x11), (12, .int x12)] → va_P D vwCl (wL_edited cA b0 b1 b7 b8 n0 f0 f1 f7 f8) H → va_D A (wL_edited cA b0 b1 b7 b8 n0 f0 f1 f7 f8) → va_S A s.heap H locs → mL_edited_L554 n0 x5 x9 n x12 f7 f8 = some z84 → (∀ (ls : Array Slot) (H : Heap) (locs : List Loc), lv_has ls 14 [(5, .int x5), (7, .ref (b7)), (8, .ref (b8)), (9, .int x9), (10, .int x10), (11, .int x11)] → va_P D vwCl (wL_edited cA b0 b1 b7 b8 n0 f0 f1 z84.1 z84.2) H → va_D A (wL_edited cA b0 b1 b7 b8 n0 f0 f1 z84.1 z84.2) → va_S A s.heap H locs → W p l e (headSpec wsL_edited { frames := 1, cells := 5, slots := 600, locals := 24 }).room s m args below meth c H locs 2 (n0 + n0) Q (F0 m 663 ls [])) → W p l e (headSpec wsL_edited { frames := 1, cells := 5, slots := 600, locals := 24 }).room s m args below meth c H locs 2 (n0 + n0) Q (F0 m 554 ls []) := by
          intro n
          induction n with
          | zero => intro x5 x9 x10 x11 x12 f0 f1 f7 f8 w_115 w_123 w_219 w_227 z84 ls H locs hl hP hD hS h hk554; exact e_n h
          | succ n ih554 =>
            intro x5 x9 x10 x11 x12 f0 f1 f7 f8 w_115 w_123 w_219 w_227 z84 ls H locs hl hP hD hS h hk554
            rw [mL_edited_L554.eq_2] at h
            refine lv_iload hx hb dL_edited_554 (lv_at hl 6 rfl) ?_
            refine lv_iload hx hb dL_edited_556 (lv_at hl 3 rfl) ?_
            refine lv_icmp_le (tgt := 663) hx hb dL_edited_558 (by decide) (fun c85 => ?_) (fun c85 => ?_)
            · have h := e_t c85 h
              obtain rfl := e_s h
              exact hk554 _ _ _ (lv_sub hl [0, 1, 2, 3, 4, 5] rfl) hP hD hS
            · have h := e_f c85 h
              refine lv_iload hx hb dL_edited_561 (lv_at hl 0 rfl) ?_
              refine lv_iconst (v := 2) hx hb dL_edited_563 (by decide) ?_
              obtain ⟨v86, ev86, nv86, h⟩ := e_rm h
              refine xa_irem hx hb dL_edited_564 nv86 ev86 ?_
              refine lv_if_ne (tgt := 586) hx hb dL_edited_565 (by decide) (fun c87 => ?_) (fun c87 => ?_)
              · have h := e_t c87 h
                refine lv_aload hx hb dL_edited_586 (lv_at hl 1 rfl) ?_
                refine lv_iload hx hb dL_edited_588 (lv_at hl 6 rfl) ?_
                refine lv_iconst (v := 1) hx hb dL_edited_590 (by decide) ?_
                refine lv_isub hx hb dL_edited_591 ?_
                obtain ⟨v88, ev88, nv88, h⟩ := e_rd h
                refine xa_iald hx hb hK hP 2 rfl nv88 ev88 dL_edited_592 ?_
                refine lv_aload hx hb dL_edited_593 (lv_at hl 1 rfl) ?_
                refine lv_iload hx hb dL_edited_595 (lv_at hl 6 rfl) ?_
                obtain ⟨v89, ev89, nv89, h⟩ := e_rd h
                refine xa_iald hx hb hK hP 2 rfl nv89 ev89 dL_edited_597 ?_
                refine lv_icmp_ge (tgt := 663) hx hb dL_edited_598 (by decide) (fun c90 => ?_) (fun c90 => ?_)
                · have h := e_t c90 h
                  obtain rfl := e_s h
                  exact hk554 _ _ _ (lv_sub hl [0, 1, 2, 3, 4, 5] rfl) hP hD hS
                · have h := e_f c90 h
                  refine lv_aload hx hb dL_edited_601 (lv_at hl 1 rfl) ?_
                  refine lv_iload hx hb dL_edited_603 (lv_at hl 6 rfl) ?_
                  obtain ⟨v91, ev91, nv91, h⟩ := e_rd h
                  refine xa_iald hx hb hK hP 2 rfl nv91 ev91 dL_edited_605 ?_
                  refine lv_istore (lv' := [(13, .int v91), (5, .int x5), (7, .ref (b7)), (8, .ref (b8)), (9, .int x9), (10, .int x10), (11, .int x11), (12, .int x12)]) hx hb dL_edited_606 hl (by decide) rfl (fun ls hl => ?_)
                  refine lv_aload hx hb dL_edited_608 (lv_at hl 2 rfl) ?_
                  refine lv_iload hx hb dL_edited_610 (lv_at hl 7 rfl) ?_
                  refine lv_aload hx hb dL_edited_612 (lv_at hl 2 rfl) ?_
                  refine lv_iload hx hb dL_edited_614 (lv_at hl 7 rfl) ?_
                  refine lv_iconst (v := 1) hx hb dL_edited_616 (by decide) ?_
                  refine lv_isub hx hb dL_edited_617 ?_
                  obtain ⟨v92, ev92, nv92, h⟩ := e_rd h
                  refine xa_iald hx hb hK hP 2 rfl nv92 ev92 dL_edited_618 ?_
                  obtain ⟨a93, ea93, na93, h⟩ := e_wr h
                  refine xa_iast hx hb hK hP hD hS 2 rfl na93 ea93 dL_edited_619 (fun H locs hP hD hS => ?_)
                  have hP : va_P D vwCl (wL_edited cA b0 b1 b7 b8 n0 f0 f1 a93 f8) H := hP
                  have hD : va_D A (wL_edited cA b0 b1 b7 b8 n0 f0 f1 a93 f8) := hD
                  refine lv_aload hx hb dL_edited_620 (lv_at hl 2 rfl) ?_
                  refine lv_iload hx hb dL_edited_622 (lv_at hl 7 rfl) ?_
                  refine lv_iconst (v := 1) hx hb dL_edited_624 (by decide) ?_
                  refine lv_isub hx hb dL_edited_625 ?_
                  refine lv_iload hx hb dL_edited_626 (lv_at hl 0 rfl) ?_
                  obtain ⟨a94, ea94, na94, h⟩ := e_wr h
                  refine xa_iast hx hb hK hP hD hS 2 rfl na94 ea94 dL_edited_628 (fun H locs hP hD hS => ?_)
                  have hP : va_P D vwCl (wL_edited cA b0 b1 b7 b8 n0 f0 f1 a94 f8) H := hP
                  have hD : va_D A (wL_edited cA b0 b1 b7 b8 n0 f0 f1 a94 f8) := hD
                  refine lv_aload hx hb dL_edited_629 (lv_at hl 3 rfl) ?_
                  refine lv_iload hx hb dL_edited_631 (lv_at hl 7 rfl) ?_
                  obtain ⟨v95, ev95, nv95, h⟩ := e_rd h
                  refine xa_iald hx hb hK hP 3 rfl nv95 ev95 dL_edited_633 ?_
                  refine lv_istore (lv' := [(13, .int v95), (5, .int x5), (7, .ref (b7)), (8, .ref (b8)), (9, .int x9), (10, .int x10), (11, .int x11), (12, .int x12)]) hx hb dL_edited_634 hl (by decide) rfl (fun ls hl => ?_)
                  refine lv_aload hx hb dL_edited_636 (lv_at hl 3 rfl) ?_
                  refine lv_iload hx hb dL_edited_638 (lv_at hl 7 rfl) ?_
                  refine lv_aload hx hb dL_edited_640 (lv_at hl 3 rfl) ?_
                  refine lv_iload hx hb dL_edited_642 (lv_at hl 7 rfl) ?_
                  refine lv_iconst (v := 1) hx hb dL_edited_644 (by decide) ?_
                  refine lv_isub hx hb dL_edited_645 ?_
                  obtain ⟨v96, ev96, nv96, h⟩ := e_rd h
                  refine xa_iald hx hb hK hP 3 rfl nv96 ev96 dL_edited_646 ?_
                  obtain ⟨a97, ea97, na97, h⟩ := e_wr h
                  refine xa_iast hx hb hK hP hD hS 3 rfl na97 ea97 dL_edited_647 (fun H locs hP hD hS => ?_)
                  have hP : va_P D vwCl (wL_edited cA b0 b1 b7 b8 n0 f0 f1 a94 a97) H := hP
                  have hD : va_D A (wL_edited cA b0 b1 b7 b8 n0 f0 f1 a94 a97) := hD
                  refine lv_aload hx hb dL_edited_648 (lv_at hl 3 rfl) ?_
                  refine lv_iload hx hb dL_edited_650 (lv_at hl 7 rfl) ?_
                  refine lv_iconst (v := 1) hx hb dL_edited_652 (by decide) ?_
                  refine lv_isub hx hb dL_edited_653 ?_
                  refine lv_iload hx hb dL_edited_654 (lv_at hl 0 rfl) ?_
                  obtain ⟨a98, ea98, na98, h⟩ := e_wr h
                  refine xa_iast hx hb hK hP hD hS 3 rfl na98 ea98 dL_edited_656 (fun H locs hP hD hS => ?_)
                  have hP : va_P D vwCl (wL_edited cA b0 b1 b7 b8 n0 f0 f1 a94 a98) H := hP
                  have hD : va_D A (wL_edited cA b0 b1 b7 b8 n0 f0 f1 a94 a98) := hD
                  refine lv_iinc (v := (x12 + (-1))) (lv' := [(12, .int (x12 + (-1))), (13, .int v95), (5, .int x5), (7, .ref (b7)), (8, .ref (b8)), (9, .int x9), (10, .int x10), (11, .int x11)]) hx hb dL_edited_657 hl (k := 7) rfl rfl (by decide) rfl (fun ls hl => ?_)
                  refine lv_goto (tgt := 554) hx hb dL_edited_660 (by decide) ?_
                  exact ih554 x5 x9 x10 x11 (x12 + (-1)) f0 f1 a94 a98 w_115 w_123 w_219 w_227 z84 _ _ _ (lv_sub hl [2, 3, 4, 5, 6, 7, 0] rfl) hP hD hS h hk554
              · have h := e_f (not_not_intro c87) h
                refine lv_aload hx hb dL_edited_568 (lv_at hl 1 rfl) ?_
                refine lv_iload hx hb dL_edited_570 (lv_at hl 6 rfl) ?_
                refine lv_iconst (v := 1) hx hb dL_edited_572 (by decide) ?_
                refine lv_isub hx hb dL_edited_573 ?_
                obtain ⟨v99, ev99, nv99, h⟩ := e_rd h
                refine xa_iald hx hb hK hP 2 rfl nv99 ev99 dL_edited_574 ?_
                refine lv_aload hx hb dL_edited_575 (lv_at hl 1 rfl) ?_
                refine lv_iload hx hb dL_edited_577 (lv_at hl 6 rfl) ?_
                obtain ⟨v100, ev100, nv100, h⟩ := e_rd h
                refine xa_iald hx hb hK hP 2 rfl nv100 ev100 dL_edited_579 ?_
                refine lv_icmp_le (tgt := 663) hx hb dL_edited_580 (by decide) (fun c101 => ?_) (fun c101 => ?_)
                · have h := e_t c101 h
                  obtain rfl := e_s h
                  exact hk554 _ _ _ (lv_sub hl [0, 1, 2, 3, 4, 5] rfl) hP hD hS
                · have h := e_f c101 h
                  refine lv_goto (tgt := 601) hx hb dL_edited_583 (by decide) ?_
                  refine lv_aload hx hb dL_edited_601 (lv_at hl 1 rfl) ?_
                  refine lv_iload hx hb dL_edited_603 (lv_at hl 6 rfl) ?_
                  obtain ⟨v102, ev102, nv102, h⟩ := e_rd h
                  refine xa_iald hx hb hK hP 2 rfl nv102 ev102 dL_edited_605 ?_
                  refine lv_istore (lv' := [(13, .int v102), (5, .int x5), (7, .ref (b7)), (8, .ref (b8)), (9, .int x9), (10, .int x10), (11, .int x11), (12, .int x12)]) hx hb dL_edited_606 hl (by decide) rfl (fun ls hl => ?_)
                  refine lv_aload hx hb dL_edited_608 (lv_at hl 2 rfl) ?_
                  refine lv_iload hx hb dL_edited_610 (lv_at hl 7 rfl) ?_
                  refine lv_aload hx hb dL_edited_612 (lv_at hl 2 rfl) ?_
                  refine lv_iload hx hb dL_edited_614 (lv_at hl 7 rfl) ?_
                  refine lv_iconst (v := 1) hx hb dL_edited_616 (by decide) ?_
                  refine lv_isub hx hb dL_edited_617 ?_
                  obtain ⟨v103, ev103, nv103, h⟩ := e_rd h
                  refine xa_iald hx hb hK hP 2 rfl nv103 ev103 dL_edited_618 ?_
                  obtain ⟨a104, ea104, na104, h⟩ := e_wr h
                  refine xa_iast hx hb hK hP hD hS 2 rfl na104 ea104 dL_edited_619 (fun H locs hP hD hS => ?_)
                  have hP : va_P D vwCl (wL_edited cA b0 b1 b7 b8 n0 f0 f1 a104 f8) H := hP
                  have hD : va_D A (wL_edited cA b0 b1 b7 b8 n0 f0 f1 a104 f8) := hD
                  refine lv_aload hx hb dL_edited_620 (lv_at hl 2 rfl) ?_
                  refine lv_iload hx hb dL_edited_622 (lv_at hl 7 rfl) ?_
                  refine lv_iconst (v := 1) hx hb dL_edited_624 (by decide) ?_
                  refine lv_isub hx hb dL_edited_625 ?_
                  refine lv_iload hx hb dL_edited_626 (lv_at hl 0 rfl) ?_
                  obtain ⟨a105, ea105, na105, h⟩ := e_wr h
                  refine xa_iast hx hb hK hP hD hS 2 rfl na105 ea105 dL_edited_628 (fun H locs hP hD hS => ?_)
                  have hP : va_P D vwCl (wL_edited cA b0 b1 b7 b8 n0 f0 f1 a105 f8) H := hP
                  have hD : va_D A (wL_edited cA b0 b1 b7 b8 n0 f0 f1 a105 f8) := hD
                  refine lv_aload hx hb dL_edited_629 (lv_at hl 3 rfl) ?_
                  refine lv_iload hx hb dL_edited_631 (lv_at hl 7 rfl) ?_
                  obtain ⟨v106, ev106, nv106, h⟩ := e_rd h
                  refine xa_iald hx hb hK hP 3 rfl nv106 ev106 dL_edited_633 ?_
                  refine lv_istore (lv' := [(13, .int v106), (5, .int x5), (7, .ref (b7)), (8, .ref (b8)), (9, .int x9), (10, .int x10), (11, .int x11), (12, .int x12)]) hx hb dL_edited_634 hl (by decide) rfl (fun ls hl => ?_)
                  refine lv_aload hx hb dL_edited_636 (lv_at hl 3 rfl) ?_
                  refine lv_iload hx hb dL_edited_638 (lv_at hl 7 rfl) ?_
                  refine lv_aload hx hb dL_edited_640 (lv_at hl 3 rfl) ?_
                  refine lv_iload hx hb dL_edited_642 (lv_at hl 7 rfl) ?_
                  refine lv_iconst (v := 1) hx hb dL_edited_644 (by decide) ?_
                  refine lv_isub hx hb dL_edited_645 ?_
                  obtain ⟨v107, ev107, nv107, h⟩ := e_rd h
                  refine xa_iald hx hb hK hP 3 rfl nv107 ev107 dL_edited_646 ?_
                  obtain ⟨a108, ea108, na108, h⟩ := e_wr h
                  refine xa_iast hx hb hK hP hD hS 3 rfl na108 ea108 dL_edited_647 (fun H locs hP hD hS => ?_)
                  have hP : va_P D vwCl (wL_edited cA b0 b1 b7 b8 n0 f0 f1 a105 a108) H := hP
                  have hD : va_D A (wL_edited cA b0 b1 b7 b8 n0 f0 f1 a105 a108) := hD
                  refine lv_aload hx hb dL_edited_648 (lv_at hl 3 rfl) ?_
                  refine lv_iload hx hb dL_edited_650 (lv_at hl 7 rfl) ?_
                  refine lv_iconst (v := 1) hx hb dL_edited_652 (by decide) ?_
                  refine lv_isub hx hb dL_edited_653 ?_
                  refine lv_iload hx hb dL_edited_654 (lv_at hl 0 rfl) ?_
                  obtain ⟨a109, ea109, na109, h⟩ := e_wr h
                  refine xa_iast hx hb hK hP hD hS 3 rfl na109 ea109 dL_edited_656 (fun H locs hP hD hS => ?_)
                  have hP : va_P D vwCl (wL_edited cA b0 b1 b7 b8 n0 f0 f1 a105 a109) H := hP
                  have hD : va_D A (wL_edited cA b0 b1 b7 b8 n0 f0 f1 a105 a109) := hD
                  refine lv_iinc (v := (x12 + (-1))) (lv' := [(12, .int (x12 + (-1))), (13, .int v106), (5, .int x5), (7, .ref (b7)), (8, .ref (b8)), (9, .int x9), (10, .int x10), (11, .int x11)]) hx hb dL_edited_657 hl (k := 7) rfl rfl (by decide) rfl (fun ls hl => ?_)
                  refine lv_goto (tgt := 554) hx hb dL_edited_660 (by decide) ?_
                  exact ih554 x5 x9 x10 x11 (x12 + (-1)) f0 f1 a105 a109 w_115 w_123 w_219 w_227 z84 _ _ _ (lv_sub hl [2, 3, 4, 5, 6, 7, 0] rfl) hP hD hS h hk554
        obtain ⟨z110, ez110, h⟩ := e_b h
        refine hL554 FU x5 x9 x10 x11 x11 f0 f1 f7 f8 w_115 w_123 w_219 w_227 z110 _ _ _ (lv_sub hl [1, 2, 3, 4, 5, 6, 0] rfl) hP hD hS ez110 (fun ls H locs hl hP hD hS => ?_)
        refine lv_iinc (v := (x11 + 1)) (lv' := [(11, .int (x11 + 1)), (5, .int x5), (7, .ref (b7)), (8, .ref (b8)), (9, .int x9), (10, .int x10)]) hx hb dL_edited_663 hl (k := 5) rfl rfl (by decide) rfl (fun ls hl => ?_)
        refine lv_goto (tgt := 543) hx hb dL_edited_666 (by decide) ?_
        exact ih543 x5 x9 x10 (x11 + 1) f0 f1 z110.1 z110.2 w_115 w_123 w_219 w_227 z82 _ _ _ (lv_sub hl [1, 2, 3, 4, 5, 0] rfl) hP hD hS h hk543
  obtain ⟨z111, ez111, h⟩ := e_b h
  refine hL543 FU x5 (if x4 < x3 then x4 else x3) (if x3 < x4 then x4 else x3) (if x4 < x3 then x4 else x3) f0 f1 f7 f8 (fun _ => 0) (fun _ => 0) (fun _ => 0) (fun _ => 0) z111 _ _ _ (lv_sub hl [8, 10, 11, 2, 1, 0] rfl) hP hD hS ez111 (fun ls H locs hl hP hD hS => ?_)
  refine lv_iconst (v := 2) hx hb dL_edited_669 (by decide) ?_
  refine xa_newA hx hb hown (hts (.classLink RL 138 "[I") (by decide +kernel)) hO hK hP hD hS hA (Nat.le_of_ble_eq_true rfl) (show (n0 + n0) + 2 ≤ 600 by omega) dL_edited_670 (fun q670 H hP hD hS => ?_)
  have hP : va_P D vwCl (wL_edited cA b0 b1 b7 b8 n0 f0 f1 z111.1 z111.2 ++ [(q670, .inl (cA 5, 2, .inr (.inr (.inr (.inr (fun _ => none))))))]) H := hP
  have hD : va_D A (wL_edited cA b0 b1 b7 b8 n0 f0 f1 z111.1 z111.2 ++ [(q670, .inl (cA 5, 2, .inr (.inr (.inr (.inr (fun _ => none))))))]) := hD
  refine lv_dup hx hb dL_edited_673 rfl ?_
  refine lv_iconst (v := 0) hx hb dL_edited_674 (by decide) ?_
  refine lv_aload hx hb dL_edited_675 (lv_at hl 0 rfl) ?_
  refine xa_astA hx hb hO hK hP hD hS 4 2 rfl rfl (i := 0) (show ¬ _ by decide) dL_edited_677 (fun H locs hP hD hS => ?_)
  have hP : va_P D vwCl (wL_edited cA b0 b1 b7 b8 n0 f0 f1 z111.1 z111.2 ++ [(q670, .inl (cA 5, 2, .inr (.inr (.inr (.inr (va_up (fun _ => none) 0 (some b7)))))))]) H := hP
  have hD : va_D A (wL_edited cA b0 b1 b7 b8 n0 f0 f1 z111.1 z111.2 ++ [(q670, .inl (cA 5, 2, .inr (.inr (.inr (.inr (va_up (fun _ => none) 0 (some b7)))))))]) := hD
  refine lv_dup hx hb dL_edited_678 rfl ?_
  refine lv_iconst (v := 1) hx hb dL_edited_679 (by decide) ?_
  refine lv_aload hx hb dL_edited_680 (lv_at hl 1 rfl) ?_
  refine xa_astA hx hb hO hK hP hD hS 4 3 rfl rfl (i := 1) (show ¬ _ by decide) dL_edited_682 (fun H locs hP hD hS => ?_)
  have hP : va_P D vwCl (wL_edited cA b0 b1 b7 b8 n0 f0 f1 z111.1 z111.2 ++ [(q670, .inl (cA 5, 2, .inr (.inr (.inr (.inr (va_up (va_up (fun _ => none) 0 (some b7)) 1 (some b8)))))))]) H := hP
  have hD : va_D A (wL_edited cA b0 b1 b7 b8 n0 f0 f1 z111.1 z111.2 ++ [(q670, .inl (cA 5, 2, .inr (.inr (.inr (.inr (va_up (va_up (fun _ => none) 0 (some b7)) 1 (some b8)))))))]) := hD
  obtain rfl := e_s h
  have hP := w_rowsA (q0 := 4) hP rfl (g := fun k => some (adL [q670, b7, b8] (1 + k))) (by intro j hj; rcases (show j = 0 ∨ j = 1 by omega) with rfl | rfl <;> rfl)
  have hD := va_D_fst (A := A) (W := (wL_edited cA b0 b1 b7 b8 n0 f0 f1 z111.1 z111.2 ++ [(q670, .inl (cA 5, 2, .inr (.inr (.inr (.inr (va_up (va_up (fun _ => none) 0 (some b7)) 1 (some b8)))))))])) (W' := ((wL_edited cA b0 b1 b7 b8 n0 f0 f1 z111.1 z111.2 ++ [(q670, .inl (cA 5, 2, .inr (.inr (.inr (.inr (va_up (va_up (fun _ => none) 0 (some b7)) 1 (some b8)))))))]) : va_W).set 4 (q670, .inl (cA 5, 2, .inr (.inr (.inr (.inr (fun k => some (adL [q670, b7, b8] (1 + k))))))))) rfl hD
  refine W.widen (k := 5) (n := 600) (by omega) (by omega) ?_
  exact hret q670 b7 b8 (hP.sub [0, 1, 4, 2, 3] rfl) (hD.sub [0, 1, 4, 2, 3] (by decide +kernel) rfl) hS dL_edited_683

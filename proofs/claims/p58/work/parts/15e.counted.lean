set_option maxHeartbeats 4000000 in
set_option maxRecDepth 100000 in
theorem kL_countedB (l : Launch) (D : va_G) (cA : Nat → ClassId) (b0 : Nat) (ac : Nat → Nat) (n0 : Nat) (f0 : Nat → Int32) (cC : Nat → Nat → Int32) (x1 : Int32) (x2 : Int32) (q : Nat → Nat → Int32) (h : mL_counted n0 f0 cC x1 x2 = some q) {p : Program} {e : Env} {s : State} {m : MethodId} {args : Array Value} {below : List Frame} {meth : Method} {c : Code} {A : Nat → Prop} {ls : Array Slot} {Q : State → Prop} {H : Heap} {locs : List Loc} (hx : p.tables.exec = Jvm.exec) (hb : c.code = cL_counted) (hml : c.maxLocals = 5) (hts : ∀ w ∈ wsL_counted, w.before args s = true) (hown : s.vm.findClass yL_counted.cls = some m.cls) (hK : va_K D vwCl (TY cA) s) (hP : va_P D vwCl (wL_counted cA b0 ac n0 f0 cC) H) (hD : va_D A (wL_counted cA b0 ac n0 f0 cC)) (hA : ∀ q : Nat, s.heap.size ≤ q → A q) (hS : va_S A s.heap H locs) (hl : lv_has ls 5 [(0, .ref (b0)), (1, .int x1), (2, .int x2), (3, .ref (ac 0))]) (hret : ∀ {H : Heap} {locs : List Loc} {ls : Array Slot} {pc : Nat}, va_P D vwCl (wL_counted cA b0 ac n0 f0 q) H → va_D A (wL_counted cA b0 ac n0 f0 q) → va_S A s.heap H locs → decode cL_counted pc = .ok (.areturn, 1) → W p l e (headSpec wsL_counted { frames := 0, cells := 13, slots := 48, locals := 0 }).room s m args below meth c H locs 13 48 Q (F0 m pc ls [.ref (ac 0)])) : W p l e (headSpec wsL_counted { frames := 0, cells := 13, slots := 48, locals := 0 }).room s m args below meth c H locs 13 48 Q (F0 m 8 ls []) := by
  unfold mL_counted at h
  refine lv_iload_n hx hb dL_counted_8 rfl (lv_at hl 1 rfl) ?_
  refine lv_istore (lv' := [(4, .int x1), (0, .ref (b0)), (1, .int x1), (2, .int x2), (3, .ref (ac 0))]) hx hb dL_counted_9 hl (by decide) rfl (fun ls hl => ?_)
  have hL11 : ∀ (n : Nat) (x2 : Int32) (x4 : Int32) (f0 : Nat → Int32) (cC : Nat → Nat → Int32) (z1 : (Nat → Nat → Int32)) (ls : Array Slot) (H : Heap) (locs : List Loc), lv_has ls 5 [(0, .ref (b0)), (2, .int x2), (3, .ref (ac 0)), (4, .int x4)] → va_P D vwCl (wL_counted cA b0 ac n0 f0 cC) H → va_D A (wL_counted cA b0 ac n0 f0 cC) → va_S A s.heap H locs → mL_counted_L11 n0 f0 x2 n x4 cC = some z1 → (∀ (ls : Array Slot) (H : Heap) (locs : List Loc), lv_has ls 5 [(3, .ref (ac 0))] → va_P D vwCl (wL_counted cA b0 ac n0 f0 z1) H → va_D A (wL_counted cA b0 ac n0 f0 z1) → va_S A s.heap H locs → W p l e (headSpec wsL_counted { frames := 0, cells := 13, slots := 48, locals := 0 }).room s m args below meth c H locs 13 48 Q (F0 m 66 ls [])) → W p l e (headSpec wsL_counted { frames := 0, cells := 13, slots := 48, locals := 0 }).room s m args below meth c H locs 13 48 Q (F0 m 11 ls []) := by
    intro n
    induction n with
    | zero => intro x2 x4 f0 cC z1 ls H locs hl hP hD hS h hk11; exact e_n h
    | succ n ih11 =>
      intro x2 x4 f0 cC z1 ls H locs hl hP hD hS h hk11
      rw [mL_counted_L11.eq_2] at h
      refine lv_iload hx hb dL_counted_11 (lv_at hl 3 rfl) ?_
      refine lv_iload_n hx hb dL_counted_13 rfl (lv_at hl 1 rfl) ?_
      refine lv_icmp_gt (tgt := 66) hx hb dL_counted_14 (by decide) (fun c2 => ?_) (fun c2 => ?_)
      · have h := e_t c2 h
        obtain rfl := e_s h
        exact hk11 _ _ _ (lv_sub hl [2] rfl) hP hD hS
      · have h := e_f c2 h
        refine lv_aload_n hx hb dL_counted_17 rfl (lv_at hl 2 rfl) ?_
        refine lv_aload_n hx hb dL_counted_18 rfl (lv_at hl 0 rfl) ?_
        refine lv_iload hx hb dL_counted_19 (lv_at hl 3 rfl) ?_
        obtain ⟨v3, ev3, nv3, h⟩ := e_rd h
        refine xa_iald hx hb hK hP 0 rfl nv3 ev3 dL_counted_21 ?_
        obtain ⟨j4, ej4, nj4, hltj4, h⟩ := e_rx h
        refine xa_aaldA hx hb hK hP 1 rfl nj4 ej4 dL_counted_22 ?_
        refine lv_iconst (v := 0) hx hb dL_counted_23 (by decide) ?_
        obtain ⟨v5, ev5, nv5, h⟩ := e_rd h
        refine xa_iald hx hb hK hP (2 + j4) ((by rcases k12 hltj4 with rfl | rfl | rfl | rfl | rfl | rfl | rfl | rfl | rfl | rfl | rfl | rfl <;> rfl : (wL_counted cA b0 ac n0 f0 cC)[(2 + j4)]? = some (ac (1 + j4), .inl (cA 0, 3, .inl (cC j4))))) nv5 ev5 dL_counted_24 ?_
        obtain ⟨z6, ez6, h⟩ := e_b h
        have hJ7 : ∀ (ls : Array Slot) (H : Heap) (locs : List Loc), lv_has ls 5 [(0, .ref (b0)), (2, .int x2), (3, .ref (ac 0)), (4, .int x4)] → va_P D vwCl (wL_counted cA b0 ac n0 f0 z6) H → va_D A (wL_counted cA b0 ac n0 f0 z6) → va_S A s.heap H locs → W p l e (headSpec wsL_counted { frames := 0, cells := 13, slots := 48, locals := 0 }).room s m args below meth c H locs 13 48 Q (F0 m 38 ls []) := by
          intro ls H locs hl hP hD hS
          refine lv_aload_n hx hb dL_counted_38 rfl (lv_at hl 2 rfl) ?_
          refine lv_aload_n hx hb dL_counted_39 rfl (lv_at hl 0 rfl) ?_
          refine lv_iload hx hb dL_counted_40 (lv_at hl 3 rfl) ?_
          obtain ⟨v8, ev8, nv8, h⟩ := e_rd h
          refine xa_iald hx hb hK hP 0 rfl nv8 ev8 dL_counted_42 ?_
          obtain ⟨j9, ej9, nj9, hltj9, h⟩ := e_rx h
          refine xa_aaldA hx hb hK hP 1 rfl nj9 ej9 dL_counted_43 ?_
          refine lv_iconst (v := 0) hx hb dL_counted_44 (by decide) ?_
          refine lv_dup2_11 hx hb dL_counted_45 rfl rfl ?_
          obtain ⟨v10, ev10, nv10, h⟩ := e_rd h
          refine xa_iald hx hb hK hP (2 + j9) ((by rcases k12 hltj9 with rfl | rfl | rfl | rfl | rfl | rfl | rfl | rfl | rfl | rfl | rfl | rfl <;> rfl : (wL_counted cA b0 ac n0 f0 z6)[(2 + j9)]? = some (ac (1 + j9), .inl (cA 0, 3, .inl (z6 j9))))) nv10 ev10 dL_counted_46 ?_
          refine lv_iconst (v := 1) hx hb dL_counted_47 (by decide) ?_
          refine lv_iadd hx hb dL_counted_48 ?_
          obtain ⟨a11, ea11, na11, h⟩ := e_wr h
          refine xa_iast hx hb hK hP hD hS (2 + j9) ((by rcases k12 hltj9 with rfl | rfl | rfl | rfl | rfl | rfl | rfl | rfl | rfl | rfl | rfl | rfl <;> rfl : (wL_counted cA b0 ac n0 f0 z6)[(2 + j9)]? = some (ac (1 + j9), .inl (cA 0, 3, .inl (z6 j9))))) na11 ea11 dL_counted_49 (fun H locs hP hD hS => ?_)
          have hP : va_P D vwCl (wL_counted cA b0 ac n0 f0 (va_up z6 j9 a11)) H := by rcases k12 hltj9 with rfl | rfl | rfl | rfl | rfl | rfl | rfl | rfl | rfl | rfl | rfl | rfl <;> exact hP
          have hD : va_D A (wL_counted cA b0 ac n0 f0 (va_up z6 j9 a11)) := by rcases k12 hltj9 with rfl | rfl | rfl | rfl | rfl | rfl | rfl | rfl | rfl | rfl | rfl | rfl <;> exact hD
          refine lv_aload_n hx hb dL_counted_50 rfl (lv_at hl 2 rfl) ?_
          refine lv_aload_n hx hb dL_counted_51 rfl (lv_at hl 0 rfl) ?_
          refine lv_iload hx hb dL_counted_52 (lv_at hl 3 rfl) ?_
          obtain ⟨v12, ev12, nv12, h⟩ := e_rd h
          refine xa_iald hx hb hK hP 0 rfl nv12 ev12 dL_counted_54 ?_
          obtain ⟨j13, ej13, nj13, hltj13, h⟩ := e_rx h
          refine xa_aaldA hx hb hK hP 1 rfl nj13 ej13 dL_counted_55 ?_
          refine lv_iconst (v := 2) hx hb dL_counted_56 (by decide) ?_
          refine lv_iload hx hb dL_counted_57 (lv_at hl 3 rfl) ?_
          obtain ⟨a14, ea14, na14, h⟩ := e_wr h
          refine xa_iast hx hb hK hP hD hS (2 + j13) ((by rcases k12 hltj13 with rfl | rfl | rfl | rfl | rfl | rfl | rfl | rfl | rfl | rfl | rfl | rfl <;> rfl : (wL_counted cA b0 ac n0 f0 (va_up z6 j9 a11))[(2 + j13)]? = some (ac (1 + j13), .inl (cA 0, 3, .inl ((va_up z6 j9 a11) j13))))) na14 ea14 dL_counted_59 (fun H locs hP hD hS => ?_)
          have hP : va_P D vwCl (wL_counted cA b0 ac n0 f0 (va_up (va_up z6 j9 a11) j13 a14)) H := by rcases k12 hltj13 with rfl | rfl | rfl | rfl | rfl | rfl | rfl | rfl | rfl | rfl | rfl | rfl <;> exact hP
          have hD : va_D A (wL_counted cA b0 ac n0 f0 (va_up (va_up z6 j9 a11) j13 a14)) := by rcases k12 hltj13 with rfl | rfl | rfl | rfl | rfl | rfl | rfl | rfl | rfl | rfl | rfl | rfl <;> exact hD
          refine lv_iinc (v := (x4 + 1)) (lv' := [(4, .int (x4 + 1)), (0, .ref (b0)), (2, .int x2), (3, .ref (ac 0))]) hx hb dL_counted_60 hl (k := 3) rfl rfl (by decide) rfl (fun ls hl => ?_)
          refine lv_goto (tgt := 11) hx hb dL_counted_63 (by decide) ?_
          exact ih11 x2 (x4 + 1) f0 (va_up (va_up z6 j9 a11) j13 a14) z1 _ _ _ (lv_sub hl [1, 2, 3, 0] rfl) hP hD hS h hk11
        have h := ez6
        refine lv_if_ne (tgt := 38) hx hb dL_counted_25 (by decide) (fun c15 => ?_) (fun c15 => ?_)
        · have h := e_t c15 h
          obtain rfl := e_s h
          exact hJ7 _ _ _ (lv_sub hl [0, 1, 2, 3] rfl) hP hD hS
        · have h := e_f (not_not_intro c15) h
          refine lv_aload_n hx hb dL_counted_28 rfl (lv_at hl 2 rfl) ?_
          refine lv_aload_n hx hb dL_counted_29 rfl (lv_at hl 0 rfl) ?_
          refine lv_iload hx hb dL_counted_30 (lv_at hl 3 rfl) ?_
          obtain ⟨v16, ev16, nv16, h⟩ := e_rd h
          refine xa_iald hx hb hK hP 0 rfl nv16 ev16 dL_counted_32 ?_
          obtain ⟨j17, ej17, nj17, hltj17, h⟩ := e_rx h
          refine xa_aaldA hx hb hK hP 1 rfl nj17 ej17 dL_counted_33 ?_
          refine lv_iconst (v := 1) hx hb dL_counted_34 (by decide) ?_
          refine lv_iload hx hb dL_counted_35 (lv_at hl 3 rfl) ?_
          obtain ⟨a18, ea18, na18, h⟩ := e_wr h
          refine xa_iast hx hb hK hP hD hS (2 + j17) ((by rcases k12 hltj17 with rfl | rfl | rfl | rfl | rfl | rfl | rfl | rfl | rfl | rfl | rfl | rfl <;> rfl : (wL_counted cA b0 ac n0 f0 cC)[(2 + j17)]? = some (ac (1 + j17), .inl (cA 0, 3, .inl (cC j17))))) na18 ea18 dL_counted_37 (fun H locs hP hD hS => ?_)
          have hP : va_P D vwCl (wL_counted cA b0 ac n0 f0 (va_up cC j17 a18)) H := by rcases k12 hltj17 with rfl | rfl | rfl | rfl | rfl | rfl | rfl | rfl | rfl | rfl | rfl | rfl <;> exact hP
          have hD : va_D A (wL_counted cA b0 ac n0 f0 (va_up cC j17 a18)) := by rcases k12 hltj17 with rfl | rfl | rfl | rfl | rfl | rfl | rfl | rfl | rfl | rfl | rfl | rfl <;> exact hD
          obtain rfl := e_s h
          exact hJ7 _ _ _ (lv_sub hl [0, 1, 2, 3] rfl) hP hD hS
  obtain ⟨z19, ez19, h⟩ := e_b h
  refine hL11 FU x2 x1 f0 cC z19 _ _ _ (lv_sub hl [1, 3, 4, 0] rfl) hP hD hS ez19 (fun ls H locs hl hP hD hS => ?_)
  refine lv_aload_n hx hb dL_counted_66 rfl (lv_at hl 0 rfl) ?_
  obtain rfl := e_s h
  exact hret hP hD hS dL_counted_67

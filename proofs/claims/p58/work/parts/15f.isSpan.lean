set_option maxHeartbeats 4000000 in
set_option maxRecDepth 100000 in
theorem kL_isSpanB (l : Launch) (D : va_G) (cA : Nat → ClassId) (ad : Nat → Nat) (b1 : Nat) (b2 : Nat) (ac : Nat → Nat) (n1 : Nat) (n2 : Nat) (block : Int32) (ties : Int32) (lines : Int32) (pmn : Int32) (row : RowT) (tally : TalT) (f1 : Nat → Int32) (f2 : Nat → Int32) (cC : Nat → Nat → Int32) (x3 : Int32) (x4 : Int32) (x5 : Int32) (q : Int32 × TalT) (h : mL_isSpan n1 n2 ties row tally f1 f2 cC x3 x4 x5 = some q) {p : Program} {e : Env} {s : State} {m : MethodId} {args : Array Value} {below : List Frame} {meth : Method} {c : Code} {A : Nat → Prop} {ls : Array Slot} {Q : State → Prop} {H : Heap} {locs : List Loc} (hx : p.tables.exec = Jvm.exec) (hb : c.code = cL_isSpan) (hml : c.maxLocals = 15) (hts : ∀ w ∈ wsL_isSpan, w.before args s = true) (hown : s.vm.findClass yL_isSpan.cls = some m.cls) (hK : va_K D vwCl (TY cA) s) (hP : va_P D vwCl (wL_isSpan cA ad b1 b2 ac n1 n2 block ties lines pmn row tally f1 f2 cC) H) (hD : va_D A (wL_isSpan cA ad b1 b2 ac n1 n2 block ties lines pmn row tally f1 f2 cC)) (hA : ∀ q : Nat, s.heap.size ≤ q → A q) (hS : va_S A s.heap H locs) (hl : lv_has ls 15 [(0, .ref (ad 0)), (1, .ref (b1)), (2, .ref (b2)), (3, .int x3), (4, .int x4), (5, .int x5), (6, .ref (ac 0))]) (hret : ∀ {H : Heap} {locs : List Loc} {ls : Array Slot} {pc : Nat}, va_P D vwCl (wL_isSpan cA ad b1 b2 ac n1 n2 block ties lines pmn row q.2 f1 f2 cC) H → va_S A s.heap H locs → narrow .boolean (.int q.1) = .int q.1 → decode cL_isSpan pc = .ok (.ireturn, 1) → W p l e (headSpec wsL_isSpan { frames := 4, cells := 27, slots := 104, locals := 94 }).room s m args below meth c H locs 27 104 Q (F0 m pc ls [.int q.1])) : W p l e (headSpec wsL_isSpan { frames := 4, cells := 27, slots := 104, locals := 94 }).room s m args below meth c H locs 13 48 Q (F0 m 9 ls []) := by
  unfold mL_isSpan at h
  refine lv_iconst (v := 0) hx hb dL_isSpan_9 (by decide) ?_
  refine lv_istore (lv' := [(7, .int 0), (0, .ref (ad 0)), (1, .ref (b1)), (2, .ref (b2)), (3, .int x3), (4, .int x4), (5, .int x5), (6, .ref (ac 0))]) hx hb dL_isSpan_10 hl (by decide) rfl (fun ls hl => ?_)
  refine lv_iconst (v := (-1)) hx hb dL_isSpan_12 (by decide) ?_
  refine lv_istore (lv' := [(8, .int (-1)), (7, .int 0), (0, .ref (ad 0)), (1, .ref (b1)), (2, .ref (b2)), (3, .int x3), (4, .int x4), (5, .int x5), (6, .ref (ac 0))]) hx hb dL_isSpan_13 hl (by decide) rfl (fun ls hl => ?_)
  refine lv_iconst (v := 0) hx hb dL_isSpan_15 (by decide) ?_
  refine lv_istore (lv' := [(9, .int 0), (8, .int (-1)), (7, .int 0), (0, .ref (ad 0)), (1, .ref (b1)), (2, .ref (b2)), (3, .int x3), (4, .int x4), (5, .int x5), (6, .ref (ac 0))]) hx hb dL_isSpan_16 hl (by decide) rfl (fun ls hl => ?_)
  refine lv_iconst (v := 0) hx hb dL_isSpan_18 (by decide) ?_
  refine lv_istore (lv' := [(10, .int 0), (9, .int 0), (8, .int (-1)), (7, .int 0), (0, .ref (ad 0)), (1, .ref (b1)), (2, .ref (b2)), (3, .int x3), (4, .int x4), (5, .int x5), (6, .ref (ac 0))]) hx hb dL_isSpan_19 hl (by decide) rfl (fun ls hl => ?_)
  have hL21 : ∀ (n : Nat) (x3 : Int32) (x4 : Int32) (x5 : Int32) (x7 : Int32) (x8 : Int32) (x9 : Int32) (x10 : Int32) (tally : TalT) (w_101 : Nat → Int32) (nc ns : Nat) (hnc : nc + n * 1 ≤ 27) (hns : ns + n * 4 ≤ 104) (ls : Array Slot) (H : Heap) (locs : List Loc), lv_has ls 15 [(0, .ref (ad 0)), (1, .ref (b1)), (2, .ref (b2)), (3, .int x3), (4, .int x4), (5, .int x5), (6, .ref (ac 0)), (7, .int x7), (8, .int x8), (9, .int x9), (10, .int x10)] → va_P D vwCl (wL_isSpan cA ad b1 b2 ac n1 n2 block ties lines pmn row tally f1 f2 cC) H → va_D A (wL_isSpan cA ad b1 b2 ac n1 n2 block ties lines pmn row tally f1 f2 cC) → va_S A s.heap H locs → mL_isSpan_L21 n1 n2 ties row f1 f2 cC x3 x4 x5 n x7 x8 x9 x10 tally w_101 = some q → W p l e (headSpec wsL_isSpan { frames := 4, cells := 27, slots := 104, locals := 94 }).room s m args below meth c H locs nc ns Q (F0 m 21 ls []) := by
    intro n
    induction n with
    | zero => intro x3 x4 x5 x7 x8 x9 x10 tally w_101 nc ns hnc hns ls H locs hl hP hD hS h; exact e_n h
    | succ n ih21 =>
      intro x3 x4 x5 x7 x8 x9 x10 tally w_101 nc ns hnc hns ls H locs hl hP hD hS h
      rw [mL_isSpan_L21.eq_2] at h
      refine lv_aload hx hb dL_isSpan_21 (lv_at hl 6 rfl) ?_
      refine lv_iload hx hb dL_isSpan_23 (lv_at hl 10 rfl) ?_
      refine lv_iload hx hb dL_isSpan_25 (lv_at hl 5 rfl) ?_
      obtain ⟨q2, eq2, h⟩ := e_b h
      refine xs_i (As := [.ref (ac 0), .int x10, .int x5]) (rest := []) ⟨hx, hb, hml, hown, hts⟩ hl.1 (kL_ranked l D cA ac cC x10 x5  _ eq2) (va_cwS 3 hts gL_isSpan_L_ranked rfl rfl rfl (by decide +kernel) ⟨Nat.le_of_ble_eq_true rfl, Nat.le_of_ble_eq_true rfl⟩) rfl hK hP hD hS hA [11, 12, 13, 14, 15, 16, 17, 18, 19, 20, 21, 22, 23] rfl (by decide +kernel) rfl (Nat.le_of_ble_eq_true rfl) dL_isSpan_27 ⟨show nc + 0 ≤ 27 by omega, show ns + 0 ≤ 104 by omega⟩ (fun H locs hP hD hS hnq2 => ?_)
      have hP : va_P D vwCl (wL_isSpan cA ad b1 b2 ac n1 n2 block ties lines pmn row tally f1 f2 cC) H := hP
      have hD : va_D A (wL_isSpan cA ad b1 b2 ac n1 n2 block ties lines pmn row tally f1 f2 cC) := hD
      refine lv_if_lt (tgt := 242) hx hb dL_isSpan_30 (by decide) (fun c3 => ?_) (fun c3 => ?_)
      · have h := e_t c3 h
        refine lv_iconst (v := 0) hx hb dL_isSpan_242 (by decide) ?_
        refine lv_istore (lv' := [(10, .int 0), (0, .ref (ad 0)), (1, .ref (b1)), (2, .ref (b2)), (3, .int x3), (4, .int x4), (5, .int x5), (6, .ref (ac 0)), (7, .int x7), (8, .int x8), (9, .int x9)]) hx hb dL_isSpan_243 hl (by decide) rfl (fun ls hl => ?_)
        have hL245 : ∀ (n : Nat) (x3 : Int32) (x4 : Int32) (x5 : Int32) (x7 : Int32) (x8 : Int32) (x9 : Int32) (x10 : Int32) (tally : TalT) (K : TalT → Option (Int32 × TalT)) (ls : Array Slot) (H : Heap) (locs : List Loc), lv_has ls 15 [(0, .ref (ad 0)), (3, .int x3), (4, .int x4), (5, .int x5), (6, .ref (ac 0)), (7, .int x7), (8, .int x8), (9, .int x9), (10, .int x10)] → va_P D vwCl (wL_isSpan cA ad b1 b2 ac n1 n2 block ties lines pmn row tally f1 f2 cC) H → va_D A (wL_isSpan cA ad b1 b2 ac n1 n2 block ties lines pmn row tally f1 f2 cC) → va_S A s.heap H locs → mL_isSpan_L245 K row cC x3 x4 n x10 tally = some q → (∀ (z4 : TalT) (ls : Array Slot) (H : Heap) (locs : List Loc), lv_has ls 15 [(0, .ref (ad 0)), (3, .int x3), (4, .int x4), (5, .int x5), (6, .ref (ac 0)), (7, .int x7), (8, .int x8), (9, .int x9)] → va_P D vwCl (wL_isSpan cA ad b1 b2 ac n1 n2 block ties lines pmn row z4 f1 f2 cC) H → va_D A (wL_isSpan cA ad b1 b2 ac n1 n2 block ties lines pmn row z4 f1 f2 cC) → va_S A s.heap H locs → K z4 = some q → W p l e (headSpec wsL_isSpan { frames := 4, cells := 27, slots := 104, locals := 94 }).room s m args below meth c H locs nc ns Q (F0 m 279 ls [])) → W p l e (headSpec wsL_isSpan { frames := 4, cells := 27, slots := 104, locals := 94 }).room s m args below meth c H locs nc ns Q (F0 m 245 ls []) := by
          intro n
          induction n with
          | zero => intro x3 x4 x5 x7 x8 x9 x10 tally K ls H locs hl hP hD hS h hk245; exact e_n h
          | succ n ih245 =>
            intro x3 x4 x5 x7 x8 x9 x10 tally K ls H locs hl hP hD hS h hk245
            rw [mL_isSpan_L245.eq_2] at h
            refine lv_iload hx hb dL_isSpan_245 (lv_at hl 8 rfl) ?_
            refine lv_iconst (v := 4) hx hb dL_isSpan_247 (by decide) ?_
            refine lv_icmp_ge (tgt := 279) hx hb dL_isSpan_248 (by decide) (fun c5 => ?_) (fun c5 => ?_)
            · have h := e_t c5 h
              exact hk245 tally _ _ _ (lv_sub hl [0, 1, 2, 3, 4, 5, 6, 7] rfl) hP hD hS h
            · have h := e_f c5 h
              refine lv_aload_n hx hb dL_isSpan_251 rfl (lv_at hl 0 rfl) ?_
              refine lv_iload hx hb dL_isSpan_252 (lv_at hl 8 rfl) ?_
              refine lv_iload_n hx hb dL_isSpan_254 rfl (lv_at hl 1 rfl) ?_
              refine lv_iload hx hb dL_isSpan_255 (lv_at hl 2 rfl) ?_
              obtain ⟨q6, eq6, h⟩ := e_b h
              refine xv_i (As := [.int x10, .int x3, .int x4]) (rest := []) (ci := 5) (b := ad 0) ⟨hx, hb, hml, hown, hts⟩ hl.1 (kX5_ifTies l D cA ad block ties lines pmn row tally x10 x3 x4  _ eq6) (cwV 3 hts gL_isSpan_X5_ifTies rfl rfl rfl (by decide +kernel) ⟨Nat.le_of_ble_eq_true rfl, Nat.le_of_ble_eq_true rfl⟩) rfl hK hP hD hS hA 0 rfl rfl rfl [0, 1, 2, 3, 4, 5, 6, 7, 8] rfl (by decide +kernel) rfl (Nat.le_of_ble_eq_true rfl) dL_isSpan_257 ⟨show nc + 0 ≤ 27 by omega, show ns + 0 ≤ 104 by omega⟩ (fun H locs hP hD hS hnq6 => ?_)
              have hP : va_P D vwCl (wL_isSpan cA ad b1 b2 ac n1 n2 block ties lines pmn row q6.2 f1 f2 cC) H := hP
              have hD : va_D A (wL_isSpan cA ad b1 b2 ac n1 n2 block ties lines pmn row q6.2 f1 f2 cC) := hD
              refine lv_aload hx hb dL_isSpan_260 (lv_at hl 4 rfl) ?_
              refine lv_iconst (v := 0) hx hb dL_isSpan_262 (by decide) ?_
              refine lv_iload hx hb dL_isSpan_263 (lv_at hl 8 rfl) ?_
              obtain ⟨q7, eq7, h⟩ := e_b h
              refine xs_i (As := [.ref (ac 0), .int 0, .int x10]) (rest := [.int q6.1]) ⟨hx, hb, hml, hown, hts⟩ hl.1 (kL_ranked l D cA ac cC 0 x10  _ eq7) (va_cwS 3 hts gL_isSpan_L_ranked rfl rfl rfl (by decide +kernel) ⟨Nat.le_of_ble_eq_true rfl, Nat.le_of_ble_eq_true rfl⟩) rfl hK hP hD hS hA [11, 12, 13, 14, 15, 16, 17, 18, 19, 20, 21, 22, 23] rfl (by decide +kernel) rfl (Nat.le_of_ble_eq_true rfl) dL_isSpan_265 ⟨show nc + 0 ≤ 27 by omega, show ns + 0 ≤ 104 by omega⟩ (fun H locs hP hD hS hnq7 => ?_)
              have hP : va_P D vwCl (wL_isSpan cA ad b1 b2 ac n1 n2 block ties lines pmn row q6.2 f1 f2 cC) H := hP
              have hD : va_D A (wL_isSpan cA ad b1 b2 ac n1 n2 block ties lines pmn row q6.2 f1 f2 cC) := hD
              refine lv_icmp_eq (tgt := 273) hx hb dL_isSpan_268 (by decide) (fun c8 => ?_) (fun c8 => ?_)
              · have h := e_t c8 h
                refine lv_iinc (v := (x10 + 1)) (lv' := [(10, .int (x10 + 1)), (0, .ref (ad 0)), (3, .int x3), (4, .int x4), (5, .int x5), (6, .ref (ac 0)), (7, .int x7), (8, .int x8), (9, .int x9)]) hx hb dL_isSpan_273 hl (k := 8) rfl rfl (by decide) rfl (fun ls hl => ?_)
                refine lv_goto (tgt := 245) hx hb dL_isSpan_276 (by decide) ?_
                exact ih245 x3 x4 x5 x7 x8 x9 (x10 + 1) q6.2 K _ _ _ (lv_sub hl [1, 2, 3, 4, 5, 6, 7, 8, 0] rfl) hP hD hS h hk245
              · have h := e_f c8 h
                refine lv_iconst (v := 0) hx hb dL_isSpan_271 (by decide) ?_
                obtain rfl := e_s h
                refine W.widen (k := 27) (n := 104) (by omega) (by omega) ?_
                exact hret hP hS (show narrow .boolean (.int 0) = .int 0 from rfl) dL_isSpan_272
        refine hL245 FU x3 x4 x5 x7 x8 x9 0 tally _ _ _ _ (lv_sub hl [1, 4, 5, 6, 7, 8, 9, 10, 0] rfl) hP hD hS h (fun z9 ls H locs hl hP hD hS h => ?_)
        refine lv_aload hx hb dL_isSpan_279 (lv_at hl 4 rfl) ?_
        refine lv_iconst (v := 0) hx hb dL_isSpan_281 (by decide) ?_
        refine lv_iload hx hb dL_isSpan_282 (lv_at hl 3 rfl) ?_
        obtain ⟨q10, eq10, h⟩ := e_b h
        refine xs_i (As := [.ref (ac 0), .int 0, .int x5]) (rest := []) ⟨hx, hb, hml, hown, hts⟩ hl.1 (kL_ranked l D cA ac cC 0 x5  _ eq10) (va_cwS 3 hts gL_isSpan_L_ranked rfl rfl rfl (by decide +kernel) ⟨Nat.le_of_ble_eq_true rfl, Nat.le_of_ble_eq_true rfl⟩) rfl hK hP hD hS hA [11, 12, 13, 14, 15, 16, 17, 18, 19, 20, 21, 22, 23] rfl (by decide +kernel) rfl (Nat.le_of_ble_eq_true rfl) dL_isSpan_284 ⟨show nc + 0 ≤ 27 by omega, show ns + 0 ≤ 104 by omega⟩ (fun H locs hP hD hS hnq10 => ?_)
        have hP : va_P D vwCl (wL_isSpan cA ad b1 b2 ac n1 n2 block ties lines pmn row z9 f1 f2 cC) H := hP
        have hD : va_D A (wL_isSpan cA ad b1 b2 ac n1 n2 block ties lines pmn row z9 f1 f2 cC) := hD
        refine lv_istore (lv' := [(10, .int q10), (0, .ref (ad 0)), (3, .int x3), (4, .int x4), (5, .int x5), (6, .ref (ac 0)), (7, .int x7), (8, .int x8), (9, .int x9)]) hx hb dL_isSpan_287 hl (by decide) rfl (fun ls hl => ?_)
        refine lv_iconst (v := 2) hx hb dL_isSpan_289 (by decide) ?_
        refine lv_aload hx hb dL_isSpan_290 (lv_at hl 5 rfl) ?_
        refine lv_iload hx hb dL_isSpan_292 (lv_at hl 0 rfl) ?_
        obtain ⟨j11, ej11, nj11, hltj11, h⟩ := e_rx h
        refine xa_aaldA hx hb hK hP 11 rfl nj11 ej11 dL_isSpan_294 ?_
        refine lv_iconst (v := 0) hx hb dL_isSpan_295 (by decide) ?_
        obtain ⟨v12, ev12, nv12, h⟩ := e_rd h
        refine xa_iald hx hb hK hP (12 + j11) ((by rcases k12 hltj11 with rfl | rfl | rfl | rfl | rfl | rfl | rfl | rfl | rfl | rfl | rfl | rfl <;> rfl : (wL_isSpan cA ad b1 b2 ac n1 n2 block ties lines pmn row z9 f1 f2 cC)[(12 + j11)]? = some (ac (1 + j11), .inl (cA 0, 3, .inl (cC j11))))) nv12 ev12 dL_isSpan_296 ?_
        refine lv_imul hx hb dL_isSpan_297 ?_
        refine lv_iload hx hb dL_isSpan_298 (lv_at hl 3 rfl) ?_
        refine lv_iload_n hx hb dL_isSpan_300 rfl (lv_at hl 2 rfl) ?_
        refine lv_isub hx hb dL_isSpan_301 ?_
        refine lv_iconst (v := 1) hx hb dL_isSpan_302 (by decide) ?_
        refine lv_iadd hx hb dL_isSpan_303 ?_
        obtain ⟨z13, ez13, h⟩ := e_b h
        have hJ14 : ∀ (ls : Array Slot) (H : Heap) (locs : List Loc), lv_has ls 15 [(0, .ref (ad 0)), (3, .int x3), (4, .int x4), (7, .int x7), (8, .int x8), (9, .int x9)] → va_P D vwCl (wL_isSpan cA ad b1 b2 ac n1 n2 block ties lines pmn row z9 f1 f2 cC) H → va_D A (wL_isSpan cA ad b1 b2 ac n1 n2 block ties lines pmn row z9 f1 f2 cC) → va_S A s.heap H locs → W p l e (headSpec wsL_isSpan { frames := 4, cells := 27, slots := 104, locals := 94 }).room s m args below meth c H locs nc ns Q (F0 m 314 ls [.int z13]) := by
          intro ls H locs hl hP hD hS
          refine lv_istore (lv' := [(11, .int z13), (0, .ref (ad 0)), (3, .int x3), (4, .int x4), (7, .int x7), (8, .int x8), (9, .int x9)]) hx hb dL_isSpan_314 hl (by decide) rfl (fun ls hl => ?_)
          refine lv_aload_n hx hb dL_isSpan_316 rfl (lv_at hl 1 rfl) ?_
          refine lv_iload_n hx hb dL_isSpan_317 rfl (lv_at hl 2 rfl) ?_
          refine lv_iload hx hb dL_isSpan_318 (lv_at hl 3 rfl) ?_
          obtain ⟨q15, eq15, h⟩ := e_b h
          refine xv_i (As := [.int x3, .int x4]) (rest := []) (ci := 5) (b := ad 0) ⟨hx, hb, hml, hown, hts⟩ hl.1 (kX5_unlike l D cA ad block ties lines pmn row z9 x3 x4  _ eq15) (cwV 2 hts gL_isSpan_X5_unlike rfl rfl rfl (by decide +kernel) ⟨Nat.le_of_ble_eq_true rfl, Nat.le_of_ble_eq_true rfl⟩) rfl hK hP hD hS hA 0 rfl rfl rfl [0, 1, 2, 3, 4, 5, 6, 7, 8] rfl (by decide +kernel) rfl (Nat.le_of_ble_eq_true rfl) dL_isSpan_320 ⟨show nc + 0 ≤ 27 by omega, show ns + 0 ≤ 104 by omega⟩ (fun H locs hP hD hS hnq15 => ?_)
          have hP : va_P D vwCl (wL_isSpan cA ad b1 b2 ac n1 n2 block ties lines pmn row q15.2 f1 f2 cC) H := hP
          have hD : va_D A (wL_isSpan cA ad b1 b2 ac n1 n2 block ties lines pmn row q15.2 f1 f2 cC) := hD
          refine lv_iload hx hb dL_isSpan_323 (lv_at hl 4 rfl) ?_
          refine lv_icmp_ne (tgt := 385) hx hb dL_isSpan_325 (by decide) (fun c16 => ?_) (fun c16 => ?_)
          · have h := e_t c16 h
            refine lv_iconst (v := 0) hx hb dL_isSpan_385 (by decide) ?_
            obtain rfl := e_s h
            refine W.widen (k := 27) (n := 104) (by omega) (by omega) ?_
            exact hret hP hS (show narrow .boolean (.int 0) = .int 0 from rfl) dL_isSpan_386
          · have h := e_f (not_not_intro c16) h
            refine lv_aload_n hx hb dL_isSpan_328 rfl (lv_at hl 1 rfl) ?_
            refine lv_iload_n hx hb dL_isSpan_329 rfl (lv_at hl 2 rfl) ?_
            refine lv_iload hx hb dL_isSpan_330 (lv_at hl 3 rfl) ?_
            refine lv_iload hx hb dL_isSpan_332 (lv_at hl 4 rfl) ?_
            refine lv_iconst (v := 0) hx hb dL_isSpan_334 (by decide) ?_
            obtain ⟨q17, eq17, h⟩ := e_b h
            refine xv_i (As := [.int x3, .int x4, .int x7, .int 0]) (rest := []) (ci := 5) (b := ad 0) ⟨hx, hb, hml, hown, hts⟩ hl.1 (kX5_ranked l D cA ad block ties lines pmn row q15.2 x3 x4 x7 0  _ eq17) (cwV 4 hts gL_isSpan_X5_ranked rfl rfl rfl (by decide +kernel) ⟨Nat.le_of_ble_eq_true rfl, Nat.le_of_ble_eq_true rfl⟩) rfl hK hP hD hS hA 0 rfl rfl rfl [0, 1, 2, 3, 4, 5, 6, 7, 8] rfl (by decide +kernel) rfl (Nat.le_of_ble_eq_true rfl) dL_isSpan_335 ⟨show nc + 0 ≤ 27 by omega, show ns + 0 ≤ 104 by omega⟩ (fun H locs hP hD hS hnq17 => ?_)
            have hP : va_P D vwCl (wL_isSpan cA ad b1 b2 ac n1 n2 block ties lines pmn row q17.2 f1 f2 cC) H := hP
            have hD : va_D A (wL_isSpan cA ad b1 b2 ac n1 n2 block ties lines pmn row q17.2 f1 f2 cC) := hD
            refine lv_bipush (v := (-2)) hx hb dL_isSpan_338 (by decide) ?_
            refine lv_icmp_ne (tgt := 385) hx hb dL_isSpan_340 (by decide) (fun c18 => ?_) (fun c18 => ?_)
            · have h := e_t c18 h
              refine lv_iconst (v := 0) hx hb dL_isSpan_385 (by decide) ?_
              obtain rfl := e_s h
              refine W.widen (k := 27) (n := 104) (by omega) (by omega) ?_
              exact hret hP hS (show narrow .boolean (.int 0) = .int 0 from rfl) dL_isSpan_386
            · have h := e_f (not_not_intro c18) h
              refine lv_aload_n hx hb dL_isSpan_343 rfl (lv_at hl 1 rfl) ?_
              refine lv_iload_n hx hb dL_isSpan_344 rfl (lv_at hl 2 rfl) ?_
              refine lv_iload hx hb dL_isSpan_345 (lv_at hl 3 rfl) ?_
              obtain ⟨q19, eq19, h⟩ := e_b h
              refine xv_i (As := [.int x3, .int x4]) (rest := []) (ci := 5) (b := ad 0) ⟨hx, hb, hml, hown, hts⟩ hl.1 (kX5_majority l D cA ad block ties lines pmn row q17.2 x3 x4  _ eq19) (cwV 2 hts gL_isSpan_X5_majority rfl rfl rfl (by decide +kernel) ⟨Nat.le_of_ble_eq_true rfl, Nat.le_of_ble_eq_true rfl⟩) rfl hK hP hD hS hA 0 rfl rfl rfl [0, 1, 2, 3, 4, 5, 6, 7, 8] rfl (by decide +kernel) rfl (Nat.le_of_ble_eq_true rfl) dL_isSpan_347 ⟨show nc + 0 ≤ 27 by omega, show ns + 0 ≤ 104 by omega⟩ (fun H locs hP hD hS hnq19 => ?_)
              have hP : va_P D vwCl (wL_isSpan cA ad b1 b2 ac n1 n2 block ties lines pmn row q19.2 f1 f2 cC) H := hP
              have hD : va_D A (wL_isSpan cA ad b1 b2 ac n1 n2 block ties lines pmn row q19.2 f1 f2 cC) := hD
              refine lv_iload hx hb dL_isSpan_350 (lv_at hl 0 rfl) ?_
              refine lv_icmp_ne (tgt := 385) hx hb dL_isSpan_352 (by decide) (fun c20 => ?_) (fun c20 => ?_)
              · have h := e_t c20 h
                refine lv_iconst (v := 0) hx hb dL_isSpan_385 (by decide) ?_
                obtain rfl := e_s h
                refine W.widen (k := 27) (n := 104) (by omega) (by omega) ?_
                exact hret hP hS (show narrow .boolean (.int 0) = .int 0 from rfl) dL_isSpan_386
              · have h := e_f (not_not_intro c20) h
                refine lv_aload_n hx hb dL_isSpan_355 rfl (lv_at hl 1 rfl) ?_
                refine lv_iload_n hx hb dL_isSpan_356 rfl (lv_at hl 2 rfl) ?_
                refine lv_iload hx hb dL_isSpan_357 (lv_at hl 3 rfl) ?_
                refine lv_iconst (v := 0) hx hb dL_isSpan_359 (by decide) ?_
                obtain ⟨q21, eq21, h⟩ := e_b h
                refine xv_i (As := [.int x3, .int x4, .int 0]) (rest := []) (ci := 5) (b := ad 0) ⟨hx, hb, hml, hown, hts⟩ hl.1 (kX5_heaviest l D cA ad block ties lines pmn row q19.2 x3 x4 0  _ eq21) (cwV 3 hts gL_isSpan_X5_heaviest rfl rfl rfl (by decide +kernel) ⟨Nat.le_of_ble_eq_true rfl, Nat.le_of_ble_eq_true rfl⟩) rfl hK hP hD hS hA 0 rfl rfl rfl [0, 1, 2, 3, 4, 5, 6, 7, 8] rfl (by decide +kernel) rfl (Nat.le_of_ble_eq_true rfl) dL_isSpan_360 ⟨show nc + 0 ≤ 27 by omega, show ns + 0 ≤ 104 by omega⟩ (fun H locs hP hD hS hnq21 => ?_)
                have hP : va_P D vwCl (wL_isSpan cA ad b1 b2 ac n1 n2 block ties lines pmn row q21.2 f1 f2 cC) H := hP
                have hD : va_D A (wL_isSpan cA ad b1 b2 ac n1 n2 block ties lines pmn row q21.2 f1 f2 cC) := hD
                refine lv_iload hx hb dL_isSpan_363 (lv_at hl 5 rfl) ?_
                refine lv_icmp_ne (tgt := 385) hx hb dL_isSpan_365 (by decide) (fun c22 => ?_) (fun c22 => ?_)
                · have h := e_t c22 h
                  refine lv_iconst (v := 0) hx hb dL_isSpan_385 (by decide) ?_
                  obtain rfl := e_s h
                  refine W.widen (k := 27) (n := 104) (by omega) (by omega) ?_
                  exact hret hP hS (show narrow .boolean (.int 0) = .int 0 from rfl) dL_isSpan_386
                · have h := e_f (not_not_intro c22) h
                  refine lv_aload_n hx hb dL_isSpan_368 rfl (lv_at hl 1 rfl) ?_
                  refine lv_iload_n hx hb dL_isSpan_369 rfl (lv_at hl 2 rfl) ?_
                  refine lv_iload hx hb dL_isSpan_370 (lv_at hl 3 rfl) ?_
                  refine lv_iconst (v := 1) hx hb dL_isSpan_372 (by decide) ?_
                  obtain ⟨q23, eq23, h⟩ := e_b h
                  refine xv_i (As := [.int x3, .int x4, .int 1]) (rest := []) (ci := 5) (b := ad 0) ⟨hx, hb, hml, hown, hts⟩ hl.1 (kX5_heaviest l D cA ad block ties lines pmn row q21.2 x3 x4 1  _ eq23) (cwV 3 hts gL_isSpan_X5_heaviest rfl rfl rfl (by decide +kernel) ⟨Nat.le_of_ble_eq_true rfl, Nat.le_of_ble_eq_true rfl⟩) rfl hK hP hD hS hA 0 rfl rfl rfl [0, 1, 2, 3, 4, 5, 6, 7, 8] rfl (by decide +kernel) rfl (Nat.le_of_ble_eq_true rfl) dL_isSpan_373 ⟨show nc + 0 ≤ 27 by omega, show ns + 0 ≤ 104 by omega⟩ (fun H locs hP hD hS hnq23 => ?_)
                  have hP : va_P D vwCl (wL_isSpan cA ad b1 b2 ac n1 n2 block ties lines pmn row q23.2 f1 f2 cC) H := hP
                  have hD : va_D A (wL_isSpan cA ad b1 b2 ac n1 n2 block ties lines pmn row q23.2 f1 f2 cC) := hD
                  refine lv_iload hx hb dL_isSpan_376 (lv_at hl 6 rfl) ?_
                  refine lv_icmp_ne (tgt := 385) hx hb dL_isSpan_378 (by decide) (fun c24 => ?_) (fun c24 => ?_)
                  · have h := e_t c24 h
                    refine lv_iconst (v := 0) hx hb dL_isSpan_385 (by decide) ?_
                    obtain rfl := e_s h
                    refine W.widen (k := 27) (n := 104) (by omega) (by omega) ?_
                    exact hret hP hS (show narrow .boolean (.int 0) = .int 0 from rfl) dL_isSpan_386
                  · have h := e_f (not_not_intro c24) h
                    refine lv_iconst (v := 1) hx hb dL_isSpan_381 (by decide) ?_
                    refine lv_goto (tgt := 386) hx hb dL_isSpan_382 (by decide) ?_
                    obtain rfl := e_s h
                    refine W.widen (k := 27) (n := 104) (by omega) (by omega) ?_
                    exact hret hP hS (show narrow .boolean (.int 1) = .int 1 from rfl) dL_isSpan_386
        have h := ez13
        refine lv_icmp_le (tgt := 312) hx hb dL_isSpan_304 (by decide) (fun c25 => ?_) (fun c25 => ?_)
        · have h := e_t c25 h
          refine lv_bipush (v := (-2)) hx hb dL_isSpan_312 (by decide) ?_
          obtain rfl := e_s h
          exact hJ14 _ _ _ (lv_sub hl [1, 2, 3, 6, 7, 8] rfl) hP hD hS
        · have h := e_f c25 h
          refine lv_iload hx hb dL_isSpan_307 (lv_at hl 0 rfl) ?_
          refine lv_goto (tgt := 314) hx hb dL_isSpan_309 (by decide) ?_
          obtain rfl := e_s h
          exact hJ14 _ _ _ (lv_sub hl [1, 2, 3, 6, 7, 8] rfl) hP hD hS
      · have h := e_f c3 h
        refine lv_aload hx hb dL_isSpan_33 (lv_at hl 6 rfl) ?_
        refine lv_iload hx hb dL_isSpan_35 (lv_at hl 10 rfl) ?_
        refine lv_iload hx hb dL_isSpan_37 (lv_at hl 5 rfl) ?_
        obtain ⟨q26, eq26, h⟩ := e_b h
        refine xs_i (As := [.ref (ac 0), .int x10, .int x5]) (rest := []) ⟨hx, hb, hml, hown, hts⟩ hl.1 (kL_ranked l D cA ac cC x10 x5  _ eq26) (va_cwS 3 hts gL_isSpan_L_ranked rfl rfl rfl (by decide +kernel) ⟨Nat.le_of_ble_eq_true rfl, Nat.le_of_ble_eq_true rfl⟩) rfl hK hP hD hS hA [11, 12, 13, 14, 15, 16, 17, 18, 19, 20, 21, 22, 23] rfl (by decide +kernel) rfl (Nat.le_of_ble_eq_true rfl) dL_isSpan_39 ⟨show nc + 0 ≤ 27 by omega, show ns + 0 ≤ 104 by omega⟩ (fun H locs hP hD hS hnq26 => ?_)
        have hP : va_P D vwCl (wL_isSpan cA ad b1 b2 ac n1 n2 block ties lines pmn row tally f1 f2 cC) H := hP
        have hD : va_D A (wL_isSpan cA ad b1 b2 ac n1 n2 block ties lines pmn row tally f1 f2 cC) := hD
        refine lv_istore (lv' := [(11, .int q26), (0, .ref (ad 0)), (1, .ref (b1)), (2, .ref (b2)), (3, .int x3), (4, .int x4), (5, .int x5), (6, .ref (ac 0)), (7, .int x7), (8, .int x8), (9, .int x9), (10, .int x10)]) hx hb dL_isSpan_42 hl (by decide) rfl (fun ls hl => ?_)
        refine lv_iconst (v := 0) hx hb dL_isSpan_44 (by decide) ?_
        refine lv_istore (lv' := [(12, .int 0), (11, .int q26), (0, .ref (ad 0)), (1, .ref (b1)), (2, .ref (b2)), (3, .int x3), (4, .int x4), (5, .int x5), (6, .ref (ac 0)), (7, .int x7), (8, .int x8), (9, .int x9), (10, .int x10)]) hx hb dL_isSpan_45 hl (by decide) rfl (fun ls hl => ?_)
        refine lv_iload_n hx hb dL_isSpan_47 rfl (lv_at hl 5 rfl) ?_
        refine lv_istore (lv' := [(13, .int x3), (12, .int 0), (11, .int q26), (0, .ref (ad 0)), (1, .ref (b1)), (2, .ref (b2)), (3, .int x3), (4, .int x4), (5, .int x5), (6, .ref (ac 0)), (7, .int x7), (8, .int x8), (9, .int x9), (10, .int x10)]) hx hb dL_isSpan_48 hl (by decide) rfl (fun ls hl => ?_)
        have hL50 : ∀ (n : Nat) (x3 : Int32) (x4 : Int32) (x5 : Int32) (x7 : Int32) (x8 : Int32) (x9 : Int32) (x10 : Int32) (x11 : Int32) (x12 : Int32) (x13 : Int32) (block : Int32) (ties : Int32) (lines : Int32) (pmn : Int32) (row : RowT) (tally : TalT) (f1 : Nat → Int32) (f2 : Nat → Int32) (cC : Nat → Nat → Int32) (w_101 : Nat → Int32) (z27 : Int32) (ls : Array Slot) (H : Heap) (locs : List Loc), lv_has ls 15 [(0, .ref (ad 0)), (1, .ref (b1)), (2, .ref (b2)), (3, .int x3), (4, .int x4), (5, .int x5), (6, .ref (ac 0)), (7, .int x7), (8, .int x8), (9, .int x9), (10, .int x10), (11, .int x11), (12, .int x12), (13, .int x13)] → va_P D vwCl (wL_isSpan cA ad b1 b2 ac n1 n2 block ties lines pmn row tally f1 f2 cC) H → va_D A (wL_isSpan cA ad b1 b2 ac n1 n2 block ties lines pmn row tally f1 f2 cC) → va_S A s.heap H locs → mL_isSpan_L50 n1 n2 f1 f2 x4 x11 n x12 x13 = some z27 → (∀ (ls : Array Slot) (H : Heap) (locs : List Loc), lv_has ls 15 [(0, .ref (ad 0)), (1, .ref (b1)), (2, .ref (b2)), (3, .int x3), (4, .int x4), (5, .int x5), (6, .ref (ac 0)), (7, .int x7), (8, .int x8), (9, .int x9), (10, .int x10), (11, .int x11), (12, .int z27)] → va_P D vwCl (wL_isSpan cA ad b1 b2 ac n1 n2 block ties lines pmn row tally f1 f2 cC) H → va_D A (wL_isSpan cA ad b1 b2 ac n1 n2 block ties lines pmn row tally f1 f2 cC) → va_S A s.heap H locs → W p l e (headSpec wsL_isSpan { frames := 4, cells := 27, slots := 104, locals := 94 }).room s m args below meth c H locs nc ns Q (F0 m 85 ls [])) → W p l e (headSpec wsL_isSpan { frames := 4, cells := 27, slots := 104, locals := 94 }).room s m args below meth c H locs nc ns Q (F0 m 50 ls []) := by
          intro n
          induction n with
          | zero => intro x3 x4 x5 x7 x8 x9 x10 x11 x12 x13 block ties lines pmn row tally f1 f2 cC w_101 z27 ls H locs hl hP hD hS h hk50; exact e_n h
          | succ n ih50 =>
            intro x3 x4 x5 x7 x8 x9 x10 x11 x12 x13 block ties lines pmn row tally f1 f2 cC w_101 z27 ls H locs hl hP hD hS h hk50
            rw [mL_isSpan_L50.eq_2] at h
            refine lv_iload hx hb dL_isSpan_50 (lv_at hl 13 rfl) ?_
            refine lv_iload hx hb dL_isSpan_52 (lv_at hl 4 rfl) ?_
            refine lv_icmp_gt (tgt := 85) hx hb dL_isSpan_54 (by decide) (fun c28 => ?_) (fun c28 => ?_)
            · have h := e_t c28 h
              obtain rfl := e_s h
              exact hk50 _ _ _ (lv_sub hl [0, 1, 2, 3, 4, 5, 6, 7, 8, 9, 10, 11, 12] rfl) hP hD hS
            · have h := e_f c28 h
              refine lv_iload hx hb dL_isSpan_57 (lv_at hl 12 rfl) ?_
              refine lv_aload_n hx hb dL_isSpan_59 rfl (lv_at hl 1 rfl) ?_
              refine lv_iload hx hb dL_isSpan_60 (lv_at hl 13 rfl) ?_
              obtain ⟨v29, ev29, nv29, h⟩ := e_rd h
              refine xa_iald hx hb hK hP 9 rfl nv29 ev29 dL_isSpan_62 ?_
              refine lv_iload hx hb dL_isSpan_63 (lv_at hl 11 rfl) ?_
              refine lv_icmp_ne (tgt := 75) hx hb dL_isSpan_65 (by decide) (fun c30 => ?_) (fun c30 => ?_)
              · have h := e_t c30 h
                refine lv_iconst (v := 0) hx hb dL_isSpan_75 (by decide) ?_
                refine lv_iadd hx hb dL_isSpan_76 ?_
                refine lv_istore (lv' := [(12, .int (x12 + 0)), (0, .ref (ad 0)), (1, .ref (b1)), (2, .ref (b2)), (3, .int x3), (4, .int x4), (5, .int x5), (6, .ref (ac 0)), (7, .int x7), (8, .int x8), (9, .int x9), (10, .int x10), (11, .int x11), (13, .int x13)]) hx hb dL_isSpan_77 hl (by decide) rfl (fun ls hl => ?_)
                refine lv_iinc (v := (x13 + 1)) (lv' := [(13, .int (x13 + 1)), (12, .int (x12 + 0)), (0, .ref (ad 0)), (1, .ref (b1)), (2, .ref (b2)), (3, .int x3), (4, .int x4), (5, .int x5), (6, .ref (ac 0)), (7, .int x7), (8, .int x8), (9, .int x9), (10, .int x10), (11, .int x11)]) hx hb dL_isSpan_79 hl (k := 13) rfl rfl (by decide) rfl (fun ls hl => ?_)
                refine lv_goto (tgt := 50) hx hb dL_isSpan_82 (by decide) ?_
                exact ih50 x3 x4 x5 x7 x8 x9 x10 x11 (x12 + 0) (x13 + 1) block ties lines pmn row tally f1 f2 cC w_101 z27 _ _ _ (lv_sub hl [2, 3, 4, 5, 6, 7, 8, 9, 10, 11, 12, 13, 1, 0] rfl) hP hD hS h hk50
              · have h := e_f (not_not_intro c30) h
                refine lv_aload_n hx hb dL_isSpan_68 rfl (lv_at hl 2 rfl) ?_
                refine lv_iload hx hb dL_isSpan_69 (lv_at hl 13 rfl) ?_
                obtain ⟨v31, ev31, nv31, h⟩ := e_rd h
                refine xa_iald hx hb hK hP 10 rfl nv31 ev31 dL_isSpan_71 ?_
                refine lv_goto (tgt := 76) hx hb dL_isSpan_72 (by decide) ?_
                refine lv_iadd hx hb dL_isSpan_76 ?_
                refine lv_istore (lv' := [(12, .int (x12 + v31)), (0, .ref (ad 0)), (1, .ref (b1)), (2, .ref (b2)), (3, .int x3), (4, .int x4), (5, .int x5), (6, .ref (ac 0)), (7, .int x7), (8, .int x8), (9, .int x9), (10, .int x10), (11, .int x11), (13, .int x13)]) hx hb dL_isSpan_77 hl (by decide) rfl (fun ls hl => ?_)
                refine lv_iinc (v := (x13 + 1)) (lv' := [(13, .int (x13 + 1)), (12, .int (x12 + v31)), (0, .ref (ad 0)), (1, .ref (b1)), (2, .ref (b2)), (3, .int x3), (4, .int x4), (5, .int x5), (6, .ref (ac 0)), (7, .int x7), (8, .int x8), (9, .int x9), (10, .int x10), (11, .int x11)]) hx hb dL_isSpan_79 hl (k := 13) rfl rfl (by decide) rfl (fun ls hl => ?_)
                refine lv_goto (tgt := 50) hx hb dL_isSpan_82 (by decide) ?_
                exact ih50 x3 x4 x5 x7 x8 x9 x10 x11 (x12 + v31) (x13 + 1) block ties lines pmn row tally f1 f2 cC w_101 z27 _ _ _ (lv_sub hl [2, 3, 4, 5, 6, 7, 8, 9, 10, 11, 12, 13, 1, 0] rfl) hP hD hS h hk50
        obtain ⟨z32, ez32, h⟩ := e_b h
        refine hL50 FU x3 x4 x5 x7 x8 x9 x10 q26 0 x3 block ties lines pmn row tally f1 f2 cC w_101 z32 _ _ _ (lv_sub hl [3, 4, 5, 6, 7, 8, 9, 10, 11, 12, 13, 2, 1, 0] rfl) hP hD hS ez32 (fun ls H locs hl hP hD hS => ?_)
        refine lv_iload hx hb dL_isSpan_85 (lv_at hl 12 rfl) ?_
        refine lv_iload hx hb dL_isSpan_87 (lv_at hl 9 rfl) ?_
        obtain ⟨z33, ez33, h⟩ := e_b h
        have hJ34 : ∀ (ls : Array Slot) (H : Heap) (locs : List Loc), lv_has ls 15 [(0, .ref (ad 0)), (1, .ref (b1)), (2, .ref (b2)), (3, .int x3), (4, .int x4), (5, .int x5), (6, .ref (ac 0)), (7, .int x7), (8, .int z33.1), (9, .int z33.2), (10, .int x10), (11, .int q26)] → va_P D vwCl (wL_isSpan cA ad b1 b2 ac n1 n2 block ties lines pmn row tally f1 f2 cC) H → va_D A (wL_isSpan cA ad b1 b2 ac n1 n2 block ties lines pmn row tally f1 f2 cC) → va_S A s.heap H locs → W p l e (headSpec wsL_isSpan { frames := 4, cells := 27, slots := 104, locals := 94 }).room s m args below meth c H locs nc ns Q (F0 m 100 ls []) := by
          intro ls H locs hl hP hD hS
          refine lv_iconst (v := 4) hx hb dL_isSpan_100 (by decide) ?_
          refine xa_newi (N' := 4) hx hb (hts (.arrayClass .int) (by decide +kernel)) hK hP hD hS hA (by decide) (by decide) (Nat.le_of_ble_eq_true rfl) (show nc + 1 ≤ 27 by omega) (show ns + 4 ≤ 104 by omega) dL_isSpan_101 (fun q101 H hP hD hS => ?_)
          have hP : va_P D vwCl (wL_isSpan cA ad b1 b2 ac n1 n2 block ties lines pmn row tally f1 f2 cC ++ [(q101, .inl (cA 0, 4, .inl (fun _ => 0)))]) H := hP
          have hD : va_D A (wL_isSpan cA ad b1 b2 ac n1 n2 block ties lines pmn row tally f1 f2 cC ++ [(q101, .inl (cA 0, 4, .inl (fun _ => 0)))]) := hD
          refine lv_dup hx hb dL_isSpan_103 rfl ?_
          refine lv_iconst (v := 0) hx hb dL_isSpan_104 (by decide) ?_
          refine lv_iload hx hb dL_isSpan_105 (lv_at hl 11 rfl) ?_
          obtain ⟨a35, ea35, na35, h⟩ := e_wr h
          refine xa_iast hx hb hK hP hD hS 24 rfl na35 ea35 dL_isSpan_107 (fun H locs hP hD hS => ?_)
          have hP : va_P D vwCl (wL_isSpan cA ad b1 b2 ac n1 n2 block ties lines pmn row tally f1 f2 cC ++ [(q101, .inl (cA 0, 4, .inl a35))]) H := hP
          have hD : va_D A (wL_isSpan cA ad b1 b2 ac n1 n2 block ties lines pmn row tally f1 f2 cC ++ [(q101, .inl (cA 0, 4, .inl a35))]) := hD
          refine lv_dup hx hb dL_isSpan_108 rfl ?_
          refine lv_iconst (v := 1) hx hb dL_isSpan_109 (by decide) ?_
          refine lv_aload hx hb dL_isSpan_110 (lv_at hl 6 rfl) ?_
          refine lv_iload hx hb dL_isSpan_112 (lv_at hl 11 rfl) ?_
          obtain ⟨j36, ej36, nj36, hltj36, h⟩ := e_rx h
          refine xa_aaldA hx hb hK hP 11 rfl nj36 ej36 dL_isSpan_114 ?_
          refine lv_iconst (v := 0) hx hb dL_isSpan_115 (by decide) ?_
          obtain ⟨v37, ev37, nv37, h⟩ := e_rd h
          refine xa_iald hx hb hK hP (12 + j36) ((by rcases k12 hltj36 with rfl | rfl | rfl | rfl | rfl | rfl | rfl | rfl | rfl | rfl | rfl | rfl <;> rfl : (wL_isSpan cA ad b1 b2 ac n1 n2 block ties lines pmn row tally f1 f2 cC ++ [(q101, .inl (cA 0, 4, .inl a35))])[(12 + j36)]? = some (ac (1 + j36), .inl (cA 0, 3, .inl (cC j36))))) nv37 ev37 dL_isSpan_116 ?_
          obtain ⟨a38, ea38, na38, h⟩ := e_wr h
          refine xa_iast hx hb hK hP hD hS 24 rfl na38 ea38 dL_isSpan_117 (fun H locs hP hD hS => ?_)
          have hP : va_P D vwCl (wL_isSpan cA ad b1 b2 ac n1 n2 block ties lines pmn row tally f1 f2 cC ++ [(q101, .inl (cA 0, 4, .inl a38))]) H := hP
          have hD : va_D A (wL_isSpan cA ad b1 b2 ac n1 n2 block ties lines pmn row tally f1 f2 cC ++ [(q101, .inl (cA 0, 4, .inl a38))]) := hD
          refine lv_dup hx hb dL_isSpan_118 rfl ?_
          refine lv_iconst (v := 2) hx hb dL_isSpan_119 (by decide) ?_
          refine lv_aload hx hb dL_isSpan_120 (lv_at hl 6 rfl) ?_
          refine lv_iload hx hb dL_isSpan_122 (lv_at hl 11 rfl) ?_
          obtain ⟨j39, ej39, nj39, hltj39, h⟩ := e_rx h
          refine xa_aaldA hx hb hK hP 11 rfl nj39 ej39 dL_isSpan_124 ?_
          refine lv_iconst (v := 1) hx hb dL_isSpan_125 (by decide) ?_
          obtain ⟨v40, ev40, nv40, h⟩ := e_rd h
          refine xa_iald hx hb hK hP (12 + j39) ((by rcases k12 hltj39 with rfl | rfl | rfl | rfl | rfl | rfl | rfl | rfl | rfl | rfl | rfl | rfl <;> rfl : (wL_isSpan cA ad b1 b2 ac n1 n2 block ties lines pmn row tally f1 f2 cC ++ [(q101, .inl (cA 0, 4, .inl a38))])[(12 + j39)]? = some (ac (1 + j39), .inl (cA 0, 3, .inl (cC j39))))) nv40 ev40 dL_isSpan_126 ?_
          obtain ⟨a41, ea41, na41, h⟩ := e_wr h
          refine xa_iast hx hb hK hP hD hS 24 rfl na41 ea41 dL_isSpan_127 (fun H locs hP hD hS => ?_)
          have hP : va_P D vwCl (wL_isSpan cA ad b1 b2 ac n1 n2 block ties lines pmn row tally f1 f2 cC ++ [(q101, .inl (cA 0, 4, .inl a41))]) H := hP
          have hD : va_D A (wL_isSpan cA ad b1 b2 ac n1 n2 block ties lines pmn row tally f1 f2 cC ++ [(q101, .inl (cA 0, 4, .inl a41))]) := hD
          refine lv_dup hx hb dL_isSpan_128 rfl ?_
          refine lv_iconst (v := 3) hx hb dL_isSpan_129 (by decide) ?_
          refine lv_aload hx hb dL_isSpan_130 (lv_at hl 6 rfl) ?_
          refine lv_iload hx hb dL_isSpan_132 (lv_at hl 11 rfl) ?_
          obtain ⟨j42, ej42, nj42, hltj42, h⟩ := e_rx h
          refine xa_aaldA hx hb hK hP 11 rfl nj42 ej42 dL_isSpan_134 ?_
          refine lv_iconst (v := 2) hx hb dL_isSpan_135 (by decide) ?_
          obtain ⟨v43, ev43, nv43, h⟩ := e_rd h
          refine xa_iald hx hb hK hP (12 + j42) ((by rcases k12 hltj42 with rfl | rfl | rfl | rfl | rfl | rfl | rfl | rfl | rfl | rfl | rfl | rfl <;> rfl : (wL_isSpan cA ad b1 b2 ac n1 n2 block ties lines pmn row tally f1 f2 cC ++ [(q101, .inl (cA 0, 4, .inl a41))])[(12 + j42)]? = some (ac (1 + j42), .inl (cA 0, 3, .inl (cC j42))))) nv43 ev43 dL_isSpan_136 ?_
          obtain ⟨a44, ea44, na44, h⟩ := e_wr h
          refine xa_iast hx hb hK hP hD hS 24 rfl na44 ea44 dL_isSpan_137 (fun H locs hP hD hS => ?_)
          have hP : va_P D vwCl (wL_isSpan cA ad b1 b2 ac n1 n2 block ties lines pmn row tally f1 f2 cC ++ [(q101, .inl (cA 0, 4, .inl a44))]) H := hP
          have hD : va_D A (wL_isSpan cA ad b1 b2 ac n1 n2 block ties lines pmn row tally f1 f2 cC ++ [(q101, .inl (cA 0, 4, .inl a44))]) := hD
          refine lv_astore (lv' := [(13, .ref (q101)), (0, .ref (ad 0)), (1, .ref (b1)), (2, .ref (b2)), (3, .int x3), (4, .int x4), (5, .int x5), (6, .ref (ac 0)), (7, .int x7), (8, .int z33.1), (9, .int z33.2), (10, .int x10), (11, .int q26)]) hx hb dL_isSpan_138 hl (by decide) rfl (fun ls hl => ?_)
          refine lv_iconst (v := 0) hx hb dL_isSpan_140 (by decide) ?_
          refine lv_istore (lv' := [(14, .int 0), (13, .ref (q101)), (0, .ref (ad 0)), (1, .ref (b1)), (2, .ref (b2)), (3, .int x3), (4, .int x4), (5, .int x5), (6, .ref (ac 0)), (7, .int x7), (8, .int z33.1), (9, .int z33.2), (10, .int x10), (11, .int q26)]) hx hb dL_isSpan_141 hl (by decide) rfl (fun ls hl => ?_)
          have hL143 : ∀ (n : Nat) (x3 : Int32) (x4 : Int32) (x5 : Int32) (x7 : Int32) (x8 : Int32) (x9 : Int32) (x10 : Int32) (x11 : Int32) (x14 : Int32) (tally : TalT) (K : TalT → Option (Int32 × TalT)) (ls : Array Slot) (H : Heap) (locs : List Loc), lv_has ls 15 [(0, .ref (ad 0)), (1, .ref (b1)), (2, .ref (b2)), (3, .int x3), (4, .int x4), (5, .int x5), (6, .ref (ac 0)), (7, .int x7), (8, .int x8), (9, .int x9), (10, .int x10), (11, .int x11), (13, .ref (q101)), (14, .int x14)] → va_P D vwCl (wL_isSpan cA ad b1 b2 ac n1 n2 block ties lines pmn row tally f1 f2 cC ++ [(q101, .inl (cA 0, 4, .inl a44))]) H → va_D A (wL_isSpan cA ad b1 b2 ac n1 n2 block ties lines pmn row tally f1 f2 cC ++ [(q101, .inl (cA 0, 4, .inl a44))]) → va_S A s.heap H locs → mL_isSpan_L143 K ties row a44 x3 x4 x10 n x14 tally = some q → (∀ (z45 : TalT) (ls : Array Slot) (H : Heap) (locs : List Loc), lv_has ls 15 [(0, .ref (ad 0)), (1, .ref (b1)), (2, .ref (b2)), (3, .int x3), (4, .int x4), (5, .int x5), (6, .ref (ac 0)), (7, .int x7), (8, .int x8), (9, .int x9), (10, .int x10), (11, .int x11)] → va_P D vwCl (wL_isSpan cA ad b1 b2 ac n1 n2 block ties lines pmn row z45 f1 f2 cC ++ [(q101, .inl (cA 0, 4, .inl a44))]) H → va_D A (wL_isSpan cA ad b1 b2 ac n1 n2 block ties lines pmn row z45 f1 f2 cC ++ [(q101, .inl (cA 0, 4, .inl a44))]) → va_S A s.heap H locs → K z45 = some q → W p l e (headSpec wsL_isSpan { frames := 4, cells := 27, slots := 104, locals := 94 }).room s m args below meth c H locs (nc + 1) (ns + 4) Q (F0 m 198 ls [])) → W p l e (headSpec wsL_isSpan { frames := 4, cells := 27, slots := 104, locals := 94 }).room s m args below meth c H locs (nc + 1) (ns + 4) Q (F0 m 143 ls []) := by
            intro n
            induction n with
            | zero => intro x3 x4 x5 x7 x8 x9 x10 x11 x14 tally K ls H locs hl hP hD hS h hk143; exact e_n h
            | succ n ih143 =>
              intro x3 x4 x5 x7 x8 x9 x10 x11 x14 tally K ls H locs hl hP hD hS h hk143
              rw [mL_isSpan_L143.eq_2] at h
              refine lv_iload hx hb dL_isSpan_143 (lv_at hl 13 rfl) ?_
              refine lv_iconst (v := 4) hx hb dL_isSpan_145 (by decide) ?_
              refine lv_icmp_ge (tgt := 198) hx hb dL_isSpan_146 (by decide) (fun c46 => ?_) (fun c46 => ?_)
              · have h := e_t c46 h
                exact hk143 tally _ _ _ (lv_sub hl [0, 1, 2, 3, 4, 5, 6, 7, 8, 9, 10, 11] rfl) hP hD hS h
              · have h := e_f c46 h
                refine lv_aload_n hx hb dL_isSpan_149 rfl (lv_at hl 0 rfl) ?_
                refine lv_iload_n hx hb dL_isSpan_150 rfl (lv_at hl 3 rfl) ?_
                refine lv_iload hx hb dL_isSpan_151 (lv_at hl 4 rfl) ?_
                refine lv_iload hx hb dL_isSpan_153 (lv_at hl 10 rfl) ?_
                refine lv_iload hx hb dL_isSpan_155 (lv_at hl 13 rfl) ?_
                obtain ⟨q47, eq47, h⟩ := e_b h
                refine xv_i (As := [.int x3, .int x4, .int x10, .int x14]) (rest := []) (ci := 5) (b := ad 0) ⟨hx, hb, hml, hown, hts⟩ hl.1 (kX5_ranked l D cA ad block ties lines pmn row tally x3 x4 x10 x14  _ eq47) (cwV 4 hts gL_isSpan_X5_ranked rfl rfl rfl (by decide +kernel) ⟨Nat.le_of_ble_eq_true rfl, Nat.le_of_ble_eq_true rfl⟩) rfl hK hP hD hS hA 0 rfl rfl rfl [0, 1, 2, 3, 4, 5, 6, 7, 8] rfl (by decide +kernel) rfl (Nat.le_of_ble_eq_true rfl) dL_isSpan_157 ⟨show (nc + 1) + 0 ≤ 27 by omega, show (ns + 4) + 0 ≤ 104 by omega⟩ (fun H locs hP hD hS hnq47 => ?_)
                have hP : va_P D vwCl (wL_isSpan cA ad b1 b2 ac n1 n2 block ties lines pmn row q47.2 f1 f2 cC ++ [(q101, .inl (cA 0, 4, .inl a44))]) H := hP
                have hD : va_D A (wL_isSpan cA ad b1 b2 ac n1 n2 block ties lines pmn row q47.2 f1 f2 cC ++ [(q101, .inl (cA 0, 4, .inl a44))]) := hD
                refine lv_aload hx hb dL_isSpan_160 (lv_at hl 12 rfl) ?_
                refine lv_iload hx hb dL_isSpan_162 (lv_at hl 13 rfl) ?_
                obtain ⟨v48, ev48, nv48, h⟩ := e_rd h
                refine xa_iald hx hb hK hP 24 rfl nv48 ev48 dL_isSpan_164 ?_
                refine lv_icmp_ne (tgt := 190) hx hb dL_isSpan_165 (by decide) (fun c49 => ?_) (fun c49 => ?_)
                · have h := e_t c49 h
                  refine lv_iconst (v := 0) hx hb dL_isSpan_190 (by decide) ?_
                  obtain rfl := e_s h
                  refine W.widen (k := 27) (n := 104) (by omega) (by omega) ?_
                  have hP := va_P_pre hP
                  exact hret hP hS (show narrow .boolean (.int 0) = .int 0 from rfl) dL_isSpan_191
                · have h := e_f (not_not_intro c49) h
                  refine lv_iload hx hb dL_isSpan_168 (lv_at hl 10 rfl) ?_
                  refine lv_if_ne (tgt := 192) hx hb dL_isSpan_170 (by decide) (fun c50 => ?_) (fun c50 => ?_)
                  · have h := e_t c50 h
                    refine lv_iinc (v := (x14 + 1)) (lv' := [(14, .int (x14 + 1)), (0, .ref (ad 0)), (1, .ref (b1)), (2, .ref (b2)), (3, .int x3), (4, .int x4), (5, .int x5), (6, .ref (ac 0)), (7, .int x7), (8, .int x8), (9, .int x9), (10, .int x10), (11, .int x11), (13, .ref (q101))]) hx hb dL_isSpan_192 hl (k := 13) rfl rfl (by decide) rfl (fun ls hl => ?_)
                    refine lv_goto (tgt := 143) hx hb dL_isSpan_195 (by decide) ?_
                    exact ih143 x3 x4 x5 x7 x8 x9 x10 x11 (x14 + 1) q47.2 K _ _ _ (lv_sub hl [1, 2, 3, 4, 5, 6, 7, 8, 9, 10, 11, 12, 13, 0] rfl) hP hD hS h hk143
                  · have h := e_f (not_not_intro c50) h
                    refine lv_aload_n hx hb dL_isSpan_173 rfl (lv_at hl 0 rfl) ?_
                    refine lv_iload_n hx hb dL_isSpan_174 rfl (lv_at hl 3 rfl) ?_
                    refine lv_iload hx hb dL_isSpan_175 (lv_at hl 4 rfl) ?_
                    refine lv_iload hx hb dL_isSpan_177 (lv_at hl 13 rfl) ?_
                    obtain ⟨q51, eq51, h⟩ := e_b h
                    refine xv_i (As := [.int x3, .int x4, .int x14]) (rest := []) (ci := 5) (b := ad 0) ⟨hx, hb, hml, hown, hts⟩ hl.1 (kX5_mode l D cA ad block ties lines pmn row q47.2 x3 x4 x14  _ eq51) (cwV 3 hts gL_isSpan_X5_mode rfl rfl rfl (by decide +kernel) ⟨Nat.le_of_ble_eq_true rfl, Nat.le_of_ble_eq_true rfl⟩) rfl hK hP hD hS hA 0 rfl rfl rfl [0, 1, 2, 3, 4, 5, 6, 7, 8] rfl (by decide +kernel) rfl (Nat.le_of_ble_eq_true rfl) dL_isSpan_179 ⟨show (nc + 1) + 0 ≤ 27 by omega, show (ns + 4) + 0 ≤ 104 by omega⟩ (fun H locs hP hD hS hnq51 => ?_)
                    have hP : va_P D vwCl (wL_isSpan cA ad b1 b2 ac n1 n2 block ties lines pmn row q51.2 f1 f2 cC ++ [(q101, .inl (cA 0, 4, .inl a44))]) H := hP
                    have hD : va_D A (wL_isSpan cA ad b1 b2 ac n1 n2 block ties lines pmn row q51.2 f1 f2 cC ++ [(q101, .inl (cA 0, 4, .inl a44))]) := hD
                    refine lv_aload hx hb dL_isSpan_182 (lv_at hl 12 rfl) ?_
                    refine lv_iload hx hb dL_isSpan_184 (lv_at hl 13 rfl) ?_
                    obtain ⟨v52, ev52, nv52, h⟩ := e_rd h
                    refine xa_iald hx hb hK hP 24 rfl nv52 ev52 dL_isSpan_186 ?_
                    refine lv_icmp_eq (tgt := 192) hx hb dL_isSpan_187 (by decide) (fun c53 => ?_) (fun c53 => ?_)
                    · have h := e_t c53 h
                      refine lv_iinc (v := (x14 + 1)) (lv' := [(14, .int (x14 + 1)), (0, .ref (ad 0)), (1, .ref (b1)), (2, .ref (b2)), (3, .int x3), (4, .int x4), (5, .int x5), (6, .ref (ac 0)), (7, .int x7), (8, .int x8), (9, .int x9), (10, .int x10), (11, .int x11), (13, .ref (q101))]) hx hb dL_isSpan_192 hl (k := 13) rfl rfl (by decide) rfl (fun ls hl => ?_)
                      refine lv_goto (tgt := 143) hx hb dL_isSpan_195 (by decide) ?_
                      exact ih143 x3 x4 x5 x7 x8 x9 x10 x11 (x14 + 1) q51.2 K _ _ _ (lv_sub hl [1, 2, 3, 4, 5, 6, 7, 8, 9, 10, 11, 12, 13, 0] rfl) hP hD hS h hk143
                    · have h := e_f c53 h
                      refine lv_iconst (v := 0) hx hb dL_isSpan_190 (by decide) ?_
                      obtain rfl := e_s h
                      refine W.widen (k := 27) (n := 104) (by omega) (by omega) ?_
                      have hP := va_P_pre hP
                      exact hret hP hS (show narrow .boolean (.int 0) = .int 0 from rfl) dL_isSpan_191
          refine hL143 FU x3 x4 x5 x7 z33.1 z33.2 x10 q26 0 tally _ _ _ _ (lv_sub hl [2, 3, 4, 5, 6, 7, 8, 9, 10, 11, 12, 13, 1, 0] rfl) hP hD hS h (fun z54 ls H locs hl hP hD hS h => ?_)
          refine lv_aload_n hx hb dL_isSpan_198 rfl (lv_at hl 0 rfl) ?_
          refine lv_iload_n hx hb dL_isSpan_199 rfl (lv_at hl 3 rfl) ?_
          refine lv_iload hx hb dL_isSpan_200 (lv_at hl 4 rfl) ?_
          refine lv_iload hx hb dL_isSpan_202 (lv_at hl 11 rfl) ?_
          obtain ⟨q55, eq55, h⟩ := e_b h
          refine xv_i (As := [.int x3, .int x4, .int q26]) (rest := []) (ci := 5) (b := ad 0) ⟨hx, hb, hml, hown, hts⟩ hl.1 (kX5_rank l D cA ad block ties lines pmn row z54 x3 x4 q26  _ eq55) (cwV 3 hts gL_isSpan_X5_rank rfl rfl rfl (by decide +kernel) ⟨Nat.le_of_ble_eq_true rfl, Nat.le_of_ble_eq_true rfl⟩) rfl hK hP hD hS hA 0 rfl rfl rfl [0, 1, 2, 3, 4, 5, 6, 7, 8] rfl (by decide +kernel) rfl (Nat.le_of_ble_eq_true rfl) dL_isSpan_204 ⟨show (nc + 1) + 0 ≤ 27 by omega, show (ns + 4) + 0 ≤ 104 by omega⟩ (fun H locs hP hD hS hnq55 => ?_)
          have hP : va_P D vwCl (wL_isSpan cA ad b1 b2 ac n1 n2 block ties lines pmn row q55.2 f1 f2 cC ++ [(q101, .inl (cA 0, 4, .inl a44))]) H := hP
          have hD : va_D A (wL_isSpan cA ad b1 b2 ac n1 n2 block ties lines pmn row q55.2 f1 f2 cC ++ [(q101, .inl (cA 0, 4, .inl a44))]) := hD
          refine lv_iload hx hb dL_isSpan_207 (lv_at hl 10 rfl) ?_
          refine lv_icmp_ne (tgt := 231) hx hb dL_isSpan_209 (by decide) (fun c56 => ?_) (fun c56 => ?_)
          · have h := e_t c56 h
            refine lv_iconst (v := 0) hx hb dL_isSpan_231 (by decide) ?_
            obtain rfl := e_s h
            refine W.widen (k := 27) (n := 104) (by omega) (by omega) ?_
            have hP := va_P_pre hP
            exact hret hP hS (show narrow .boolean (.int 0) = .int 0 from rfl) dL_isSpan_232
          · have h := e_f (not_not_intro c56) h
            refine lv_aload_n hx hb dL_isSpan_212 rfl (lv_at hl 0 rfl) ?_
            refine lv_iload_n hx hb dL_isSpan_213 rfl (lv_at hl 3 rfl) ?_
            refine lv_iload hx hb dL_isSpan_214 (lv_at hl 4 rfl) ?_
            refine lv_iload hx hb dL_isSpan_216 (lv_at hl 11 rfl) ?_
            obtain ⟨q57, eq57, h⟩ := e_b h
            refine xv_i (As := [.int x3, .int x4, .int q26]) (rest := []) (ci := 5) (b := ad 0) ⟨hx, hb, hml, hown, hts⟩ hl.1 (kX5_often l D cA ad block ties lines pmn row x3 x4 q26  _ eq57) (cwV 3 hts gL_isSpan_X5_often rfl rfl rfl (by decide +kernel) ⟨Nat.le_of_ble_eq_true rfl, Nat.le_of_ble_eq_true rfl⟩) rfl hK hP hD hS hA 0 rfl rfl rfl [0, 1, 2, 3] rfl (by decide +kernel) rfl (Nat.le_of_ble_eq_true rfl) dL_isSpan_218 ⟨show (nc + 1) + 0 ≤ 27 by omega, show (ns + 4) + 0 ≤ 104 by omega⟩ (fun H locs hP hD hS hnq57 => ?_)
            have hP : va_P D vwCl (wL_isSpan cA ad b1 b2 ac n1 n2 block ties lines pmn row q55.2 f1 f2 cC ++ [(q101, .inl (cA 0, 4, .inl a44))]) H := hP
            have hD : va_D A (wL_isSpan cA ad b1 b2 ac n1 n2 block ties lines pmn row q55.2 f1 f2 cC ++ [(q101, .inl (cA 0, 4, .inl a44))]) := hD
            refine lv_aload hx hb dL_isSpan_221 (lv_at hl 6 rfl) ?_
            refine lv_iload hx hb dL_isSpan_223 (lv_at hl 11 rfl) ?_
            obtain ⟨j58, ej58, nj58, hltj58, h⟩ := e_rx h
            refine xa_aaldA hx hb hK hP 11 rfl nj58 ej58 dL_isSpan_225 ?_
            refine lv_iconst (v := 0) hx hb dL_isSpan_226 (by decide) ?_
            obtain ⟨v59, ev59, nv59, h⟩ := e_rd h
            refine xa_iald hx hb hK hP (12 + j58) ((by rcases k12 hltj58 with rfl | rfl | rfl | rfl | rfl | rfl | rfl | rfl | rfl | rfl | rfl | rfl <;> rfl : (wL_isSpan cA ad b1 b2 ac n1 n2 block ties lines pmn row q55.2 f1 f2 cC ++ [(q101, .inl (cA 0, 4, .inl a44))])[(12 + j58)]? = some (ac (1 + j58), .inl (cA 0, 3, .inl (cC j58))))) nv59 ev59 dL_isSpan_227 ?_
            refine lv_icmp_eq (tgt := 233) hx hb dL_isSpan_228 (by decide) (fun c60 => ?_) (fun c60 => ?_)
            · have h := e_t c60 h
              refine lv_iinc (v := (x7 + 1)) (lv' := [(7, .int (x7 + 1)), (0, .ref (ad 0)), (1, .ref (b1)), (2, .ref (b2)), (3, .int x3), (4, .int x4), (5, .int x5), (6, .ref (ac 0)), (8, .int z33.1), (9, .int z33.2), (10, .int x10), (11, .int q26)]) hx hb dL_isSpan_233 hl (k := 7) rfl rfl (by decide) rfl (fun ls hl => ?_)
              refine lv_iinc (v := (x10 + 1)) (lv' := [(10, .int (x10 + 1)), (7, .int (x7 + 1)), (0, .ref (ad 0)), (1, .ref (b1)), (2, .ref (b2)), (3, .int x3), (4, .int x4), (5, .int x5), (6, .ref (ac 0)), (8, .int z33.1), (9, .int z33.2), (11, .int q26)]) hx hb dL_isSpan_236 hl (k := 10) rfl rfl (by decide) rfl (fun ls hl => ?_)
              refine lv_goto (tgt := 21) hx hb dL_isSpan_239 (by decide) ?_
              exact ih21 x3 x4 x5 (x7 + 1) z33.1 z33.2 (x10 + 1) q55.2 a44 (nc + 1) (ns + 4) (by omega) (by omega) _ _ _ (lv_sub hl [2, 3, 4, 5, 6, 7, 8, 1, 9, 10, 0] rfl) (va_P_pre hP) (va_D_pre hD) hS h
            · have h := e_f c60 h
              refine lv_iconst (v := 0) hx hb dL_isSpan_231 (by decide) ?_
              obtain rfl := e_s h
              refine W.widen (k := 27) (n := 104) (by omega) (by omega) ?_
              have hP := va_P_pre hP
              exact hret hP hS (show narrow .boolean (.int 0) = .int 0 from rfl) dL_isSpan_232
        have h := ez33
        refine lv_icmp_le (tgt := 100) hx hb dL_isSpan_89 (by decide) (fun c61 => ?_) (fun c61 => ?_)
        · have h := e_t c61 h
          obtain rfl := e_s h
          exact hJ34 _ _ _ (lv_sub hl [0, 1, 2, 3, 4, 5, 6, 7, 8, 9, 10, 11] rfl) hP hD hS
        · have h := e_f c61 h
          refine lv_iload hx hb dL_isSpan_92 (lv_at hl 11 rfl) ?_
          refine lv_istore (lv' := [(8, .int q26), (0, .ref (ad 0)), (1, .ref (b1)), (2, .ref (b2)), (3, .int x3), (4, .int x4), (5, .int x5), (6, .ref (ac 0)), (7, .int x7), (9, .int x9), (10, .int x10), (11, .int q26), (12, .int z32)]) hx hb dL_isSpan_94 hl (by decide) rfl (fun ls hl => ?_)
          refine lv_iload hx hb dL_isSpan_96 (lv_at hl 12 rfl) ?_
          refine lv_istore (lv' := [(9, .int z32), (8, .int q26), (0, .ref (ad 0)), (1, .ref (b1)), (2, .ref (b2)), (3, .int x3), (4, .int x4), (5, .int x5), (6, .ref (ac 0)), (7, .int x7), (10, .int x10), (11, .int q26), (12, .int z32)]) hx hb dL_isSpan_98 hl (by decide) rfl (fun ls hl => ?_)
          obtain rfl := e_s h
          exact hJ34 _ _ _ (lv_sub hl [2, 3, 4, 5, 6, 7, 8, 9, 1, 0, 10, 11] rfl) hP hD hS
  exact hL21 14 x3 x4 x5 0 (-1) 0 0 tally (fun _ => 0) 13 48 (Nat.le_of_ble_eq_true rfl) (Nat.le_of_ble_eq_true rfl) _ _ _ (lv_sub hl [4, 5, 6, 7, 8, 9, 10, 3, 2, 1, 0] rfl) hP hD hS h

/-! row: the row as it is told -/
def rwT (f : Nat → Int32) (i : Nat) : Nat → Int32 := fun j => if j < i then f j else 0
theorem rwT_up (f : Nat → Int32) (i : Nat) : upd (rwT f i) i (f i) = rwT f (i + 1) := by
  funext j
  unfold rwT upd
  by_cases h : j = i
  · subst h; simp
  · simp only [if_neg h]
    by_cases z : j < i
    · rw [if_pos z, if_pos (by omega)]
    · rw [if_neg z, if_neg (by omega)]
theorem rwT_0 (f : Nat → Int32) : rwT f 0 = (fun _ => 0) := by funext j; unfold rwT; rw [if_neg (Nat.not_lt_zero j)]
set_option maxHeartbeats 4000000 in
set_option maxRecDepth 100000 in
theorem kL_row_i (l : Launch) (D : va_G) (cA : Nat → ClassId) {p : Program} {e : Env} {s : State} {m : MethodId} {args : Array Value} {below : List Frame} {meth : Method} {c : Code} {A : Nat → Prop} {ls : Array Slot} {Q : State → Prop} {H : Heap} {locs : List Loc} (hx : p.tables.exec = Jvm.exec) (hb : c.code = cL_row) (hml : c.maxLocals = 3) (hts : ∀ w ∈ wsL_row, w.before args s = true) (hown : s.vm.findClass yL_row.cls = some m.cls) (hK : va_K D vwCl (TY cA) s) (hA : ∀ q : Nat, s.heap.size ≤ q → A q) (hS : va_S A s.heap H locs) (ad : Nat → Nat) (block : Int32) (ties : Int32) (lines : Int32) (pmn : Int32) (tape : TapT) (rdr : RdrT) (rrow : RowT) (row : RowT) (next : RowT) (past : PasT) (tally : TalT) (aside : TalT) (ahead : Nat → Int32) (f : Nat → Int32) (n w : Nat) (hn : n ≤ 120) (hp : ∀ i, i < n → mX5_place block row (nI i) 0 = some (f i)) (i : Nat) (hi : i < n)  (hP : va_P D vwCl (wDk cA ad block ties lines pmn tape rdr rrow row next past tally aside ahead ++ [(w, .inl (cA 0, n, .inl (rwT f i)))]) H) (hD : va_D A (wDk cA ad block ties lines pmn tape rdr rrow row next past tally aside ahead ++ [(w, .inl (cA 0, n, .inl (rwT f i)))])) (hl : lv_has ls 3 [(2, .int (nI i)), (1, .ref w), (0, .ref (ad 0))]) (kk : (∀ {H : Heap} {locs : List Loc} {ls : Array Slot}, va_P D vwCl (wDk cA ad block ties lines pmn tape rdr rrow row next past tally aside ahead ++ [(w, .inl (cA 0, n, .inl (rwT f (i + 1))))]) H → va_D A (wDk cA ad block ties lines pmn tape rdr rrow row next past tally aside ahead ++ [(w, .inl (cA 0, n, .inl (rwT f (i + 1))))]) → va_S A s.heap H locs → lv_has ls 3 [(2, .int (nI (i + 1))), (1, .ref w), (0, .ref (ad 0))] → W p l e (headSpec wsL_row { frames := 4, cells := 1, slots := 120, locals := 110 }).room s m args below meth c H locs 1 n Q (F0 m 10 ls []))) : W p l e (headSpec wsL_row { frames := 4, cells := 1, slots := 120, locals := 110 }).room s m args below meth c H locs 1 n Q (F0 m 10 ls []) := by
  refine lv_iload_n hx hb dL_row_10 rfl (lv_at hl 0 rfl) ?_
  refine lv_aload_n hx hb dL_row_11 rfl (lv_at hl 1 rfl) ?_
  refine va_alen (v := nI n) hx hb hK hP 62 0 rfl rfl rfl dL_row_12 ?_
  refine lv_icmp_ge (tgt := 31) hx hb dL_row_13 (by decide) (fun c9 => absurd c9 (nI_ge (by omega) (by omega))) (fun _ => ?_)
  refine lv_aload_n hx hb dL_row_16 rfl (lv_at hl 1 rfl) ?_
  refine lv_iload_n hx hb dL_row_17 rfl (lv_at hl 0 rfl) ?_
  refine lv_aload_n hx hb dL_row_18 rfl (lv_at hl 2 rfl) ?_
  refine lv_iload_n hx hb dL_row_19 rfl (lv_at hl 0 rfl) ?_
  refine lv_iconst (v := 0) hx hb dL_row_20 (by decide) ?_
  refine xv_i (As := [.int (nI i), .int 0]) (rest := [.int (nI i), .ref w]) (ci := 5) (b := ad 0) ⟨hx, hb, hml, hown, hts⟩ hl.1 (kX5_place l D cA ad block ties lines pmn row (nI i) 0 _ (hp i hi)) (cwV 2 hts gL_row_X5_place rfl rfl rfl (by decide +kernel) ⟨Nat.le_of_ble_eq_true rfl, Nat.le_of_ble_eq_true rfl⟩) rfl hK hP hD hS hA 0 rfl rfl rfl [0, 7, 8, 9] rfl (by decide +kernel) rfl (Nat.le_of_ble_eq_true rfl) dL_row_21 ⟨Nat.le_of_ble_eq_true rfl, show n + 0 ≤ 120 by omega⟩ (fun H locs hP hD hS _ => ?_)
  have hP : va_P D vwCl (wDk cA ad block ties lines pmn tape rdr rrow row next past tally aside ahead ++ [(w, .inl (cA 0, n, .inl (rwT f i)))]) H := hP
  have hD : va_D A (wDk cA ad block ties lines pmn tape rdr rrow row next past tally aside ahead ++ [(w, .inl (cA 0, n, .inl (rwT f i)))]) := hD
  refine xa_iast (g := rwT f (i + 1)) hx hb hK hP hD hS 62 rfl (vp_in_nI hi (by omega)) (by rw [nI_clamp (by omega)]; exact rwT_up f i) dL_row_24 (fun H locs hP hD hS => ?_)
  have hP : va_P D vwCl (wDk cA ad block ties lines pmn tape rdr rrow row next past tally aside ahead ++ [(w, .inl (cA 0, n, .inl (rwT f (i + 1))))]) H := hP
  have hD : va_D A (wDk cA ad block ties lines pmn tape rdr rrow row next past tally aside ahead ++ [(w, .inl (cA 0, n, .inl (rwT f (i + 1))))]) := hD
  refine lv_iinc (v := nI (i + 1)) (lv' := [(2, .int (nI (i + 1))), (1, .ref w), (0, .ref (ad 0))]) hx hb dL_row_25 hl (k := 0) rfl ((nI_succ i).symm) (by decide) rfl (fun ls hl => ?_)
  refine lv_goto (tgt := 10) hx hb dL_row_28 (by decide) ?_
  exact kk hP hD hS hl
set_option maxHeartbeats 4000000 in
set_option maxRecDepth 100000 in
theorem kL_row_e (l : Launch) (D : va_G) (cA : Nat → ClassId) {p : Program} {e : Env} {s : State} {m : MethodId} {args : Array Value} {below : List Frame} {meth : Method} {c : Code} {A : Nat → Prop} {ls : Array Slot} {Q : State → Prop} {H : Heap} {locs : List Loc} (hx : p.tables.exec = Jvm.exec) (hb : c.code = cL_row) (hml : c.maxLocals = 3) (hts : ∀ w ∈ wsL_row, w.before args s = true) (hown : s.vm.findClass yL_row.cls = some m.cls) (hK : va_K D vwCl (TY cA) s) (hA : ∀ q : Nat, s.heap.size ≤ q → A q) (hS : va_S A s.heap H locs) (ad : Nat → Nat) (block : Int32) (ties : Int32) (lines : Int32) (pmn : Int32) (tape : TapT) (rdr : RdrT) (rrow : RowT) (row : RowT) (next : RowT) (past : PasT) (tally : TalT) (aside : TalT) (ahead : Nat → Int32) (f : Nat → Int32) (n w : Nat) (hn : n ≤ 120) (hp : ∀ i, i < n → mX5_place block row (nI i) 0 = some (f i))  (hP : va_P D vwCl (wDk cA ad block ties lines pmn tape rdr rrow row next past tally aside ahead ++ [(w, .inl (cA 0, n, .inl (rwT f n)))]) H) (hD : va_D A (wDk cA ad block ties lines pmn tape rdr rrow row next past tally aside ahead ++ [(w, .inl (cA 0, n, .inl (rwT f n)))])) (hl : lv_has ls 3 [(2, .int (nI n)), (1, .ref w), (0, .ref (ad 0))]) (kk : ∀ {H : Heap} {locs : List Loc} {ls : Array Slot}, va_P D vwCl (wDk cA ad block ties lines pmn tape rdr rrow row next past tally aside ahead ++ [(w, .inl (cA 0, n, .inl (rwT f n)))]) H → va_D A (wDk cA ad block ties lines pmn tape rdr rrow row next past tally aside ahead ++ [(w, .inl (cA 0, n, .inl (rwT f n)))]) → va_S A s.heap H locs → W p l e (headSpec wsL_row { frames := 4, cells := 1, slots := 120, locals := 110 }).room s m args below meth c H locs 1 n Q (F0 m 32 ls [.ref w])) : W p l e (headSpec wsL_row { frames := 4, cells := 1, slots := 120, locals := 110 }).room s m args below meth c H locs 1 n Q (F0 m 10 ls []) := by
  refine lv_iload_n hx hb dL_row_10 rfl (lv_at hl 0 rfl) ?_
  refine lv_aload_n hx hb dL_row_11 rfl (lv_at hl 1 rfl) ?_
  refine va_alen (v := nI n) hx hb hK hP 62 0 rfl rfl rfl dL_row_12 ?_
  refine lv_icmp_ge (tgt := 31) hx hb dL_row_13 (by decide) (fun _ => ?_) (fun c9 => absurd (nI_le (Nat.le_refl _) (by omega)) c9)
  refine lv_aload_n hx hb dL_row_31 rfl (lv_at hl 1 rfl) ?_
  exact kk hP hD hS
set_option maxHeartbeats 4000000 in
set_option maxRecDepth 100000 in
theorem kL_row_l (l : Launch) (D : va_G) (cA : Nat → ClassId) {p : Program} {e : Env} {s : State} {m : MethodId} {args : Array Value} {below : List Frame} {meth : Method} {c : Code} {A : Nat → Prop} {Q : State → Prop} (hx : p.tables.exec = Jvm.exec) (hb : c.code = cL_row) (hml : c.maxLocals = 3) (hts : ∀ w ∈ wsL_row, w.before args s = true) (hown : s.vm.findClass yL_row.cls = some m.cls) (hK : va_K D vwCl (TY cA) s) (hA : ∀ q : Nat, s.heap.size ≤ q → A q) (ad : Nat → Nat) (block : Int32) (ties : Int32) (lines : Int32) (pmn : Int32) (tape : TapT) (rdr : RdrT) (rrow : RowT) (row : RowT) (next : RowT) (past : PasT) (tally : TalT) (aside : TalT) (ahead : Nat → Int32) (f : Nat → Int32) (n w : Nat) (hn : n ≤ 120) (hp : ∀ i, i < n → mX5_place block row (nI i) 0 = some (f i)) (kk : ∀ {H : Heap} {locs : List Loc} {ls : Array Slot}, va_P D vwCl (wDk cA ad block ties lines pmn tape rdr rrow row next past tally aside ahead ++ [(w, .inl (cA 0, n, .inl (rwT f n)))]) H → va_D A (wDk cA ad block ties lines pmn tape rdr rrow row next past tally aside ahead ++ [(w, .inl (cA 0, n, .inl (rwT f n)))]) → va_S A s.heap H locs → W p l e (headSpec wsL_row { frames := 4, cells := 1, slots := 120, locals := 110 }).room s m args below meth c H locs 1 n Q (F0 m 32 ls [.ref w])) : ∀ (k i : Nat), i + k = n → ∀ {H : Heap} {locs : List Loc} {ls : Array Slot}, va_P D vwCl (wDk cA ad block ties lines pmn tape rdr rrow row next past tally aside ahead ++ [(w, .inl (cA 0, n, .inl (rwT f i)))]) H → va_D A (wDk cA ad block ties lines pmn tape rdr rrow row next past tally aside ahead ++ [(w, .inl (cA 0, n, .inl (rwT f i)))]) → va_S A s.heap H locs → lv_has ls 3 [(2, .int (nI i)), (1, .ref w), (0, .ref (ad 0))] → W p l e (headSpec wsL_row { frames := 4, cells := 1, slots := 120, locals := 110 }).room s m args below meth c H locs 1 n Q (F0 m 10 ls []) := by
  intro k
  induction k with
  | zero =>
    intro i hi H locs ls hP hD hS hl
    have hi : i = n := hi
    subst hi
    exact kL_row_e l D cA hx hb hml hts hown hK hA hS ad block ties lines pmn tape rdr rrow row next past tally aside ahead f _ w hn hp hP hD hl kk
  | succ k ih =>
    intro i hi H locs ls hP hD hS hl
    exact kL_row_i l D cA hx hb hml hts hown hK hA hS ad block ties lines pmn tape rdr rrow row next past tally aside ahead f n w hn hp i (by omega) hP hD hl (fun hP hD hS hl => ih (i + 1) (by omega) hP hD hS hl)
set_option maxHeartbeats 4000000 in
set_option maxRecDepth 100000 in
theorem kL_row (l : Launch) (D : va_G) (cA : Nat → ClassId) (ad : Nat → Nat) (block : Int32) (ties : Int32) (lines : Int32) (pmn : Int32) (tape : TapT) (rdr : RdrT) (rrow : RowT) (row : RowT) (next : RowT) (past : PasT) (tally : TalT) (aside : TalT) (ahead : Nat → Int32) (f : Nat → Int32) (n : Nat) (hn : n ≤ 120) (hp : ∀ i, i < n → mX5_place block row (nI i) 0 = some (f i)) (tal' : TalT) (hc : mX5_count block ties lines tape row past tally 0 = some (nI n, tal'))  : MXr l yL_row wsL_row { frames := 4, cells := 1, slots := 120, locals := 110 } D cA E0 [.ref (ad 0)] (wDk cA ad block ties lines pmn tape rdr rrow row next past tally aside ahead) (fun u => (wDk cA ad block ties lines pmn tape rdr rrow row next past tal' aside ahead) ++ [(u.1 0, .inl (cA 0, n, .inl (rwT f n)))]) (fun _ => True) (fun u => u.1 0) 1 120 := by
  refine MXr.of (cc := cL_row) (maxL := 3) (by decide) rfl (Or.inr ⟨_, rfl⟩) (Nat.le_of_ble_eq_true rfl) ?_
  intro p e s m args below meth c A ls Q hx hb hml hin hts hown hK hE hP hD hA hS hl hret
  have hl : lv_has ls 3 [(0, .ref (ad 0))] := hl
  refine lv_aload_n hx hb dL_row_0 rfl (lv_at hl 0 rfl) ?_
  refine lv_iconst (v := 0) hx hb dL_row_1 (by decide) ?_
  refine xv_i (As := [.int 0]) (rest := []) (ci := 5) (b := ad 0) ⟨hx, hb, hml, hown, hts⟩ hl.1 (kX5_count l D cA ad block ties lines pmn tape row past tally 0 (nI n, tal') hc) (cwV 1 hts gL_row_X5_count rfl rfl rfl (by decide +kernel) ⟨Nat.le_of_ble_eq_true rfl, Nat.le_of_ble_eq_true rfl⟩) rfl hK hP hD hS hA 0 rfl rfl rfl [0, 1, 2, 7, 8, 9, 13, 14, 15, 16, 17, 18, 19, 20, 21, 22, 23, 24, 25, 26, 27, 28, 29, 30, 31, 32, 33, 34, 35, 36, 37, 38, 39, 40, 41, 42, 43, 44, 45, 46, 47, 48, 49, 50, 51, 52, 53, 54, 55] rfl (by decide +kernel) rfl (Nat.le_of_ble_eq_true rfl) dL_row_2 ⟨Nat.le_of_ble_eq_true rfl, Nat.le_of_ble_eq_true rfl⟩ (fun H locs hP hD hS _ => ?_)
  have hP : va_P D vwCl (wDk cA ad block ties lines pmn tape rdr rrow row next past tal' aside ahead) H := hP
  have hD : va_D A (wDk cA ad block ties lines pmn tape rdr rrow row next past tal' aside ahead) := hD
  refine xa_newi (N' := n) hx hb (hts (.arrayClass .int) (by decide +kernel)) hK hP hD hS hA (nI_pos (by omega)) (nI_clamp (by omega)) (by omega) (Nat.le_of_ble_eq_true rfl) (show 0 + n ≤ 120 by omega) dL_row_5 (fun q1 H hP hD hS => ?_)
  have hP : va_P D vwCl (wDk cA ad block ties lines pmn tape rdr rrow row next past tal' aside ahead ++ [(q1, .inl (cA 0, n, .inl (fun _ => 0)))]) H := hP
  have hD : va_D A (wDk cA ad block ties lines pmn tape rdr rrow row next past tal' aside ahead ++ [(q1, .inl (cA 0, n, .inl (fun _ => 0)))]) := hD
  refine lv_astore_n (lv' := [(1, .ref q1), (0, .ref (ad 0))]) hx hb dL_row_7 rfl hl (by decide) rfl (fun ls hl => ?_)
  refine lv_iconst (v := 0) hx hb dL_row_8 (by decide) ?_
  refine lv_istore_n (lv' := [(2, .int 0), (1, .ref q1), (0, .ref (ad 0))]) hx hb dL_row_9 rfl hl (by decide) rfl (fun ls hl => ?_)
  have hP : va_P D vwCl (wDk cA ad block ties lines pmn tape rdr rrow row next past tal' aside ahead ++ [(q1, .inl (cA 0, n, .inl (rwT f 0)))]) H := by rw [rwT_0]; exact hP
  have hD : va_D A (wDk cA ad block ties lines pmn tape rdr rrow row next past tal' aside ahead ++ [(q1, .inl (cA 0, n, .inl (rwT f 0)))]) := by rw [rwT_0]; exact hD
  have hl : lv_has ls 3 [(2, .int (nI 0)), (1, .ref q1), (0, .ref (ad 0))] := hl
  refine W.widen (k := 1) (n := n) (by omega) (by omega) ?_
  refine kL_row_l l D cA hx hb hml hts hown hK hA ad block ties lines pmn tape rdr rrow row next past tal' aside ahead f n q1 hn hp (fun hP hD hS => ?_) n 0 (Nat.zero_add n) hP hD hS hl
  refine W.widen (k := 1) (n := 120) (by omega) (by omega) ?_
  exact hret (fun _ => q1, fun _ => 0, 0) trivial hP hD hS dL_row_32

theorem mX0_ago_lt {past : PasT} {x1 : Int32} {q : Nat} (h : mX0_ago past x1 = some q) : q < 12 := by
  unfold mX0_ago at h
  obtain ⟨q1, eq1, h⟩ := e_b h
  obtain ⟨j2, ej2, nj2, hltj2, h⟩ := e_rx h
  obtain rfl := e_s h
  exact hltj2
set_option maxHeartbeats 4000000 in
set_option maxRecDepth 100000 in
theorem kX5_isValue (l : Launch) (D : va_G) (cA : Nat → ClassId)   (x0 : Int32) (q : Int32) (h : mX5_isValue  x0 = some q) : MI l yX5_isValue wsX5_isValue { frames := 0, cells := 0, slots := 0, locals := 0 } D cA .boolean [.int x0] [] [] q := by
  refine MI.of (cc := cX5_isValue) (maxL := 1) (by decide +kernel) rfl rfl rfl (Nat.le_of_ble_eq_true rfl) ?_
  intro p e s m args below meth c A ls Q hx hb hml hts hown hK hP hD hA hS hl hret
  have hl : lv_has ls 1 [(0, .int x0)] := hl
  unfold mX5_isValue at h
  refine lv_iload_n hx hb dX5_isValue_0 rfl (lv_at hl 0 rfl) ?_
  refine lv_if_lt (tgt := 15) hx hb dX5_isValue_1 (by decide) (fun c1 => ?_) (fun c1 => ?_)
  · have h := e_t c1 h
    refine lv_iconst (v := 0) hx hb dX5_isValue_15 (by decide) ?_
    obtain rfl := e_s h
    exact hret hP hS (show narrow .boolean (.int 0) = .int 0 from rfl) dX5_isValue_16
  · have h := e_f c1 h
    refine lv_iload_n hx hb dX5_isValue_4 rfl (lv_at hl 0 rfl) ?_
    refine lv_sipush (v := 1000) hx hb dX5_isValue_5 (by decide) ?_
    refine lv_icmp_ge (tgt := 15) hx hb dX5_isValue_8 (by decide) (fun c2 => ?_) (fun c2 => ?_)
    · have h := e_t c2 h
      refine lv_iconst (v := 0) hx hb dX5_isValue_15 (by decide) ?_
      obtain rfl := e_s h
      exact hret hP hS (show narrow .boolean (.int 0) = .int 0 from rfl) dX5_isValue_16
    · have h := e_f c2 h
      refine lv_iconst (v := 1) hx hb dX5_isValue_11 (by decide) ?_
      refine lv_goto (tgt := 16) hx hb dX5_isValue_12 (by decide) ?_
      obtain rfl := e_s h
      exact hret hP hS (show narrow .boolean (.int 1) = .int 1 from rfl) dX5_isValue_16
set_option maxHeartbeats 4000000 in
set_option maxRecDepth 100000 in
theorem kX2_take (l : Launch) (D : va_G) (cA : Nat → ClassId) (ad : Nat → Nat) (ao : Nat → Nat) (t : RowT) (o : RowT)  (q : RowT) (h : mX2_take t o  = some q) : MV l yX2_take wsX2_take { frames := 0, cells := 0, slots := 0, locals := 0 } D cA [.ref (ad 0), .ref (ao 0)] (wX2X2 cA ad ao t o) (wX2X2 cA ad ao q o) := by
  refine MV.of (cc := cX2_take) (maxL := 3) (by decide) rfl rfl rfl (Nat.le_of_ble_eq_true rfl) ?_
  intro p e s m args below meth c A ls Q hx hb hml hts hown hK hP hD hA hS hl hret
  have hl : lv_has ls 3 [(0, .ref (ad 0)), (1, .ref (ao 0))] := hl
  have f15 := hts (.fieldLink RX2 15 "ModeDesk$Row" "weights" "[I") (by decide +kernel)
  have f18 := hts (.fieldLink RX2 18 "ModeDesk$Row" "size" "I") (by decide +kernel)
  have f9 := hts (.fieldLink RX2 9 "ModeDesk$Row" "values" "[I") (by decide +kernel)
  have iX2 : ∀ w ∈ wsX20, w ∈ wsX2_take := by decide +kernel
  unfold mX2_take at h
  refine lv_aload_n hx hb dX2_take_0 rfl (lv_at hl 0 rfl) ?_
  refine lv_aload_n hx hb dX2_take_1 rfl (lv_at hl 1 rfl) ?_
  refine va_get (D := D) (ci := 2) (v := .int o.2.2) (C := RX2) (T := TX2) (N := 3) hx hb hts iX2 hown hK hP 3 rfl rfl 2 (Nat.le_of_ble_eq_true rfl) f18 (fun _ h9 => h9) rfl dX2_take_2 ?_
  refine va_put (D := D) (ci := 2) (v := .int o.2.2) (ty := .int) (C := RX2) (T := TX2) (N := 3) hx hb hts iX2 tyX2 tyX2_ok nmX2 hown hK hP hD hS 0 rfl rfl 2 (Nat.le_of_ble_eq_true rfl) f18 (fun _ h9 => h9) rfl (tyX2_ok 2 (Nat.le_of_ble_eq_true rfl)) rfl rfl (Nat.le_of_ble_eq_true rfl) dX2_take_5 (fun H locs hP hD hS => ?_)
  have hP : va_P D vwCl (wX2X2 cA ad ao (t.1, t.2.1, o.2.2) o) H := hP
  have hD : va_D A (wX2X2 cA ad ao (t.1, t.2.1, o.2.2) o) := hD
  refine lv_iconst (v := 0) hx hb dX2_take_8 (by decide) ?_
  refine lv_istore_n (lv' := [(2, .int 0), (0, .ref (ad 0)), (1, .ref (ao 0))]) hx hb dX2_take_9 rfl hl (by decide) rfl (fun ls hl => ?_)
  have hL10 : ∀ (n : Nat) (x2 : Int32) (t : RowT) (o : RowT) (z1 : RowT) (ls : Array Slot) (H : Heap) (locs : List Loc), lv_has ls 3 [(0, .ref (ad 0)), (1, .ref (ao 0)), (2, .int x2)] → va_P D vwCl (wX2X2 cA ad ao t o) H → va_D A (wX2X2 cA ad ao t o) → va_S A s.heap H locs → mX2_take_L10 o n x2 t = some z1 → (∀ (ls : Array Slot) (H : Heap) (locs : List Loc), lv_has ls 3 [] → va_P D vwCl (wX2X2 cA ad ao z1 o) H → va_D A (wX2X2 cA ad ao z1 o) → va_S A s.heap H locs → W p l e (headSpec wsX2_take { frames := 0, cells := 0, slots := 0, locals := 0 }).room s m args below meth c H locs 0 0 Q (F0 m 48 ls [])) → W p l e (headSpec wsX2_take { frames := 0, cells := 0, slots := 0, locals := 0 }).room s m args below meth c H locs 0 0 Q (F0 m 10 ls []) := by
    intro n
    induction n with
    | zero => intro x2 t o z1 ls H locs hl hP hD hS h hk10; exact e_n h
    | succ n ih10 =>
      intro x2 t o z1 ls H locs hl hP hD hS h hk10
      rw [mX2_take_L10.eq_2] at h
      refine lv_iload_n hx hb dX2_take_10 rfl (lv_at hl 2 rfl) ?_
      refine lv_aload_n hx hb dX2_take_11 rfl (lv_at hl 0 rfl) ?_
      refine va_get (D := D) (ci := 2) (v := .int t.2.2) (C := RX2) (T := TX2) (N := 3) hx hb hts iX2 hown hK hP 0 rfl rfl 2 (Nat.le_of_ble_eq_true rfl) f18 (fun _ h9 => h9) rfl dX2_take_12 ?_
      refine lv_icmp_ge (tgt := 48) hx hb dX2_take_15 (by decide) (fun c2 => ?_) (fun c2 => ?_)
      · have h := e_t c2 h
        obtain rfl := e_s h
        exact hk10 _ _ _ (lv_sub hl [] rfl) hP hD hS
      · have h := e_f c2 h
        refine lv_aload_n hx hb dX2_take_18 rfl (lv_at hl 0 rfl) ?_
        refine va_get (D := D) (ci := 2) (v := .ref (ad 1)) (C := RX2) (T := TX2) (N := 3) hx hb hts iX2 hown hK hP 0 rfl rfl 0 (Nat.le_of_ble_eq_true rfl) f9 (fun _ h9 => h9) rfl dX2_take_19 ?_
        refine lv_iload_n hx hb dX2_take_22 rfl (lv_at hl 2 rfl) ?_
        refine lv_aload_n hx hb dX2_take_23 rfl (lv_at hl 1 rfl) ?_
        refine va_get (D := D) (ci := 2) (v := .ref (ao 1)) (C := RX2) (T := TX2) (N := 3) hx hb hts iX2 hown hK hP 3 rfl rfl 0 (Nat.le_of_ble_eq_true rfl) f9 (fun _ h9 => h9) rfl dX2_take_24 ?_
        refine lv_iload_n hx hb dX2_take_27 rfl (lv_at hl 2 rfl) ?_
        obtain ⟨v3, ev3, nv3, h⟩ := e_rd h
        refine xa_iald hx hb hK hP 4 rfl nv3 ev3 dX2_take_28 ?_
        obtain ⟨a4, ea4, na4, h⟩ := e_wr h
        refine xa_iast hx hb hK hP hD hS 1 rfl na4 ea4 dX2_take_29 (fun H locs hP hD hS => ?_)
        have hP : va_P D vwCl (wX2X2 cA ad ao (a4, t.2.1, t.2.2) o) H := hP
        have hD : va_D A (wX2X2 cA ad ao (a4, t.2.1, t.2.2) o) := hD
        refine lv_aload_n hx hb dX2_take_30 rfl (lv_at hl 0 rfl) ?_
        refine va_get (D := D) (ci := 2) (v := .ref (ad 2)) (C := RX2) (T := TX2) (N := 3) hx hb hts iX2 hown hK hP 0 rfl rfl 1 (Nat.le_of_ble_eq_true rfl) f15 (fun _ h9 => h9) rfl dX2_take_31 ?_
        refine lv_iload_n hx hb dX2_take_34 rfl (lv_at hl 2 rfl) ?_
        refine lv_aload_n hx hb dX2_take_35 rfl (lv_at hl 1 rfl) ?_
        refine va_get (D := D) (ci := 2) (v := .ref (ao 2)) (C := RX2) (T := TX2) (N := 3) hx hb hts iX2 hown hK hP 3 rfl rfl 1 (Nat.le_of_ble_eq_true rfl) f15 (fun _ h9 => h9) rfl dX2_take_36 ?_
        refine lv_iload_n hx hb dX2_take_39 rfl (lv_at hl 2 rfl) ?_
        obtain ⟨v5, ev5, nv5, h⟩ := e_rd h
        refine xa_iald hx hb hK hP 5 rfl nv5 ev5 dX2_take_40 ?_
        obtain ⟨a6, ea6, na6, h⟩ := e_wr h
        refine xa_iast hx hb hK hP hD hS 2 rfl na6 ea6 dX2_take_41 (fun H locs hP hD hS => ?_)
        have hP : va_P D vwCl (wX2X2 cA ad ao (a4, a6, t.2.2) o) H := hP
        have hD : va_D A (wX2X2 cA ad ao (a4, a6, t.2.2) o) := hD
        refine lv_iinc (v := (x2 + 1)) (lv' := [(2, .int (x2 + 1)), (0, .ref (ad 0)), (1, .ref (ao 0))]) hx hb dX2_take_42 hl (k := 2) rfl rfl (by decide) rfl (fun ls hl => ?_)
        refine lv_goto (tgt := 10) hx hb dX2_take_45 (by decide) ?_
        exact ih10 (x2 + 1) (a4, a6, t.2.2) o z1 _ _ _ (lv_sub hl [1, 2, 0] rfl) hP hD hS h hk10
  obtain ⟨z7, ez7, h⟩ := e_b h
  refine hL10 FU 0 (t.1, t.2.1, o.2.2) o z7 _ _ _ (lv_sub hl [1, 2, 0] rfl) hP hD hS ez7 (fun ls H locs hl hP hD hS => ?_)
  obtain rfl := e_s h
  exact hret hP hS dX2_take_48
set_option maxHeartbeats 4000000 in
set_option maxRecDepth 100000 in
theorem kX0_keep (l : Launch) (D : va_G) (cA : Nat → ClassId) (ad : Nat → Nat) (ao : Nat → Nat) (past : PasT) (o : RowT)  (q : PasT) (h : mX0_keep past o  = some q) : MV l yX0_keep wsX0_keep { frames := 1, cells := 0, slots := 0, locals := 24 } D cA [.ref (ad 0), .ref (ao 0)] (wX0X2 cA ad ao past o) (wX0X2 cA ad ao q o) := by
  refine MV.of (cc := cX0_keep) (maxL := 2) (by decide) rfl rfl rfl (Nat.le_of_ble_eq_true rfl) ?_
  intro p e s m args below meth c A ls Q hx hb hml hts hown hK hP hD hA hS hl hret
  have hl : lv_has ls 2 [(0, .ref (ad 0)), (1, .ref (ao 0))] := hl
  have f11 := hts (.fieldLink RX0 11 "ModeDesk$Past" "rows" "[LModeDesk$Row;") (by decide +kernel)
  have f17 := hts (.fieldLink RX0 17 "ModeDesk$Past" "held" "I") (by decide +kernel)
  have f21 := hts (.fieldLink RX0 21 "ModeDesk$Past" "latest" "I") (by decide +kernel)
  have iX0 : ∀ w ∈ wsX00, w ∈ wsX0_keep := by decide +kernel
  unfold mX0_keep at h
  refine lv_aload_n hx hb dX0_keep_0 rfl (lv_at hl 0 rfl) ?_
  refine lv_aload_n hx hb dX0_keep_1 rfl (lv_at hl 0 rfl) ?_
  refine va_get (D := D) (ci := 0) (v := .int past.2.2) (C := RX0) (T := TX0) (N := 3) hx hb hts iX0 hown hK hP 0 rfl rfl 2 (Nat.le_of_ble_eq_true rfl) f21 (fun _ h9 => h9) rfl dX0_keep_2 ?_
  refine lv_iconst (v := 1) hx hb dX0_keep_5 (by decide) ?_
  refine lv_iadd hx hb dX0_keep_6 ?_
  refine lv_bipush (v := 12) hx hb dX0_keep_7 (by decide) ?_
  obtain ⟨v1, ev1, nv1, h⟩ := e_rm h
  refine xa_irem hx hb dX0_keep_9 nv1 ev1 ?_
  refine va_put (D := D) (ci := 0) (v := .int v1) (ty := .int) (C := RX0) (T := TX0) (N := 3) hx hb hts iX0 tyX0 tyX0_ok nmX0 hown hK hP hD hS 0 rfl rfl 2 (Nat.le_of_ble_eq_true rfl) f21 (fun _ h9 => h9) rfl (tyX0_ok 2 (Nat.le_of_ble_eq_true rfl)) rfl rfl (Nat.le_of_ble_eq_true rfl) dX0_keep_10 (fun H locs hP hD hS => ?_)
  have hP : va_P D vwCl (wX0X2 cA ad ao (past.1, past.2.1, v1) o) H := hP
  have hD : va_D A (wX0X2 cA ad ao (past.1, past.2.1, v1) o) := hD
  refine lv_aload_n hx hb dX0_keep_13 rfl (lv_at hl 0 rfl) ?_
  refine va_get (D := D) (ci := 0) (v := .ref (ad 1)) (C := RX0) (T := TX0) (N := 3) hx hb hts iX0 hown hK hP 0 rfl rfl 0 (Nat.le_of_ble_eq_true rfl) f11 (fun _ h9 => h9) rfl dX0_keep_14 ?_
  refine lv_aload_n hx hb dX0_keep_17 rfl (lv_at hl 0 rfl) ?_
  refine va_get (D := D) (ci := 0) (v := .int v1) (C := RX0) (T := TX0) (N := 3) hx hb hts iX0 hown hK hP 0 rfl rfl 2 (Nat.le_of_ble_eq_true rfl) f21 (fun _ h9 => h9) rfl dX0_keep_18 ?_
  obtain ⟨j2, ej2, nj2, hltj2, h⟩ := e_rx h
  refine xa_aald hx hb hK hP 1 rfl nj2 ej2 dX0_keep_21 ?_
  obtain hjj2 := k12 hltj2
  rcases hjj2 with rfl | hjj2
  · refine lv_aload_n hx hb dX0_keep_22 rfl (lv_at hl 1 rfl) ?_
    obtain ⟨q3, eq3, h⟩ := e_b h
    refine xv_v (As := [.ref (ao 0)]) (rest := []) (ci := 2) (b := ad 2) ⟨hx, hb, hml, hown, hts⟩ hl.1 (kX2_take l D cA (fun i => ad (2 + i)) ao (past.1 0) o   _ eq3) (cwV 1 hts gX0_keep_X2_take rfl rfl rfl (by decide +kernel) ⟨Nat.le_of_ble_eq_true rfl, Nat.le_of_ble_eq_true rfl⟩) rfl hK hP hD hS hA 2 rfl rfl rfl [2, 3, 4, 38, 39, 40] rfl (by decide +kernel) rfl (Nat.le_of_ble_eq_true rfl) dX0_keep_23 ⟨Nat.zero_le _, Nat.zero_le _⟩ (fun H locs hP hD hS => ?_)
    have hP : va_P D vwCl (wX0X2 cA ad ao ((va_up past.1 0 q3), past.2.1, v1) o) H := hP
    have hD : va_D A (wX0X2 cA ad ao ((va_up past.1 0 q3), past.2.1, v1) o) := hD
    refine lv_aload_n hx hb dX0_keep_26 rfl (lv_at hl 0 rfl) ?_
    refine lv_aload_n hx hb dX0_keep_27 rfl (lv_at hl 0 rfl) ?_
    refine va_get (D := D) (ci := 0) (v := .int past.2.1) (C := RX0) (T := TX0) (N := 3) hx hb hts iX0 hown hK hP 0 rfl rfl 1 (Nat.le_of_ble_eq_true rfl) f17 (fun _ h9 => h9) rfl dX0_keep_28 ?_
    refine lv_iconst (v := 1) hx hb dX0_keep_31 (by decide) ?_
    refine lv_iadd hx hb dX0_keep_32 ?_
    refine lv_bipush (v := 12) hx hb dX0_keep_33 (by decide) ?_
    refine va_mmin hx hb (by rw [hml, hl.1]) hown (hts (.methodLink RX0 29 Lib.Math.min.name) (by decide +kernel)) (hts (.static Lib.Math.min.name) (by decide +kernel)) (hts (.initialized "java/lang/Math") (by decide +kernel)) (hts (.code Lib.Math.min.name Lib.Math.min.code 2 (some .int)) (by decide +kernel)) (Nat.le_of_ble_eq_true rfl) (Nat.le_of_ble_eq_true rfl) (Nat.zero_le _) (Nat.zero_le _) dX0_keep_35 ?_
    refine va_put (D := D) (ci := 0) (v := .int (if 12 < (past.2.1 + 1) then 12 else (past.2.1 + 1))) (ty := .int) (C := RX0) (T := TX0) (N := 3) hx hb hts iX0 tyX0 tyX0_ok nmX0 hown hK hP hD hS 0 rfl rfl 1 (Nat.le_of_ble_eq_true rfl) f17 (fun _ h9 => h9) rfl (tyX0_ok 1 (Nat.le_of_ble_eq_true rfl)) rfl rfl (Nat.le_of_ble_eq_true rfl) dX0_keep_38 (fun H locs hP hD hS => ?_)
    have hP : va_P D vwCl (wX0X2 cA ad ao ((va_up past.1 0 q3), (if 12 < (past.2.1 + 1) then 12 else (past.2.1 + 1)), v1) o) H := hP
    have hD : va_D A (wX0X2 cA ad ao ((va_up past.1 0 q3), (if 12 < (past.2.1 + 1) then 12 else (past.2.1 + 1)), v1) o) := hD
    obtain rfl := e_s h
    exact hret hP hS dX0_keep_41
  rcases hjj2 with rfl | hjj2
  · refine lv_aload_n hx hb dX0_keep_22 rfl (lv_at hl 1 rfl) ?_
    obtain ⟨q3, eq3, h⟩ := e_b h
    refine xv_v (As := [.ref (ao 0)]) (rest := []) (ci := 2) (b := ad 5) ⟨hx, hb, hml, hown, hts⟩ hl.1 (kX2_take l D cA (fun i => ad (5 + i)) ao (past.1 1) o   _ eq3) (cwV 1 hts gX0_keep_X2_take rfl rfl rfl (by decide +kernel) ⟨Nat.le_of_ble_eq_true rfl, Nat.le_of_ble_eq_true rfl⟩) rfl hK hP hD hS hA 5 rfl rfl rfl [5, 6, 7, 38, 39, 40] rfl (by decide +kernel) rfl (Nat.le_of_ble_eq_true rfl) dX0_keep_23 ⟨Nat.zero_le _, Nat.zero_le _⟩ (fun H locs hP hD hS => ?_)
    have hP : va_P D vwCl (wX0X2 cA ad ao ((va_up past.1 1 q3), past.2.1, v1) o) H := hP
    have hD : va_D A (wX0X2 cA ad ao ((va_up past.1 1 q3), past.2.1, v1) o) := hD
    refine lv_aload_n hx hb dX0_keep_26 rfl (lv_at hl 0 rfl) ?_
    refine lv_aload_n hx hb dX0_keep_27 rfl (lv_at hl 0 rfl) ?_
    refine va_get (D := D) (ci := 0) (v := .int past.2.1) (C := RX0) (T := TX0) (N := 3) hx hb hts iX0 hown hK hP 0 rfl rfl 1 (Nat.le_of_ble_eq_true rfl) f17 (fun _ h9 => h9) rfl dX0_keep_28 ?_
    refine lv_iconst (v := 1) hx hb dX0_keep_31 (by decide) ?_
    refine lv_iadd hx hb dX0_keep_32 ?_
    refine lv_bipush (v := 12) hx hb dX0_keep_33 (by decide) ?_
    refine va_mmin hx hb (by rw [hml, hl.1]) hown (hts (.methodLink RX0 29 Lib.Math.min.name) (by decide +kernel)) (hts (.static Lib.Math.min.name) (by decide +kernel)) (hts (.initialized "java/lang/Math") (by decide +kernel)) (hts (.code Lib.Math.min.name Lib.Math.min.code 2 (some .int)) (by decide +kernel)) (Nat.le_of_ble_eq_true rfl) (Nat.le_of_ble_eq_true rfl) (Nat.zero_le _) (Nat.zero_le _) dX0_keep_35 ?_
    refine va_put (D := D) (ci := 0) (v := .int (if 12 < (past.2.1 + 1) then 12 else (past.2.1 + 1))) (ty := .int) (C := RX0) (T := TX0) (N := 3) hx hb hts iX0 tyX0 tyX0_ok nmX0 hown hK hP hD hS 0 rfl rfl 1 (Nat.le_of_ble_eq_true rfl) f17 (fun _ h9 => h9) rfl (tyX0_ok 1 (Nat.le_of_ble_eq_true rfl)) rfl rfl (Nat.le_of_ble_eq_true rfl) dX0_keep_38 (fun H locs hP hD hS => ?_)
    have hP : va_P D vwCl (wX0X2 cA ad ao ((va_up past.1 1 q3), (if 12 < (past.2.1 + 1) then 12 else (past.2.1 + 1)), v1) o) H := hP
    have hD : va_D A (wX0X2 cA ad ao ((va_up past.1 1 q3), (if 12 < (past.2.1 + 1) then 12 else (past.2.1 + 1)), v1) o) := hD
    obtain rfl := e_s h
    exact hret hP hS dX0_keep_41
  rcases hjj2 with rfl | hjj2
  · refine lv_aload_n hx hb dX0_keep_22 rfl (lv_at hl 1 rfl) ?_
    obtain ⟨q3, eq3, h⟩ := e_b h
    refine xv_v (As := [.ref (ao 0)]) (rest := []) (ci := 2) (b := ad 8) ⟨hx, hb, hml, hown, hts⟩ hl.1 (kX2_take l D cA (fun i => ad (8 + i)) ao (past.1 2) o   _ eq3) (cwV 1 hts gX0_keep_X2_take rfl rfl rfl (by decide +kernel) ⟨Nat.le_of_ble_eq_true rfl, Nat.le_of_ble_eq_true rfl⟩) rfl hK hP hD hS hA 8 rfl rfl rfl [8, 9, 10, 38, 39, 40] rfl (by decide +kernel) rfl (Nat.le_of_ble_eq_true rfl) dX0_keep_23 ⟨Nat.zero_le _, Nat.zero_le _⟩ (fun H locs hP hD hS => ?_)
    have hP : va_P D vwCl (wX0X2 cA ad ao ((va_up past.1 2 q3), past.2.1, v1) o) H := hP
    have hD : va_D A (wX0X2 cA ad ao ((va_up past.1 2 q3), past.2.1, v1) o) := hD
    refine lv_aload_n hx hb dX0_keep_26 rfl (lv_at hl 0 rfl) ?_
    refine lv_aload_n hx hb dX0_keep_27 rfl (lv_at hl 0 rfl) ?_
    refine va_get (D := D) (ci := 0) (v := .int past.2.1) (C := RX0) (T := TX0) (N := 3) hx hb hts iX0 hown hK hP 0 rfl rfl 1 (Nat.le_of_ble_eq_true rfl) f17 (fun _ h9 => h9) rfl dX0_keep_28 ?_
    refine lv_iconst (v := 1) hx hb dX0_keep_31 (by decide) ?_
    refine lv_iadd hx hb dX0_keep_32 ?_
    refine lv_bipush (v := 12) hx hb dX0_keep_33 (by decide) ?_
    refine va_mmin hx hb (by rw [hml, hl.1]) hown (hts (.methodLink RX0 29 Lib.Math.min.name) (by decide +kernel)) (hts (.static Lib.Math.min.name) (by decide +kernel)) (hts (.initialized "java/lang/Math") (by decide +kernel)) (hts (.code Lib.Math.min.name Lib.Math.min.code 2 (some .int)) (by decide +kernel)) (Nat.le_of_ble_eq_true rfl) (Nat.le_of_ble_eq_true rfl) (Nat.zero_le _) (Nat.zero_le _) dX0_keep_35 ?_
    refine va_put (D := D) (ci := 0) (v := .int (if 12 < (past.2.1 + 1) then 12 else (past.2.1 + 1))) (ty := .int) (C := RX0) (T := TX0) (N := 3) hx hb hts iX0 tyX0 tyX0_ok nmX0 hown hK hP hD hS 0 rfl rfl 1 (Nat.le_of_ble_eq_true rfl) f17 (fun _ h9 => h9) rfl (tyX0_ok 1 (Nat.le_of_ble_eq_true rfl)) rfl rfl (Nat.le_of_ble_eq_true rfl) dX0_keep_38 (fun H locs hP hD hS => ?_)
    have hP : va_P D vwCl (wX0X2 cA ad ao ((va_up past.1 2 q3), (if 12 < (past.2.1 + 1) then 12 else (past.2.1 + 1)), v1) o) H := hP
    have hD : va_D A (wX0X2 cA ad ao ((va_up past.1 2 q3), (if 12 < (past.2.1 + 1) then 12 else (past.2.1 + 1)), v1) o) := hD
    obtain rfl := e_s h
    exact hret hP hS dX0_keep_41
  rcases hjj2 with rfl | hjj2
  · refine lv_aload_n hx hb dX0_keep_22 rfl (lv_at hl 1 rfl) ?_
    obtain ⟨q3, eq3, h⟩ := e_b h
    refine xv_v (As := [.ref (ao 0)]) (rest := []) (ci := 2) (b := ad 11) ⟨hx, hb, hml, hown, hts⟩ hl.1 (kX2_take l D cA (fun i => ad (11 + i)) ao (past.1 3) o   _ eq3) (cwV 1 hts gX0_keep_X2_take rfl rfl rfl (by decide +kernel) ⟨Nat.le_of_ble_eq_true rfl, Nat.le_of_ble_eq_true rfl⟩) rfl hK hP hD hS hA 11 rfl rfl rfl [11, 12, 13, 38, 39, 40] rfl (by decide +kernel) rfl (Nat.le_of_ble_eq_true rfl) dX0_keep_23 ⟨Nat.zero_le _, Nat.zero_le _⟩ (fun H locs hP hD hS => ?_)
    have hP : va_P D vwCl (wX0X2 cA ad ao ((va_up past.1 3 q3), past.2.1, v1) o) H := hP
    have hD : va_D A (wX0X2 cA ad ao ((va_up past.1 3 q3), past.2.1, v1) o) := hD
    refine lv_aload_n hx hb dX0_keep_26 rfl (lv_at hl 0 rfl) ?_
    refine lv_aload_n hx hb dX0_keep_27 rfl (lv_at hl 0 rfl) ?_
    refine va_get (D := D) (ci := 0) (v := .int past.2.1) (C := RX0) (T := TX0) (N := 3) hx hb hts iX0 hown hK hP 0 rfl rfl 1 (Nat.le_of_ble_eq_true rfl) f17 (fun _ h9 => h9) rfl dX0_keep_28 ?_
    refine lv_iconst (v := 1) hx hb dX0_keep_31 (by decide) ?_
    refine lv_iadd hx hb dX0_keep_32 ?_
    refine lv_bipush (v := 12) hx hb dX0_keep_33 (by decide) ?_
    refine va_mmin hx hb (by rw [hml, hl.1]) hown (hts (.methodLink RX0 29 Lib.Math.min.name) (by decide +kernel)) (hts (.static Lib.Math.min.name) (by decide +kernel)) (hts (.initialized "java/lang/Math") (by decide +kernel)) (hts (.code Lib.Math.min.name Lib.Math.min.code 2 (some .int)) (by decide +kernel)) (Nat.le_of_ble_eq_true rfl) (Nat.le_of_ble_eq_true rfl) (Nat.zero_le _) (Nat.zero_le _) dX0_keep_35 ?_
    refine va_put (D := D) (ci := 0) (v := .int (if 12 < (past.2.1 + 1) then 12 else (past.2.1 + 1))) (ty := .int) (C := RX0) (T := TX0) (N := 3) hx hb hts iX0 tyX0 tyX0_ok nmX0 hown hK hP hD hS 0 rfl rfl 1 (Nat.le_of_ble_eq_true rfl) f17 (fun _ h9 => h9) rfl (tyX0_ok 1 (Nat.le_of_ble_eq_true rfl)) rfl rfl (Nat.le_of_ble_eq_true rfl) dX0_keep_38 (fun H locs hP hD hS => ?_)
    have hP : va_P D vwCl (wX0X2 cA ad ao ((va_up past.1 3 q3), (if 12 < (past.2.1 + 1) then 12 else (past.2.1 + 1)), v1) o) H := hP
    have hD : va_D A (wX0X2 cA ad ao ((va_up past.1 3 q3), (if 12 < (past.2.1 + 1) then 12 else (past.2.1 + 1)), v1) o) := hD
    obtain rfl := e_s h
    exact hret hP hS dX0_keep_41
  rcases hjj2 with rfl | hjj2
  · refine lv_aload_n hx hb dX0_keep_22 rfl (lv_at hl 1 rfl) ?_
    obtain ⟨q3, eq3, h⟩ := e_b h
    refine xv_v (As := [.ref (ao 0)]) (rest := []) (ci := 2) (b := ad 14) ⟨hx, hb, hml, hown, hts⟩ hl.1 (kX2_take l D cA (fun i => ad (14 + i)) ao (past.1 4) o   _ eq3) (cwV 1 hts gX0_keep_X2_take rfl rfl rfl (by decide +kernel) ⟨Nat.le_of_ble_eq_true rfl, Nat.le_of_ble_eq_true rfl⟩) rfl hK hP hD hS hA 14 rfl rfl rfl [14, 15, 16, 38, 39, 40] rfl (by decide +kernel) rfl (Nat.le_of_ble_eq_true rfl) dX0_keep_23 ⟨Nat.zero_le _, Nat.zero_le _⟩ (fun H locs hP hD hS => ?_)
    have hP : va_P D vwCl (wX0X2 cA ad ao ((va_up past.1 4 q3), past.2.1, v1) o) H := hP
    have hD : va_D A (wX0X2 cA ad ao ((va_up past.1 4 q3), past.2.1, v1) o) := hD
    refine lv_aload_n hx hb dX0_keep_26 rfl (lv_at hl 0 rfl) ?_
    refine lv_aload_n hx hb dX0_keep_27 rfl (lv_at hl 0 rfl) ?_
    refine va_get (D := D) (ci := 0) (v := .int past.2.1) (C := RX0) (T := TX0) (N := 3) hx hb hts iX0 hown hK hP 0 rfl rfl 1 (Nat.le_of_ble_eq_true rfl) f17 (fun _ h9 => h9) rfl dX0_keep_28 ?_
    refine lv_iconst (v := 1) hx hb dX0_keep_31 (by decide) ?_
    refine lv_iadd hx hb dX0_keep_32 ?_
    refine lv_bipush (v := 12) hx hb dX0_keep_33 (by decide) ?_
    refine va_mmin hx hb (by rw [hml, hl.1]) hown (hts (.methodLink RX0 29 Lib.Math.min.name) (by decide +kernel)) (hts (.static Lib.Math.min.name) (by decide +kernel)) (hts (.initialized "java/lang/Math") (by decide +kernel)) (hts (.code Lib.Math.min.name Lib.Math.min.code 2 (some .int)) (by decide +kernel)) (Nat.le_of_ble_eq_true rfl) (Nat.le_of_ble_eq_true rfl) (Nat.zero_le _) (Nat.zero_le _) dX0_keep_35 ?_
    refine va_put (D := D) (ci := 0) (v := .int (if 12 < (past.2.1 + 1) then 12 else (past.2.1 + 1))) (ty := .int) (C := RX0) (T := TX0) (N := 3) hx hb hts iX0 tyX0 tyX0_ok nmX0 hown hK hP hD hS 0 rfl rfl 1 (Nat.le_of_ble_eq_true rfl) f17 (fun _ h9 => h9) rfl (tyX0_ok 1 (Nat.le_of_ble_eq_true rfl)) rfl rfl (Nat.le_of_ble_eq_true rfl) dX0_keep_38 (fun H locs hP hD hS => ?_)
    have hP : va_P D vwCl (wX0X2 cA ad ao ((va_up past.1 4 q3), (if 12 < (past.2.1 + 1) then 12 else (past.2.1 + 1)), v1) o) H := hP
    have hD : va_D A (wX0X2 cA ad ao ((va_up past.1 4 q3), (if 12 < (past.2.1 + 1) then 12 else (past.2.1 + 1)), v1) o) := hD
    obtain rfl := e_s h
    exact hret hP hS dX0_keep_41
  rcases hjj2 with rfl | hjj2
  · refine lv_aload_n hx hb dX0_keep_22 rfl (lv_at hl 1 rfl) ?_
    obtain ⟨q3, eq3, h⟩ := e_b h
    refine xv_v (As := [.ref (ao 0)]) (rest := []) (ci := 2) (b := ad 17) ⟨hx, hb, hml, hown, hts⟩ hl.1 (kX2_take l D cA (fun i => ad (17 + i)) ao (past.1 5) o   _ eq3) (cwV 1 hts gX0_keep_X2_take rfl rfl rfl (by decide +kernel) ⟨Nat.le_of_ble_eq_true rfl, Nat.le_of_ble_eq_true rfl⟩) rfl hK hP hD hS hA 17 rfl rfl rfl [17, 18, 19, 38, 39, 40] rfl (by decide +kernel) rfl (Nat.le_of_ble_eq_true rfl) dX0_keep_23 ⟨Nat.zero_le _, Nat.zero_le _⟩ (fun H locs hP hD hS => ?_)
    have hP : va_P D vwCl (wX0X2 cA ad ao ((va_up past.1 5 q3), past.2.1, v1) o) H := hP
    have hD : va_D A (wX0X2 cA ad ao ((va_up past.1 5 q3), past.2.1, v1) o) := hD
    refine lv_aload_n hx hb dX0_keep_26 rfl (lv_at hl 0 rfl) ?_
    refine lv_aload_n hx hb dX0_keep_27 rfl (lv_at hl 0 rfl) ?_
    refine va_get (D := D) (ci := 0) (v := .int past.2.1) (C := RX0) (T := TX0) (N := 3) hx hb hts iX0 hown hK hP 0 rfl rfl 1 (Nat.le_of_ble_eq_true rfl) f17 (fun _ h9 => h9) rfl dX0_keep_28 ?_
    refine lv_iconst (v := 1) hx hb dX0_keep_31 (by decide) ?_
    refine lv_iadd hx hb dX0_keep_32 ?_
    refine lv_bipush (v := 12) hx hb dX0_keep_33 (by decide) ?_
    refine va_mmin hx hb (by rw [hml, hl.1]) hown (hts (.methodLink RX0 29 Lib.Math.min.name) (by decide +kernel)) (hts (.static Lib.Math.min.name) (by decide +kernel)) (hts (.initialized "java/lang/Math") (by decide +kernel)) (hts (.code Lib.Math.min.name Lib.Math.min.code 2 (some .int)) (by decide +kernel)) (Nat.le_of_ble_eq_true rfl) (Nat.le_of_ble_eq_true rfl) (Nat.zero_le _) (Nat.zero_le _) dX0_keep_35 ?_
    refine va_put (D := D) (ci := 0) (v := .int (if 12 < (past.2.1 + 1) then 12 else (past.2.1 + 1))) (ty := .int) (C := RX0) (T := TX0) (N := 3) hx hb hts iX0 tyX0 tyX0_ok nmX0 hown hK hP hD hS 0 rfl rfl 1 (Nat.le_of_ble_eq_true rfl) f17 (fun _ h9 => h9) rfl (tyX0_ok 1 (Nat.le_of_ble_eq_true rfl)) rfl rfl (Nat.le_of_ble_eq_true rfl) dX0_keep_38 (fun H locs hP hD hS => ?_)
    have hP : va_P D vwCl (wX0X2 cA ad ao ((va_up past.1 5 q3), (if 12 < (past.2.1 + 1) then 12 else (past.2.1 + 1)), v1) o) H := hP
    have hD : va_D A (wX0X2 cA ad ao ((va_up past.1 5 q3), (if 12 < (past.2.1 + 1) then 12 else (past.2.1 + 1)), v1) o) := hD
    obtain rfl := e_s h
    exact hret hP hS dX0_keep_41
  rcases hjj2 with rfl | hjj2
  · refine lv_aload_n hx hb dX0_keep_22 rfl (lv_at hl 1 rfl) ?_
    obtain ⟨q3, eq3, h⟩ := e_b h
    refine xv_v (As := [.ref (ao 0)]) (rest := []) (ci := 2) (b := ad 20) ⟨hx, hb, hml, hown, hts⟩ hl.1 (kX2_take l D cA (fun i => ad (20 + i)) ao (past.1 6) o   _ eq3) (cwV 1 hts gX0_keep_X2_take rfl rfl rfl (by decide +kernel) ⟨Nat.le_of_ble_eq_true rfl, Nat.le_of_ble_eq_true rfl⟩) rfl hK hP hD hS hA 20 rfl rfl rfl [20, 21, 22, 38, 39, 40] rfl (by decide +kernel) rfl (Nat.le_of_ble_eq_true rfl) dX0_keep_23 ⟨Nat.zero_le _, Nat.zero_le _⟩ (fun H locs hP hD hS => ?_)
    have hP : va_P D vwCl (wX0X2 cA ad ao ((va_up past.1 6 q3), past.2.1, v1) o) H := hP
    have hD : va_D A (wX0X2 cA ad ao ((va_up past.1 6 q3), past.2.1, v1) o) := hD
    refine lv_aload_n hx hb dX0_keep_26 rfl (lv_at hl 0 rfl) ?_
    refine lv_aload_n hx hb dX0_keep_27 rfl (lv_at hl 0 rfl) ?_
    refine va_get (D := D) (ci := 0) (v := .int past.2.1) (C := RX0) (T := TX0) (N := 3) hx hb hts iX0 hown hK hP 0 rfl rfl 1 (Nat.le_of_ble_eq_true rfl) f17 (fun _ h9 => h9) rfl dX0_keep_28 ?_
    refine lv_iconst (v := 1) hx hb dX0_keep_31 (by decide) ?_
    refine lv_iadd hx hb dX0_keep_32 ?_
    refine lv_bipush (v := 12) hx hb dX0_keep_33 (by decide) ?_
    refine va_mmin hx hb (by rw [hml, hl.1]) hown (hts (.methodLink RX0 29 Lib.Math.min.name) (by decide +kernel)) (hts (.static Lib.Math.min.name) (by decide +kernel)) (hts (.initialized "java/lang/Math") (by decide +kernel)) (hts (.code Lib.Math.min.name Lib.Math.min.code 2 (some .int)) (by decide +kernel)) (Nat.le_of_ble_eq_true rfl) (Nat.le_of_ble_eq_true rfl) (Nat.zero_le _) (Nat.zero_le _) dX0_keep_35 ?_
    refine va_put (D := D) (ci := 0) (v := .int (if 12 < (past.2.1 + 1) then 12 else (past.2.1 + 1))) (ty := .int) (C := RX0) (T := TX0) (N := 3) hx hb hts iX0 tyX0 tyX0_ok nmX0 hown hK hP hD hS 0 rfl rfl 1 (Nat.le_of_ble_eq_true rfl) f17 (fun _ h9 => h9) rfl (tyX0_ok 1 (Nat.le_of_ble_eq_true rfl)) rfl rfl (Nat.le_of_ble_eq_true rfl) dX0_keep_38 (fun H locs hP hD hS => ?_)
    have hP : va_P D vwCl (wX0X2 cA ad ao ((va_up past.1 6 q3), (if 12 < (past.2.1 + 1) then 12 else (past.2.1 + 1)), v1) o) H := hP
    have hD : va_D A (wX0X2 cA ad ao ((va_up past.1 6 q3), (if 12 < (past.2.1 + 1) then 12 else (past.2.1 + 1)), v1) o) := hD
    obtain rfl := e_s h
    exact hret hP hS dX0_keep_41
  rcases hjj2 with rfl | hjj2
  · refine lv_aload_n hx hb dX0_keep_22 rfl (lv_at hl 1 rfl) ?_
    obtain ⟨q3, eq3, h⟩ := e_b h
    refine xv_v (As := [.ref (ao 0)]) (rest := []) (ci := 2) (b := ad 23) ⟨hx, hb, hml, hown, hts⟩ hl.1 (kX2_take l D cA (fun i => ad (23 + i)) ao (past.1 7) o   _ eq3) (cwV 1 hts gX0_keep_X2_take rfl rfl rfl (by decide +kernel) ⟨Nat.le_of_ble_eq_true rfl, Nat.le_of_ble_eq_true rfl⟩) rfl hK hP hD hS hA 23 rfl rfl rfl [23, 24, 25, 38, 39, 40] rfl (by decide +kernel) rfl (Nat.le_of_ble_eq_true rfl) dX0_keep_23 ⟨Nat.zero_le _, Nat.zero_le _⟩ (fun H locs hP hD hS => ?_)
    have hP : va_P D vwCl (wX0X2 cA ad ao ((va_up past.1 7 q3), past.2.1, v1) o) H := hP
    have hD : va_D A (wX0X2 cA ad ao ((va_up past.1 7 q3), past.2.1, v1) o) := hD
    refine lv_aload_n hx hb dX0_keep_26 rfl (lv_at hl 0 rfl) ?_
    refine lv_aload_n hx hb dX0_keep_27 rfl (lv_at hl 0 rfl) ?_
    refine va_get (D := D) (ci := 0) (v := .int past.2.1) (C := RX0) (T := TX0) (N := 3) hx hb hts iX0 hown hK hP 0 rfl rfl 1 (Nat.le_of_ble_eq_true rfl) f17 (fun _ h9 => h9) rfl dX0_keep_28 ?_
    refine lv_iconst (v := 1) hx hb dX0_keep_31 (by decide) ?_
    refine lv_iadd hx hb dX0_keep_32 ?_
    refine lv_bipush (v := 12) hx hb dX0_keep_33 (by decide) ?_
    refine va_mmin hx hb (by rw [hml, hl.1]) hown (hts (.methodLink RX0 29 Lib.Math.min.name) (by decide +kernel)) (hts (.static Lib.Math.min.name) (by decide +kernel)) (hts (.initialized "java/lang/Math") (by decide +kernel)) (hts (.code Lib.Math.min.name Lib.Math.min.code 2 (some .int)) (by decide +kernel)) (Nat.le_of_ble_eq_true rfl) (Nat.le_of_ble_eq_true rfl) (Nat.zero_le _) (Nat.zero_le _) dX0_keep_35 ?_
    refine va_put (D := D) (ci := 0) (v := .int (if 12 < (past.2.1 + 1) then 12 else (past.2.1 + 1))) (ty := .int) (C := RX0) (T := TX0) (N := 3) hx hb hts iX0 tyX0 tyX0_ok nmX0 hown hK hP hD hS 0 rfl rfl 1 (Nat.le_of_ble_eq_true rfl) f17 (fun _ h9 => h9) rfl (tyX0_ok 1 (Nat.le_of_ble_eq_true rfl)) rfl rfl (Nat.le_of_ble_eq_true rfl) dX0_keep_38 (fun H locs hP hD hS => ?_)
    have hP : va_P D vwCl (wX0X2 cA ad ao ((va_up past.1 7 q3), (if 12 < (past.2.1 + 1) then 12 else (past.2.1 + 1)), v1) o) H := hP
    have hD : va_D A (wX0X2 cA ad ao ((va_up past.1 7 q3), (if 12 < (past.2.1 + 1) then 12 else (past.2.1 + 1)), v1) o) := hD
    obtain rfl := e_s h
    exact hret hP hS dX0_keep_41
  rcases hjj2 with rfl | hjj2
  · refine lv_aload_n hx hb dX0_keep_22 rfl (lv_at hl 1 rfl) ?_
    obtain ⟨q3, eq3, h⟩ := e_b h
    refine xv_v (As := [.ref (ao 0)]) (rest := []) (ci := 2) (b := ad 26) ⟨hx, hb, hml, hown, hts⟩ hl.1 (kX2_take l D cA (fun i => ad (26 + i)) ao (past.1 8) o   _ eq3) (cwV 1 hts gX0_keep_X2_take rfl rfl rfl (by decide +kernel) ⟨Nat.le_of_ble_eq_true rfl, Nat.le_of_ble_eq_true rfl⟩) rfl hK hP hD hS hA 26 rfl rfl rfl [26, 27, 28, 38, 39, 40] rfl (by decide +kernel) rfl (Nat.le_of_ble_eq_true rfl) dX0_keep_23 ⟨Nat.zero_le _, Nat.zero_le _⟩ (fun H locs hP hD hS => ?_)
    have hP : va_P D vwCl (wX0X2 cA ad ao ((va_up past.1 8 q3), past.2.1, v1) o) H := hP
    have hD : va_D A (wX0X2 cA ad ao ((va_up past.1 8 q3), past.2.1, v1) o) := hD
    refine lv_aload_n hx hb dX0_keep_26 rfl (lv_at hl 0 rfl) ?_
    refine lv_aload_n hx hb dX0_keep_27 rfl (lv_at hl 0 rfl) ?_
    refine va_get (D := D) (ci := 0) (v := .int past.2.1) (C := RX0) (T := TX0) (N := 3) hx hb hts iX0 hown hK hP 0 rfl rfl 1 (Nat.le_of_ble_eq_true rfl) f17 (fun _ h9 => h9) rfl dX0_keep_28 ?_
    refine lv_iconst (v := 1) hx hb dX0_keep_31 (by decide) ?_
    refine lv_iadd hx hb dX0_keep_32 ?_
    refine lv_bipush (v := 12) hx hb dX0_keep_33 (by decide) ?_
    refine va_mmin hx hb (by rw [hml, hl.1]) hown (hts (.methodLink RX0 29 Lib.Math.min.name) (by decide +kernel)) (hts (.static Lib.Math.min.name) (by decide +kernel)) (hts (.initialized "java/lang/Math") (by decide +kernel)) (hts (.code Lib.Math.min.name Lib.Math.min.code 2 (some .int)) (by decide +kernel)) (Nat.le_of_ble_eq_true rfl) (Nat.le_of_ble_eq_true rfl) (Nat.zero_le _) (Nat.zero_le _) dX0_keep_35 ?_
    refine va_put (D := D) (ci := 0) (v := .int (if 12 < (past.2.1 + 1) then 12 else (past.2.1 + 1))) (ty := .int) (C := RX0) (T := TX0) (N := 3) hx hb hts iX0 tyX0 tyX0_ok nmX0 hown hK hP hD hS 0 rfl rfl 1 (Nat.le_of_ble_eq_true rfl) f17 (fun _ h9 => h9) rfl (tyX0_ok 1 (Nat.le_of_ble_eq_true rfl)) rfl rfl (Nat.le_of_ble_eq_true rfl) dX0_keep_38 (fun H locs hP hD hS => ?_)
    have hP : va_P D vwCl (wX0X2 cA ad ao ((va_up past.1 8 q3), (if 12 < (past.2.1 + 1) then 12 else (past.2.1 + 1)), v1) o) H := hP
    have hD : va_D A (wX0X2 cA ad ao ((va_up past.1 8 q3), (if 12 < (past.2.1 + 1) then 12 else (past.2.1 + 1)), v1) o) := hD
    obtain rfl := e_s h
    exact hret hP hS dX0_keep_41
  rcases hjj2 with rfl | hjj2
  · refine lv_aload_n hx hb dX0_keep_22 rfl (lv_at hl 1 rfl) ?_
    obtain ⟨q3, eq3, h⟩ := e_b h
    refine xv_v (As := [.ref (ao 0)]) (rest := []) (ci := 2) (b := ad 29) ⟨hx, hb, hml, hown, hts⟩ hl.1 (kX2_take l D cA (fun i => ad (29 + i)) ao (past.1 9) o   _ eq3) (cwV 1 hts gX0_keep_X2_take rfl rfl rfl (by decide +kernel) ⟨Nat.le_of_ble_eq_true rfl, Nat.le_of_ble_eq_true rfl⟩) rfl hK hP hD hS hA 29 rfl rfl rfl [29, 30, 31, 38, 39, 40] rfl (by decide +kernel) rfl (Nat.le_of_ble_eq_true rfl) dX0_keep_23 ⟨Nat.zero_le _, Nat.zero_le _⟩ (fun H locs hP hD hS => ?_)
    have hP : va_P D vwCl (wX0X2 cA ad ao ((va_up past.1 9 q3), past.2.1, v1) o) H := hP
    have hD : va_D A (wX0X2 cA ad ao ((va_up past.1 9 q3), past.2.1, v1) o) := hD
    refine lv_aload_n hx hb dX0_keep_26 rfl (lv_at hl 0 rfl) ?_
    refine lv_aload_n hx hb dX0_keep_27 rfl (lv_at hl 0 rfl) ?_
    refine va_get (D := D) (ci := 0) (v := .int past.2.1) (C := RX0) (T := TX0) (N := 3) hx hb hts iX0 hown hK hP 0 rfl rfl 1 (Nat.le_of_ble_eq_true rfl) f17 (fun _ h9 => h9) rfl dX0_keep_28 ?_
    refine lv_iconst (v := 1) hx hb dX0_keep_31 (by decide) ?_
    refine lv_iadd hx hb dX0_keep_32 ?_
    refine lv_bipush (v := 12) hx hb dX0_keep_33 (by decide) ?_
    refine va_mmin hx hb (by rw [hml, hl.1]) hown (hts (.methodLink RX0 29 Lib.Math.min.name) (by decide +kernel)) (hts (.static Lib.Math.min.name) (by decide +kernel)) (hts (.initialized "java/lang/Math") (by decide +kernel)) (hts (.code Lib.Math.min.name Lib.Math.min.code 2 (some .int)) (by decide +kernel)) (Nat.le_of_ble_eq_true rfl) (Nat.le_of_ble_eq_true rfl) (Nat.zero_le _) (Nat.zero_le _) dX0_keep_35 ?_
    refine va_put (D := D) (ci := 0) (v := .int (if 12 < (past.2.1 + 1) then 12 else (past.2.1 + 1))) (ty := .int) (C := RX0) (T := TX0) (N := 3) hx hb hts iX0 tyX0 tyX0_ok nmX0 hown hK hP hD hS 0 rfl rfl 1 (Nat.le_of_ble_eq_true rfl) f17 (fun _ h9 => h9) rfl (tyX0_ok 1 (Nat.le_of_ble_eq_true rfl)) rfl rfl (Nat.le_of_ble_eq_true rfl) dX0_keep_38 (fun H locs hP hD hS => ?_)
    have hP : va_P D vwCl (wX0X2 cA ad ao ((va_up past.1 9 q3), (if 12 < (past.2.1 + 1) then 12 else (past.2.1 + 1)), v1) o) H := hP
    have hD : va_D A (wX0X2 cA ad ao ((va_up past.1 9 q3), (if 12 < (past.2.1 + 1) then 12 else (past.2.1 + 1)), v1) o) := hD
    obtain rfl := e_s h
    exact hret hP hS dX0_keep_41
  rcases hjj2 with rfl | hjj2
  · refine lv_aload_n hx hb dX0_keep_22 rfl (lv_at hl 1 rfl) ?_
    obtain ⟨q3, eq3, h⟩ := e_b h
    refine xv_v (As := [.ref (ao 0)]) (rest := []) (ci := 2) (b := ad 32) ⟨hx, hb, hml, hown, hts⟩ hl.1 (kX2_take l D cA (fun i => ad (32 + i)) ao (past.1 10) o   _ eq3) (cwV 1 hts gX0_keep_X2_take rfl rfl rfl (by decide +kernel) ⟨Nat.le_of_ble_eq_true rfl, Nat.le_of_ble_eq_true rfl⟩) rfl hK hP hD hS hA 32 rfl rfl rfl [32, 33, 34, 38, 39, 40] rfl (by decide +kernel) rfl (Nat.le_of_ble_eq_true rfl) dX0_keep_23 ⟨Nat.zero_le _, Nat.zero_le _⟩ (fun H locs hP hD hS => ?_)
    have hP : va_P D vwCl (wX0X2 cA ad ao ((va_up past.1 10 q3), past.2.1, v1) o) H := hP
    have hD : va_D A (wX0X2 cA ad ao ((va_up past.1 10 q3), past.2.1, v1) o) := hD
    refine lv_aload_n hx hb dX0_keep_26 rfl (lv_at hl 0 rfl) ?_
    refine lv_aload_n hx hb dX0_keep_27 rfl (lv_at hl 0 rfl) ?_
    refine va_get (D := D) (ci := 0) (v := .int past.2.1) (C := RX0) (T := TX0) (N := 3) hx hb hts iX0 hown hK hP 0 rfl rfl 1 (Nat.le_of_ble_eq_true rfl) f17 (fun _ h9 => h9) rfl dX0_keep_28 ?_
    refine lv_iconst (v := 1) hx hb dX0_keep_31 (by decide) ?_
    refine lv_iadd hx hb dX0_keep_32 ?_
    refine lv_bipush (v := 12) hx hb dX0_keep_33 (by decide) ?_
    refine va_mmin hx hb (by rw [hml, hl.1]) hown (hts (.methodLink RX0 29 Lib.Math.min.name) (by decide +kernel)) (hts (.static Lib.Math.min.name) (by decide +kernel)) (hts (.initialized "java/lang/Math") (by decide +kernel)) (hts (.code Lib.Math.min.name Lib.Math.min.code 2 (some .int)) (by decide +kernel)) (Nat.le_of_ble_eq_true rfl) (Nat.le_of_ble_eq_true rfl) (Nat.zero_le _) (Nat.zero_le _) dX0_keep_35 ?_
    refine va_put (D := D) (ci := 0) (v := .int (if 12 < (past.2.1 + 1) then 12 else (past.2.1 + 1))) (ty := .int) (C := RX0) (T := TX0) (N := 3) hx hb hts iX0 tyX0 tyX0_ok nmX0 hown hK hP hD hS 0 rfl rfl 1 (Nat.le_of_ble_eq_true rfl) f17 (fun _ h9 => h9) rfl (tyX0_ok 1 (Nat.le_of_ble_eq_true rfl)) rfl rfl (Nat.le_of_ble_eq_true rfl) dX0_keep_38 (fun H locs hP hD hS => ?_)
    have hP : va_P D vwCl (wX0X2 cA ad ao ((va_up past.1 10 q3), (if 12 < (past.2.1 + 1) then 12 else (past.2.1 + 1)), v1) o) H := hP
    have hD : va_D A (wX0X2 cA ad ao ((va_up past.1 10 q3), (if 12 < (past.2.1 + 1) then 12 else (past.2.1 + 1)), v1) o) := hD
    obtain rfl := e_s h
    exact hret hP hS dX0_keep_41
  subst hjj2
  refine lv_aload_n hx hb dX0_keep_22 rfl (lv_at hl 1 rfl) ?_
  obtain ⟨q3, eq3, h⟩ := e_b h
  refine xv_v (As := [.ref (ao 0)]) (rest := []) (ci := 2) (b := ad 35) ⟨hx, hb, hml, hown, hts⟩ hl.1 (kX2_take l D cA (fun i => ad (35 + i)) ao (past.1 11) o   _ eq3) (cwV 1 hts gX0_keep_X2_take rfl rfl rfl (by decide +kernel) ⟨Nat.le_of_ble_eq_true rfl, Nat.le_of_ble_eq_true rfl⟩) rfl hK hP hD hS hA 35 rfl rfl rfl [35, 36, 37, 38, 39, 40] rfl (by decide +kernel) rfl (Nat.le_of_ble_eq_true rfl) dX0_keep_23 ⟨Nat.zero_le _, Nat.zero_le _⟩ (fun H locs hP hD hS => ?_)
  have hP : va_P D vwCl (wX0X2 cA ad ao ((va_up past.1 11 q3), past.2.1, v1) o) H := hP
  have hD : va_D A (wX0X2 cA ad ao ((va_up past.1 11 q3), past.2.1, v1) o) := hD
  refine lv_aload_n hx hb dX0_keep_26 rfl (lv_at hl 0 rfl) ?_
  refine lv_aload_n hx hb dX0_keep_27 rfl (lv_at hl 0 rfl) ?_
  refine va_get (D := D) (ci := 0) (v := .int past.2.1) (C := RX0) (T := TX0) (N := 3) hx hb hts iX0 hown hK hP 0 rfl rfl 1 (Nat.le_of_ble_eq_true rfl) f17 (fun _ h9 => h9) rfl dX0_keep_28 ?_
  refine lv_iconst (v := 1) hx hb dX0_keep_31 (by decide) ?_
  refine lv_iadd hx hb dX0_keep_32 ?_
  refine lv_bipush (v := 12) hx hb dX0_keep_33 (by decide) ?_
  refine va_mmin hx hb (by rw [hml, hl.1]) hown (hts (.methodLink RX0 29 Lib.Math.min.name) (by decide +kernel)) (hts (.static Lib.Math.min.name) (by decide +kernel)) (hts (.initialized "java/lang/Math") (by decide +kernel)) (hts (.code Lib.Math.min.name Lib.Math.min.code 2 (some .int)) (by decide +kernel)) (Nat.le_of_ble_eq_true rfl) (Nat.le_of_ble_eq_true rfl) (Nat.zero_le _) (Nat.zero_le _) dX0_keep_35 ?_
  refine va_put (D := D) (ci := 0) (v := .int (if 12 < (past.2.1 + 1) then 12 else (past.2.1 + 1))) (ty := .int) (C := RX0) (T := TX0) (N := 3) hx hb hts iX0 tyX0 tyX0_ok nmX0 hown hK hP hD hS 0 rfl rfl 1 (Nat.le_of_ble_eq_true rfl) f17 (fun _ h9 => h9) rfl (tyX0_ok 1 (Nat.le_of_ble_eq_true rfl)) rfl rfl (Nat.le_of_ble_eq_true rfl) dX0_keep_38 (fun H locs hP hD hS => ?_)
  have hP : va_P D vwCl (wX0X2 cA ad ao ((va_up past.1 11 q3), (if 12 < (past.2.1 + 1) then 12 else (past.2.1 + 1)), v1) o) H := hP
  have hD : va_D A (wX0X2 cA ad ao ((va_up past.1 11 q3), (if 12 < (past.2.1 + 1) then 12 else (past.2.1 + 1)), v1) o) := hD
  obtain rfl := e_s h
  exact hret hP hS dX0_keep_41
set_option maxHeartbeats 4000000 in
set_option maxRecDepth 100000 in
theorem kJ9_floorMod_7cf53 (l : Launch) (D : va_G) (cA : Nat → ClassId)   (x0 : Int32) (x1 : Int32) (q : Int32) (h : mJ9_floorMod_7cf53  x0 x1 = some q) : MI l yJ9_floorMod_7cf53 wsJ9_floorMod_7cf53 { frames := 0, cells := 0, slots := 0, locals := 0 } D cA .int [.int x0, .int x1] [] [] q := by
  refine MI.of (cc := cJ9_floorMod_7cf53) (maxL := 3) (by decide +kernel) rfl rfl rfl (Nat.le_of_ble_eq_true rfl) ?_
  intro p e s m args below meth c A ls Q hx hb hml hts hown hK hP hD hA hS hl hret
  have hl : lv_has ls 3 [(0, .int x0), (1, .int x1)] := hl
  unfold mJ9_floorMod_7cf53 at h
  refine lv_iload_n hx hb dJ9_floorMod_7cf53_0 rfl (lv_at hl 0 rfl) ?_
  refine lv_iload_n hx hb dJ9_floorMod_7cf53_1 rfl (lv_at hl 1 rfl) ?_
  obtain ⟨v1, ev1, nv1, h⟩ := e_rm h
  refine xa_irem hx hb dJ9_floorMod_7cf53_2 nv1 ev1 ?_
  refine lv_istore_n (lv' := [(2, .int v1), (0, .int x0), (1, .int x1)]) hx hb dJ9_floorMod_7cf53_3 rfl hl (by decide) rfl (fun ls hl => ?_)
  refine lv_iload_n hx hb dJ9_floorMod_7cf53_4 rfl (lv_at hl 1 rfl) ?_
  refine lv_iload_n hx hb dJ9_floorMod_7cf53_5 rfl (lv_at hl 2 rfl) ?_
  refine lv_ixor hx hb dJ9_floorMod_7cf53_6 ?_
  refine lv_if_ge (tgt := 18) hx hb dJ9_floorMod_7cf53_7 (by decide) (fun c2 => ?_) (fun c2 => ?_)
  · have h := e_t c2 h
    refine lv_iload_n hx hb dJ9_floorMod_7cf53_18 rfl (lv_at hl 0 rfl) ?_
    obtain rfl := e_s h
    exact hret hP hS rfl dJ9_floorMod_7cf53_19
  · have h := e_f c2 h
    refine lv_iload_n hx hb dJ9_floorMod_7cf53_10 rfl (lv_at hl 0 rfl) ?_
    refine lv_if_eq (tgt := 18) hx hb dJ9_floorMod_7cf53_11 (by decide) (fun c3 => ?_) (fun c3 => ?_)
    · have h := e_t c3 h
      refine lv_iload_n hx hb dJ9_floorMod_7cf53_18 rfl (lv_at hl 0 rfl) ?_
      obtain rfl := e_s h
      exact hret hP hS rfl dJ9_floorMod_7cf53_19
    · have h := e_f c3 h
      refine lv_iload_n hx hb dJ9_floorMod_7cf53_14 rfl (lv_at hl 0 rfl) ?_
      refine lv_iload_n hx hb dJ9_floorMod_7cf53_15 rfl (lv_at hl 2 rfl) ?_
      refine lv_iadd hx hb dJ9_floorMod_7cf53_16 ?_
      obtain rfl := e_s h
      exact hret hP hS rfl dJ9_floorMod_7cf53_17
set_option maxHeartbeats 4000000 in
set_option maxRecDepth 100000 in
theorem kX0_ago (l : Launch) (D : va_G) (cA : Nat → ClassId) (ad : Nat → Nat) (past : PasT) (x1 : Int32) (q : Nat) (h : mX0_ago past x1 = some q) : MR l yX0_ago wsX0_ago { frames := 1, cells := 0, slots := 0, locals := 24 } D cA [.ref (ad 0), .int x1] (wX0 cA ad past) (wX0 cA ad past) (ad (2 + 3 * q)) := by
  refine MR.of (cc := cX0_ago) (maxL := 2) (by decide) rfl (Or.inl ⟨_, rfl⟩) rfl rfl (Nat.le_of_ble_eq_true rfl) ?_
  intro p e s m args below meth c A ls Q hx hb hml hts hown hK hP hD hA hS hl hret
  have hl : lv_has ls 2 [(0, .ref (ad 0)), (1, .int x1)] := hl
  have f11 := hts (.fieldLink RX0 11 "ModeDesk$Past" "rows" "[LModeDesk$Row;") (by decide +kernel)
  have f21 := hts (.fieldLink RX0 21 "ModeDesk$Past" "latest" "I") (by decide +kernel)
  have iX0 : ∀ w ∈ wsX00, w ∈ wsX0_ago := by decide +kernel
  unfold mX0_ago at h
  refine lv_aload_n hx hb dX0_ago_0 rfl (lv_at hl 0 rfl) ?_
  refine va_get (D := D) (ci := 0) (v := .ref (ad 1)) (C := RX0) (T := TX0) (N := 3) hx hb hts iX0 hown hK hP 0 rfl rfl 0 (Nat.le_of_ble_eq_true rfl) f11 (fun _ h9 => h9) rfl dX0_ago_1 ?_
  refine lv_aload_n hx hb dX0_ago_4 rfl (lv_at hl 0 rfl) ?_
  refine va_get (D := D) (ci := 0) (v := .int past.2.2) (C := RX0) (T := TX0) (N := 3) hx hb hts iX0 hown hK hP 0 rfl rfl 2 (Nat.le_of_ble_eq_true rfl) f21 (fun _ h9 => h9) rfl dX0_ago_5 ?_
  refine lv_iload_n hx hb dX0_ago_8 rfl (lv_at hl 1 rfl) ?_
  refine lv_iconst (v := 1) hx hb dX0_ago_9 (by decide) ?_
  refine lv_isub hx hb dX0_ago_10 ?_
  refine lv_isub hx hb dX0_ago_11 ?_
  refine lv_bipush (v := 12) hx hb dX0_ago_12 (by decide) ?_
  obtain ⟨q1, eq1, h⟩ := e_b h
  refine xs_i (As := [.int (past.2.2 - (x1 - 1)), .int 12]) (rest := [.ref (ad 1)]) ⟨hx, hb, hml, hown, hts⟩ hl.1 (kJ9_floorMod_7cf53 l D cA   (past.2.2 - (x1 - 1)) 12  _ eq1) (va_cwS 2 hts gX0_ago_J9_floorMod_7cf53 rfl rfl rfl (by decide +kernel) ⟨Nat.le_of_ble_eq_true rfl, Nat.le_of_ble_eq_true rfl⟩) rfl hK hP hD hS hA [] rfl (by decide +kernel) rfl (Nat.le_of_ble_eq_true rfl) dX0_ago_14 ⟨Nat.zero_le _, Nat.zero_le _⟩ (fun H locs hP hD hS hnq1 => ?_)
  have hP : va_P D vwCl (wX0 cA ad past) H := hP
  have hD : va_D A (wX0 cA ad past) := hD
  obtain ⟨j2, ej2, nj2, hltj2, h⟩ := e_rx h
  refine xa_aald hx hb hK hP 1 rfl nj2 ej2 dX0_ago_17 ?_
  obtain hjj2 := k12 hltj2
  rcases hjj2 with rfl | hjj2
  · obtain rfl := e_s h
    exact hret hP hS dX0_ago_18
  rcases hjj2 with rfl | hjj2
  · obtain rfl := e_s h
    exact hret hP hS dX0_ago_18
  rcases hjj2 with rfl | hjj2
  · obtain rfl := e_s h
    exact hret hP hS dX0_ago_18
  rcases hjj2 with rfl | hjj2
  · obtain rfl := e_s h
    exact hret hP hS dX0_ago_18
  rcases hjj2 with rfl | hjj2
  · obtain rfl := e_s h
    exact hret hP hS dX0_ago_18
  rcases hjj2 with rfl | hjj2
  · obtain rfl := e_s h
    exact hret hP hS dX0_ago_18
  rcases hjj2 with rfl | hjj2
  · obtain rfl := e_s h
    exact hret hP hS dX0_ago_18
  rcases hjj2 with rfl | hjj2
  · obtain rfl := e_s h
    exact hret hP hS dX0_ago_18
  rcases hjj2 with rfl | hjj2
  · obtain rfl := e_s h
    exact hret hP hS dX0_ago_18
  rcases hjj2 with rfl | hjj2
  · obtain rfl := e_s h
    exact hret hP hS dX0_ago_18
  rcases hjj2 with rfl | hjj2
  · obtain rfl := e_s h
    exact hret hP hS dX0_ago_18
  subst hjj2
  obtain rfl := e_s h
  exact hret hP hS dX0_ago_18
set_option maxHeartbeats 4000000 in
set_option maxRecDepth 100000 in
theorem kX0_dropLatest (l : Launch) (D : va_G) (cA : Nat → ClassId) (ad : Nat → Nat) (past : PasT)  (q : PasT) (h : mX0_dropLatest past  = some q) : MV l yX0_dropLatest wsX0_dropLatest { frames := 1, cells := 0, slots := 0, locals := 24 } D cA [.ref (ad 0)] (wX0 cA ad past) (wX0 cA ad q) := by
  refine MV.of (cc := cX0_dropLatest) (maxL := 1) (by decide) rfl rfl rfl (Nat.le_of_ble_eq_true rfl) ?_
  intro p e s m args below meth c A ls Q hx hb hml hts hown hK hP hD hA hS hl hret
  have hl : lv_has ls 1 [(0, .ref (ad 0))] := hl
  have f17 := hts (.fieldLink RX0 17 "ModeDesk$Past" "held" "I") (by decide +kernel)
  have f21 := hts (.fieldLink RX0 21 "ModeDesk$Past" "latest" "I") (by decide +kernel)
  have iX0 : ∀ w ∈ wsX00, w ∈ wsX0_dropLatest := by decide +kernel
  unfold mX0_dropLatest at h
  refine lv_aload_n hx hb dX0_dropLatest_0 rfl (lv_at hl 0 rfl) ?_
  refine lv_aload_n hx hb dX0_dropLatest_1 rfl (lv_at hl 0 rfl) ?_
  refine va_get (D := D) (ci := 0) (v := .int past.2.2) (C := RX0) (T := TX0) (N := 3) hx hb hts iX0 hown hK hP 0 rfl rfl 2 (Nat.le_of_ble_eq_true rfl) f21 (fun _ h9 => h9) rfl dX0_dropLatest_2 ?_
  refine lv_iconst (v := 1) hx hb dX0_dropLatest_5 (by decide) ?_
  refine lv_isub hx hb dX0_dropLatest_6 ?_
  refine lv_bipush (v := 12) hx hb dX0_dropLatest_7 (by decide) ?_
  obtain ⟨q1, eq1, h⟩ := e_b h
  refine xs_i (As := [.int (past.2.2 - 1), .int 12]) (rest := [.ref (ad 0)]) ⟨hx, hb, hml, hown, hts⟩ hl.1 (kJ9_floorMod_7cf53 l D cA   (past.2.2 - 1) 12  _ eq1) (va_cwS 2 hts gX0_dropLatest_J9_floorMod_7cf53 rfl rfl rfl (by decide +kernel) ⟨Nat.le_of_ble_eq_true rfl, Nat.le_of_ble_eq_true rfl⟩) rfl hK hP hD hS hA [] rfl (by decide +kernel) rfl (Nat.le_of_ble_eq_true rfl) dX0_dropLatest_9 ⟨Nat.zero_le _, Nat.zero_le _⟩ (fun H locs hP hD hS hnq1 => ?_)
  have hP : va_P D vwCl (wX0 cA ad past) H := hP
  have hD : va_D A (wX0 cA ad past) := hD
  refine va_put (D := D) (ci := 0) (v := .int q1) (ty := .int) (C := RX0) (T := TX0) (N := 3) hx hb hts iX0 tyX0 tyX0_ok nmX0 hown hK hP hD hS 0 rfl rfl 2 (Nat.le_of_ble_eq_true rfl) f21 (fun _ h9 => h9) rfl (tyX0_ok 2 (Nat.le_of_ble_eq_true rfl)) rfl rfl (Nat.le_of_ble_eq_true rfl) dX0_dropLatest_12 (fun H locs hP hD hS => ?_)
  have hP : va_P D vwCl (wX0 cA ad (past.1, past.2.1, q1)) H := hP
  have hD : va_D A (wX0 cA ad (past.1, past.2.1, q1)) := hD
  refine lv_aload_n hx hb dX0_dropLatest_15 rfl (lv_at hl 0 rfl) ?_
  refine lv_dup hx hb dX0_dropLatest_16 rfl ?_
  refine va_get (D := D) (ci := 0) (v := .int past.2.1) (C := RX0) (T := TX0) (N := 3) hx hb hts iX0 hown hK hP 0 rfl rfl 1 (Nat.le_of_ble_eq_true rfl) f17 (fun _ h9 => h9) rfl dX0_dropLatest_17 ?_
  refine lv_iconst (v := 1) hx hb dX0_dropLatest_20 (by decide) ?_
  refine lv_isub hx hb dX0_dropLatest_21 ?_
  refine va_put (D := D) (ci := 0) (v := .int (past.2.1 - 1)) (ty := .int) (C := RX0) (T := TX0) (N := 3) hx hb hts iX0 tyX0 tyX0_ok nmX0 hown hK hP hD hS 0 rfl rfl 1 (Nat.le_of_ble_eq_true rfl) f17 (fun _ h9 => h9) rfl (tyX0_ok 1 (Nat.le_of_ble_eq_true rfl)) rfl rfl (Nat.le_of_ble_eq_true rfl) dX0_dropLatest_22 (fun H locs hP hD hS => ?_)
  have hP : va_P D vwCl (wX0 cA ad (past.1, (past.2.1 - 1), q1)) H := hP
  have hD : va_D A (wX0 cA ad (past.1, (past.2.1 - 1), q1)) := hD
  obtain rfl := e_s h
  exact hret hP hS dX0_dropLatest_25
set_option maxHeartbeats 4000000 in
set_option maxRecDepth 100000 in
theorem kX1_refuse (l : Launch) (D : va_G) (cA : Nat → ClassId) (ad : Nat → Nat) (ao : Nat → Nat) (rdr : RdrT) (rrow : RowT) (tape : TapT) (x2 : Int32) (q : Int32 × RdrT) (h : mX1_refuse rdr tape x2 = some q) : MI l yX1_refuse wsX1_refuse { frames := 0, cells := 0, slots := 0, locals := 0 } D cA .boolean [.ref (ad 0), .ref (ao 0), .int x2] (wX1X4 cA ad ao rdr rrow tape) (wX1X4 cA ad ao q.2 rrow tape) q.1 := by
  refine MI.of (cc := cX1_refuse) (maxL := 3) (by decide +kernel) rfl rfl rfl (Nat.le_of_ble_eq_true rfl) ?_
  intro p e s m args below meth c A ls Q hx hb hml hts hown hK hP hD hA hS hl hret
  have hl : lv_has ls 3 [(0, .ref (ad 0)), (1, .ref (ao 0)), (2, .int x2)] := hl
  have f122 := hts (.fieldLink RX1 122 "ModeDesk$Tape" "start" "I") (by decide +kernel)
  have f28 := hts (.fieldLink RX1 28 "ModeDesk$Reader" "fault" "I") (by decide +kernel)
  have f31 := hts (.fieldLink RX1 31 "ModeDesk$Reader" "faultPlace" "I") (by decide +kernel)
  have iX1 : ∀ w ∈ wsX10, w ∈ wsX1_refuse := by decide +kernel
  have iX4 : ∀ w ∈ wsX40, w ∈ wsX1_refuse := by decide +kernel
  unfold mX1_refuse at h
  refine lv_aload_n hx hb dX1_refuse_0 rfl (lv_at hl 0 rfl) ?_
  refine lv_iload_n hx hb dX1_refuse_1 rfl (lv_at hl 2 rfl) ?_
  refine va_put (D := D) (ci := 1) (v := .int x2) (ty := .int) (C := RX1) (T := TX1) (N := 8) hx hb hts iX1 tyX1 tyX1_ok nmX1 hown hK hP hD hS 0 rfl rfl 4 (Nat.le_of_ble_eq_true rfl) f28 (fun _ h9 => h9) rfl (tyX1_ok 4 (Nat.le_of_ble_eq_true rfl)) rfl rfl (Nat.le_of_ble_eq_true rfl) dX1_refuse_2 (fun H locs hP hD hS => ?_)
  have hP : va_P D vwCl (wX1X4 cA ad ao (rdr.1, rdr.2.1, rdr.2.2.1, x2, rdr.2.2.2.2.1, rdr.2.2.2.2.2.1, rdr.2.2.2.2.2.2) rrow tape) H := hP
  have hD : va_D A (wX1X4 cA ad ao (rdr.1, rdr.2.1, rdr.2.2.1, x2, rdr.2.2.2.2.1, rdr.2.2.2.2.2.1, rdr.2.2.2.2.2.2) rrow tape) := hD
  refine lv_aload_n hx hb dX1_refuse_5 rfl (lv_at hl 0 rfl) ?_
  refine lv_aload_n hx hb dX1_refuse_6 rfl (lv_at hl 1 rfl) ?_
  refine va_get (D := D) (ci := 4) (v := .int tape.2.2.2.2.1) (C := RX4) (T := TX4) (N := 7) hx hb hts iX4 hown hK hP 4 rfl rfl 4 (Nat.le_of_ble_eq_true rfl) f122 (fun _ h9 => h9) rfl dX1_refuse_7 ?_
  refine va_put (D := D) (ci := 1) (v := .int tape.2.2.2.2.1) (ty := .int) (C := RX1) (T := TX1) (N := 8) hx hb hts iX1 tyX1 tyX1_ok nmX1 hown hK hP hD hS 0 rfl rfl 5 (Nat.le_of_ble_eq_true rfl) f31 (fun _ h9 => h9) rfl (tyX1_ok 5 (Nat.le_of_ble_eq_true rfl)) rfl rfl (Nat.le_of_ble_eq_true rfl) dX1_refuse_10 (fun H locs hP hD hS => ?_)
  have hP : va_P D vwCl (wX1X4 cA ad ao (rdr.1, rdr.2.1, rdr.2.2.1, x2, tape.2.2.2.2.1, rdr.2.2.2.2.2.1, rdr.2.2.2.2.2.2) rrow tape) H := hP
  have hD : va_D A (wX1X4 cA ad ao (rdr.1, rdr.2.1, rdr.2.2.1, x2, tape.2.2.2.2.1, rdr.2.2.2.2.2.1, rdr.2.2.2.2.2.2) rrow tape) := hD
  refine lv_iconst (v := 0) hx hb dX1_refuse_13 (by decide) ?_
  obtain rfl := e_s h
  exact hret hP hS (show narrow .boolean (.int 0) = .int 0 from rfl) dX1_refuse_14
set_option maxHeartbeats 4000000 in
set_option maxRecDepth 100000 in
theorem kX4_isBlank (l : Launch) (D : va_G) (cA : Nat → ClassId)   (x0 : Int32) (q : Int32) (h : mX4_isBlank  x0 = some q) : MI l yX4_isBlank wsX4_isBlank { frames := 0, cells := 0, slots := 0, locals := 0 } D cA .boolean [.int x0] [] [] q := by
  refine MI.of (cc := cX4_isBlank) (maxL := 1) (by decide +kernel) rfl rfl rfl (Nat.le_of_ble_eq_true rfl) ?_
  intro p e s m args below meth c A ls Q hx hb hml hts hown hK hP hD hA hS hl hret
  have hl : lv_has ls 1 [(0, .int x0)] := hl
  unfold mX4_isBlank at h
  refine lv_iload_n hx hb dX4_isBlank_0 rfl (lv_at hl 0 rfl) ?_
  refine lv_bipush (v := 10) hx hb dX4_isBlank_1 (by decide) ?_
  refine lv_icmp_eq (tgt := 12) hx hb dX4_isBlank_3 (by decide) (fun c1 => ?_) (fun c1 => ?_)
  · have h := e_t c1 h
    refine lv_iconst (v := 1) hx hb dX4_isBlank_12 (by decide) ?_
    refine lv_goto (tgt := 17) hx hb dX4_isBlank_13 (by decide) ?_
    obtain rfl := e_s h
    exact hret hP hS (show narrow .boolean (.int 1) = .int 1 from rfl) dX4_isBlank_17
  · have h := e_f c1 h
    refine lv_iload_n hx hb dX4_isBlank_6 rfl (lv_at hl 0 rfl) ?_
    refine lv_bipush (v := 32) hx hb dX4_isBlank_7 (by decide) ?_
    refine lv_icmp_ne (tgt := 16) hx hb dX4_isBlank_9 (by decide) (fun c2 => ?_) (fun c2 => ?_)
    · have h := e_t c2 h
      refine lv_iconst (v := 0) hx hb dX4_isBlank_16 (by decide) ?_
      obtain rfl := e_s h
      exact hret hP hS (show narrow .boolean (.int 0) = .int 0 from rfl) dX4_isBlank_17
    · have h := e_f (not_not_intro c2) h
      refine lv_iconst (v := 1) hx hb dX4_isBlank_12 (by decide) ?_
      refine lv_goto (tgt := 17) hx hb dX4_isBlank_13 (by decide) ?_
      obtain rfl := e_s h
      exact hret hP hS (show narrow .boolean (.int 1) = .int 1 from rfl) dX4_isBlank_17
set_option maxHeartbeats 4000000 in
set_option maxRecDepth 100000 in
theorem kX4_isDigit (l : Launch) (D : va_G) (cA : Nat → ClassId)   (x0 : Int32) (q : Int32) (h : mX4_isDigit  x0 = some q) : MI l yX4_isDigit wsX4_isDigit { frames := 0, cells := 0, slots := 0, locals := 0 } D cA .boolean [.int x0] [] [] q := by
  refine MI.of (cc := cX4_isDigit) (maxL := 1) (by decide +kernel) rfl rfl rfl (Nat.le_of_ble_eq_true rfl) ?_
  intro p e s m args below meth c A ls Q hx hb hml hts hown hK hP hD hA hS hl hret
  have hl : lv_has ls 1 [(0, .int x0)] := hl
  unfold mX4_isDigit at h
  refine lv_iload_n hx hb dX4_isDigit_0 rfl (lv_at hl 0 rfl) ?_
  refine lv_bipush (v := 48) hx hb dX4_isDigit_1 (by decide) ?_
  refine lv_icmp_lt (tgt := 16) hx hb dX4_isDigit_3 (by decide) (fun c1 => ?_) (fun c1 => ?_)
  · have h := e_t c1 h
    refine lv_iconst (v := 0) hx hb dX4_isDigit_16 (by decide) ?_
    obtain rfl := e_s h
    exact hret hP hS (show narrow .boolean (.int 0) = .int 0 from rfl) dX4_isDigit_17
  · have h := e_f c1 h
    refine lv_iload_n hx hb dX4_isDigit_6 rfl (lv_at hl 0 rfl) ?_
    refine lv_bipush (v := 57) hx hb dX4_isDigit_7 (by decide) ?_
    refine lv_icmp_gt (tgt := 16) hx hb dX4_isDigit_9 (by decide) (fun c2 => ?_) (fun c2 => ?_)
    · have h := e_t c2 h
      refine lv_iconst (v := 0) hx hb dX4_isDigit_16 (by decide) ?_
      obtain rfl := e_s h
      exact hret hP hS (show narrow .boolean (.int 0) = .int 0 from rfl) dX4_isDigit_17
    · have h := e_f c2 h
      refine lv_iconst (v := 1) hx hb dX4_isDigit_12 (by decide) ?_
      refine lv_goto (tgt := 17) hx hb dX4_isDigit_13 (by decide) ?_
      obtain rfl := e_s h
      exact hret hP hS (show narrow .boolean (.int 1) = .int 1 from rfl) dX4_isDigit_17
set_option maxHeartbeats 4000000 in
set_option maxRecDepth 100000 in
theorem kX4_isLetter (l : Launch) (D : va_G) (cA : Nat → ClassId)   (x0 : Int32) (q : Int32) (h : mX4_isLetter  x0 = some q) : MI l yX4_isLetter wsX4_isLetter { frames := 0, cells := 0, slots := 0, locals := 0 } D cA .boolean [.int x0] [] [] q := by
  refine MI.of (cc := cX4_isLetter) (maxL := 1) (by decide +kernel) rfl rfl rfl (Nat.le_of_ble_eq_true rfl) ?_
  intro p e s m args below meth c A ls Q hx hb hml hts hown hK hP hD hA hS hl hret
  have hl : lv_has ls 1 [(0, .int x0)] := hl
  unfold mX4_isLetter at h
  refine lv_iload_n hx hb dX4_isLetter_0 rfl (lv_at hl 0 rfl) ?_
  refine lv_bipush (v := 97) hx hb dX4_isLetter_1 (by decide) ?_
  refine lv_icmp_lt (tgt := 16) hx hb dX4_isLetter_3 (by decide) (fun c1 => ?_) (fun c1 => ?_)
  · have h := e_t c1 h
    refine lv_iconst (v := 0) hx hb dX4_isLetter_16 (by decide) ?_
    obtain rfl := e_s h
    exact hret hP hS (show narrow .boolean (.int 0) = .int 0 from rfl) dX4_isLetter_17
  · have h := e_f c1 h
    refine lv_iload_n hx hb dX4_isLetter_6 rfl (lv_at hl 0 rfl) ?_
    refine lv_bipush (v := 122) hx hb dX4_isLetter_7 (by decide) ?_
    refine lv_icmp_gt (tgt := 16) hx hb dX4_isLetter_9 (by decide) (fun c2 => ?_) (fun c2 => ?_)
    · have h := e_t c2 h
      refine lv_iconst (v := 0) hx hb dX4_isLetter_16 (by decide) ?_
      obtain rfl := e_s h
      exact hret hP hS (show narrow .boolean (.int 0) = .int 0 from rfl) dX4_isLetter_17
    · have h := e_f c2 h
      refine lv_iconst (v := 1) hx hb dX4_isLetter_12 (by decide) ?_
      refine lv_goto (tgt := 17) hx hb dX4_isLetter_13 (by decide) ?_
      obtain rfl := e_s h
      exact hret hP hS (show narrow .boolean (.int 1) = .int 1 from rfl) dX4_isLetter_17
set_option maxHeartbeats 4000000 in
set_option maxRecDepth 100000 in
theorem kX4_readNumber (l : Launch) (D : va_G) (cA : Nat → ClassId) (ad : Nat → Nat) (tape : TapT)  (q : TapT) (h : mX4_readNumber tape  = some q) : MV l yX4_readNumber wsX4_readNumber { frames := 1, cells := 0, slots := 0, locals := 24 } D cA [.ref (ad 0)] (wX4 cA ad tape) (wX4 cA ad q) := by
  refine MV.of (cc := cX4_readNumber) (maxL := 1) (by decide) rfl rfl rfl (Nat.le_of_ble_eq_true rfl) ?_
  intro p e s m args below meth c A ls Q hx hb hml hts hown hK hP hD hA hS hl hret
  have hl : lv_has ls 1 [(0, .ref (ad 0))] := hl
  have f19 := hts (.fieldLink RX4 19 "ModeDesk$Tape" "end" "I") (by decide +kernel)
  have f22 := hts (.fieldLink RX4 22 "ModeDesk$Tape" "at" "I") (by decide +kernel)
  have f28 := hts (.fieldLink RX4 28 "ModeDesk$Tape" "token" "I") (by decide +kernel)
  have f31 := hts (.fieldLink RX4 31 "ModeDesk$Tape" "number" "I") (by decide +kernel)
  have f9 := hts (.fieldLink RX4 9 "ModeDesk$Tape" "bytes" "[C") (by decide +kernel)
  have iX4 : ∀ w ∈ wsX40, w ∈ wsX4_readNumber := by decide +kernel
  unfold mX4_readNumber at h
  refine lv_aload_n hx hb dX4_readNumber_0 rfl (lv_at hl 0 rfl) ?_
  refine lv_iconst (v := 2) hx hb dX4_readNumber_1 (by decide) ?_
  refine va_put (D := D) (ci := 4) (v := .int 2) (ty := .int) (C := RX4) (T := TX4) (N := 7) hx hb hts iX4 tyX4 tyX4_ok nmX4 hown hK hP hD hS 0 rfl rfl 5 (Nat.le_of_ble_eq_true rfl) f28 (fun _ h9 => h9) rfl (tyX4_ok 5 (Nat.le_of_ble_eq_true rfl)) rfl rfl (Nat.le_of_ble_eq_true rfl) dX4_readNumber_2 (fun H locs hP hD hS => ?_)
  have hP : va_P D vwCl (wX4 cA ad (tape.1, tape.2.1, tape.2.2.1, tape.2.2.2.1, tape.2.2.2.2.1, 2, tape.2.2.2.2.2.2)) H := hP
  have hD : va_D A (wX4 cA ad (tape.1, tape.2.1, tape.2.2.1, tape.2.2.2.1, tape.2.2.2.2.1, 2, tape.2.2.2.2.2.2)) := hD
  refine lv_aload_n hx hb dX4_readNumber_5 rfl (lv_at hl 0 rfl) ?_
  refine lv_iconst (v := 0) hx hb dX4_readNumber_6 (by decide) ?_
  refine va_put (D := D) (ci := 4) (v := .int 0) (ty := .int) (C := RX4) (T := TX4) (N := 7) hx hb hts iX4 tyX4 tyX4_ok nmX4 hown hK hP hD hS 0 rfl rfl 6 (Nat.le_of_ble_eq_true rfl) f31 (fun _ h9 => h9) rfl (tyX4_ok 6 (Nat.le_of_ble_eq_true rfl)) rfl rfl (Nat.le_of_ble_eq_true rfl) dX4_readNumber_7 (fun H locs hP hD hS => ?_)
  have hP : va_P D vwCl (wX4 cA ad (tape.1, tape.2.1, tape.2.2.1, tape.2.2.2.1, tape.2.2.2.2.1, 2, 0)) H := hP
  have hD : va_D A (wX4 cA ad (tape.1, tape.2.1, tape.2.2.1, tape.2.2.2.1, tape.2.2.2.2.1, 2, 0)) := hD
  have hL10 : ∀ (n : Nat) (tape : TapT) (z1 : TapT) (ls : Array Slot) (H : Heap) (locs : List Loc), lv_has ls 1 [(0, .ref (ad 0))] → va_P D vwCl (wX4 cA ad tape) H → va_D A (wX4 cA ad tape) → va_S A s.heap H locs → mX4_readNumber_L10  n tape = some z1 → (∀ (ls : Array Slot) (H : Heap) (locs : List Loc), lv_has ls 1 [] → va_P D vwCl (wX4 cA ad z1) H → va_D A (wX4 cA ad z1) → va_S A s.heap H locs → W p l e (headSpec wsX4_readNumber { frames := 1, cells := 0, slots := 0, locals := 24 }).room s m args below meth c H locs 0 0 Q (F0 m 78 ls [])) → W p l e (headSpec wsX4_readNumber { frames := 1, cells := 0, slots := 0, locals := 24 }).room s m args below meth c H locs 0 0 Q (F0 m 10 ls []) := by
    intro n
    induction n with
    | zero => intro tape z1 ls H locs hl hP hD hS h hk10; exact e_n h
    | succ n ih10 =>
      intro tape z1 ls H locs hl hP hD hS h hk10
      rw [mX4_readNumber_L10.eq_2] at h
      refine lv_aload_n hx hb dX4_readNumber_10 rfl (lv_at hl 0 rfl) ?_
      refine va_get (D := D) (ci := 4) (v := .int tape.2.2.2.1) (C := RX4) (T := TX4) (N := 7) hx hb hts iX4 hown hK hP 0 rfl rfl 3 (Nat.le_of_ble_eq_true rfl) f22 (fun _ h9 => h9) rfl dX4_readNumber_11 ?_
      refine lv_aload_n hx hb dX4_readNumber_14 rfl (lv_at hl 0 rfl) ?_
      refine va_get (D := D) (ci := 4) (v := .int tape.2.2.1) (C := RX4) (T := TX4) (N := 7) hx hb hts iX4 hown hK hP 0 rfl rfl 2 (Nat.le_of_ble_eq_true rfl) f19 (fun _ h9 => h9) rfl dX4_readNumber_15 ?_
      refine lv_icmp_ge (tgt := 78) hx hb dX4_readNumber_18 (by decide) (fun c2 => ?_) (fun c2 => ?_)
      · have h := e_t c2 h
        obtain rfl := e_s h
        exact hk10 _ _ _ (lv_sub hl [] rfl) hP hD hS
      · have h := e_f c2 h
        refine lv_aload_n hx hb dX4_readNumber_21 rfl (lv_at hl 0 rfl) ?_
        refine va_get (D := D) (ci := 4) (v := .ref (ad 1)) (C := RX4) (T := TX4) (N := 7) hx hb hts iX4 hown hK hP 0 rfl rfl 0 (Nat.le_of_ble_eq_true rfl) f9 (fun _ h9 => h9) rfl dX4_readNumber_22 ?_
        refine lv_aload_n hx hb dX4_readNumber_25 rfl (lv_at hl 0 rfl) ?_
        refine va_get (D := D) (ci := 4) (v := .int tape.2.2.2.1) (C := RX4) (T := TX4) (N := 7) hx hb hts iX4 hown hK hP 0 rfl rfl 3 (Nat.le_of_ble_eq_true rfl) f22 (fun _ h9 => h9) rfl dX4_readNumber_26 ?_
        obtain ⟨v3, ev3, nv3, h⟩ := e_rd h
        refine xa_cald hx hb hK hP 1 rfl nv3 ev3 dX4_readNumber_29 ?_
        obtain ⟨q4, eq4, h⟩ := e_b h
        refine xs_i (As := [.int v3]) (rest := []) ⟨hx, hb, hml, hown, hts⟩ hl.1 (kX4_isDigit l D cA   v3  _ eq4) (va_cwS 1 hts gX4_readNumber_X4_isDigit rfl rfl rfl (by decide +kernel) ⟨Nat.le_of_ble_eq_true rfl, Nat.le_of_ble_eq_true rfl⟩) rfl hK hP hD hS hA [] rfl (by decide +kernel) rfl (Nat.le_of_ble_eq_true rfl) dX4_readNumber_30 ⟨Nat.zero_le _, Nat.zero_le _⟩ (fun H locs hP hD hS hnq4 => ?_)
        have hP : va_P D vwCl (wX4 cA ad tape) H := hP
        have hD : va_D A (wX4 cA ad tape) := hD
        refine lv_if_eq (tgt := 78) hx hb dX4_readNumber_33 (by decide) (fun c5 => ?_) (fun c5 => ?_)
        · have h := e_t c5 h
          obtain rfl := e_s h
          exact hk10 _ _ _ (lv_sub hl [] rfl) hP hD hS
        · have h := e_f c5 h
          refine lv_aload_n hx hb dX4_readNumber_36 rfl (lv_at hl 0 rfl) ?_
          refine lv_aload_n hx hb dX4_readNumber_37 rfl (lv_at hl 0 rfl) ?_
          refine va_get (D := D) (ci := 4) (v := .int tape.2.2.2.2.2.2) (C := RX4) (T := TX4) (N := 7) hx hb hts iX4 hown hK hP 0 rfl rfl 6 (Nat.le_of_ble_eq_true rfl) f31 (fun _ h9 => h9) rfl dX4_readNumber_38 ?_
          refine lv_bipush (v := 10) hx hb dX4_readNumber_41 (by decide) ?_
          refine lv_imul hx hb dX4_readNumber_43 ?_
          refine lv_aload_n hx hb dX4_readNumber_44 rfl (lv_at hl 0 rfl) ?_
          refine va_get (D := D) (ci := 4) (v := .ref (ad 1)) (C := RX4) (T := TX4) (N := 7) hx hb hts iX4 hown hK hP 0 rfl rfl 0 (Nat.le_of_ble_eq_true rfl) f9 (fun _ h9 => h9) rfl dX4_readNumber_45 ?_
          refine lv_aload_n hx hb dX4_readNumber_48 rfl (lv_at hl 0 rfl) ?_
          refine va_get (D := D) (ci := 4) (v := .int tape.2.2.2.1) (C := RX4) (T := TX4) (N := 7) hx hb hts iX4 hown hK hP 0 rfl rfl 3 (Nat.le_of_ble_eq_true rfl) f22 (fun _ h9 => h9) rfl dX4_readNumber_49 ?_
          obtain ⟨v6, ev6, nv6, h⟩ := e_rd h
          refine xa_cald hx hb hK hP 1 rfl nv6 ev6 dX4_readNumber_52 ?_
          refine lv_bipush (v := 48) hx hb dX4_readNumber_53 (by decide) ?_
          refine lv_isub hx hb dX4_readNumber_55 ?_
          refine lv_iadd hx hb dX4_readNumber_56 ?_
          refine lv_ldc (v := 100000) hx hb hown (hts (.constant RX4 53 (100000)) (by decide +kernel)) dX4_readNumber_57 ?_
          refine va_mmin hx hb (by rw [hml, hl.1]) hown (hts (.methodLink RX4 54 Lib.Math.min.name) (by decide +kernel)) (hts (.static Lib.Math.min.name) (by decide +kernel)) (hts (.initialized "java/lang/Math") (by decide +kernel)) (hts (.code Lib.Math.min.name Lib.Math.min.code 2 (some .int)) (by decide +kernel)) (Nat.le_of_ble_eq_true rfl) (Nat.le_of_ble_eq_true rfl) (Nat.zero_le _) (Nat.zero_le _) dX4_readNumber_59 ?_
          refine va_put (D := D) (ci := 4) (v := .int (if 100000 < ((tape.2.2.2.2.2.2 * 10) + (v6 - 48)) then 100000 else ((tape.2.2.2.2.2.2 * 10) + (v6 - 48)))) (ty := .int) (C := RX4) (T := TX4) (N := 7) hx hb hts iX4 tyX4 tyX4_ok nmX4 hown hK hP hD hS 0 rfl rfl 6 (Nat.le_of_ble_eq_true rfl) f31 (fun _ h9 => h9) rfl (tyX4_ok 6 (Nat.le_of_ble_eq_true rfl)) rfl rfl (Nat.le_of_ble_eq_true rfl) dX4_readNumber_62 (fun H locs hP hD hS => ?_)
          have hP : va_P D vwCl (wX4 cA ad (tape.1, tape.2.1, tape.2.2.1, tape.2.2.2.1, tape.2.2.2.2.1, tape.2.2.2.2.2.1, (if 100000 < ((tape.2.2.2.2.2.2 * 10) + (v6 - 48)) then 100000 else ((tape.2.2.2.2.2.2 * 10) + (v6 - 48))))) H := hP
          have hD : va_D A (wX4 cA ad (tape.1, tape.2.1, tape.2.2.1, tape.2.2.2.1, tape.2.2.2.2.1, tape.2.2.2.2.2.1, (if 100000 < ((tape.2.2.2.2.2.2 * 10) + (v6 - 48)) then 100000 else ((tape.2.2.2.2.2.2 * 10) + (v6 - 48))))) := hD
          refine lv_aload_n hx hb dX4_readNumber_65 rfl (lv_at hl 0 rfl) ?_
          refine lv_dup hx hb dX4_readNumber_66 rfl ?_
          refine va_get (D := D) (ci := 4) (v := .int tape.2.2.2.1) (C := RX4) (T := TX4) (N := 7) hx hb hts iX4 hown hK hP 0 rfl rfl 3 (Nat.le_of_ble_eq_true rfl) f22 (fun _ h9 => h9) rfl dX4_readNumber_67 ?_
          refine lv_iconst (v := 1) hx hb dX4_readNumber_70 (by decide) ?_
          refine lv_iadd hx hb dX4_readNumber_71 ?_
          refine va_put (D := D) (ci := 4) (v := .int (tape.2.2.2.1 + 1)) (ty := .int) (C := RX4) (T := TX4) (N := 7) hx hb hts iX4 tyX4 tyX4_ok nmX4 hown hK hP hD hS 0 rfl rfl 3 (Nat.le_of_ble_eq_true rfl) f22 (fun _ h9 => h9) rfl (tyX4_ok 3 (Nat.le_of_ble_eq_true rfl)) rfl rfl (Nat.le_of_ble_eq_true rfl) dX4_readNumber_72 (fun H locs hP hD hS => ?_)
          have hP : va_P D vwCl (wX4 cA ad (tape.1, tape.2.1, tape.2.2.1, (tape.2.2.2.1 + 1), tape.2.2.2.2.1, tape.2.2.2.2.2.1, (if 100000 < ((tape.2.2.2.2.2.2 * 10) + (v6 - 48)) then 100000 else ((tape.2.2.2.2.2.2 * 10) + (v6 - 48))))) H := hP
          have hD : va_D A (wX4 cA ad (tape.1, tape.2.1, tape.2.2.1, (tape.2.2.2.1 + 1), tape.2.2.2.2.1, tape.2.2.2.2.2.1, (if 100000 < ((tape.2.2.2.2.2.2 * 10) + (v6 - 48)) then 100000 else ((tape.2.2.2.2.2.2 * 10) + (v6 - 48))))) := hD
          refine lv_goto (tgt := 10) hx hb dX4_readNumber_75 (by decide) ?_
          exact ih10 (tape.1, tape.2.1, tape.2.2.1, (tape.2.2.2.1 + 1), tape.2.2.2.2.1, tape.2.2.2.2.2.1, (if 100000 < ((tape.2.2.2.2.2.2 * 10) + (v6 - 48)) then 100000 else ((tape.2.2.2.2.2.2 * 10) + (v6 - 48)))) z1 _ _ _ (lv_sub hl [0] rfl) hP hD hS h hk10
  obtain ⟨z7, ez7, h⟩ := e_b h
  refine hL10 FU (tape.1, tape.2.1, tape.2.2.1, tape.2.2.2.1, tape.2.2.2.2.1, 2, 0) z7 _ _ _ (lv_sub hl [0] rfl) hP hD hS ez7 (fun ls H locs hl hP hD hS => ?_)
  obtain rfl := e_s h
  exact hret hP hS dX4_readNumber_78
set_option maxHeartbeats 4000000 in
set_option maxRecDepth 100000 in
theorem kX4_readWord (l : Launch) (D : va_G) (cA : Nat → ClassId) (ad : Nat → Nat) (tape : TapT)  (q : TapT) (h : mX4_readWord tape  = some q) : MV l yX4_readWord wsX4_readWord { frames := 1, cells := 0, slots := 0, locals := 20 } D cA [.ref (ad 0)] (wX4 cA ad tape) (wX4 cA ad q) := by
  refine MV.of (cc := cX4_readWord) (maxL := 1) (by decide) rfl rfl rfl (Nat.le_of_ble_eq_true rfl) ?_
  intro p e s m args below meth c A ls Q hx hb hml hts hown hK hP hD hA hS hl hret
  have hl : lv_has ls 1 [(0, .ref (ad 0))] := hl
  have f19 := hts (.fieldLink RX4 19 "ModeDesk$Tape" "end" "I") (by decide +kernel)
  have f22 := hts (.fieldLink RX4 22 "ModeDesk$Tape" "at" "I") (by decide +kernel)
  have f28 := hts (.fieldLink RX4 28 "ModeDesk$Tape" "token" "I") (by decide +kernel)
  have f9 := hts (.fieldLink RX4 9 "ModeDesk$Tape" "bytes" "[C") (by decide +kernel)
  have iX4 : ∀ w ∈ wsX40, w ∈ wsX4_readWord := by decide +kernel
  unfold mX4_readWord at h
  refine lv_aload_n hx hb dX4_readWord_0 rfl (lv_at hl 0 rfl) ?_
  refine lv_iconst (v := 1) hx hb dX4_readWord_1 (by decide) ?_
  refine va_put (D := D) (ci := 4) (v := .int 1) (ty := .int) (C := RX4) (T := TX4) (N := 7) hx hb hts iX4 tyX4 tyX4_ok nmX4 hown hK hP hD hS 0 rfl rfl 5 (Nat.le_of_ble_eq_true rfl) f28 (fun _ h9 => h9) rfl (tyX4_ok 5 (Nat.le_of_ble_eq_true rfl)) rfl rfl (Nat.le_of_ble_eq_true rfl) dX4_readWord_2 (fun H locs hP hD hS => ?_)
  have hP : va_P D vwCl (wX4 cA ad (tape.1, tape.2.1, tape.2.2.1, tape.2.2.2.1, tape.2.2.2.2.1, 1, tape.2.2.2.2.2.2)) H := hP
  have hD : va_D A (wX4 cA ad (tape.1, tape.2.1, tape.2.2.1, tape.2.2.2.1, tape.2.2.2.2.1, 1, tape.2.2.2.2.2.2)) := hD
  have hL5 : ∀ (n : Nat) (tape : TapT) (z1 : TapT) (ls : Array Slot) (H : Heap) (locs : List Loc), lv_has ls 1 [(0, .ref (ad 0))] → va_P D vwCl (wX4 cA ad tape) H → va_D A (wX4 cA ad tape) → va_S A s.heap H locs → mX4_readWord_L5  n tape = some z1 → (∀ (ls : Array Slot) (H : Heap) (locs : List Loc), lv_has ls 1 [] → va_P D vwCl (wX4 cA ad z1) H → va_D A (wX4 cA ad z1) → va_S A s.heap H locs → W p l e (headSpec wsX4_readWord { frames := 1, cells := 0, slots := 0, locals := 20 }).room s m args below meth c H locs 0 0 Q (F0 m 44 ls [])) → W p l e (headSpec wsX4_readWord { frames := 1, cells := 0, slots := 0, locals := 20 }).room s m args below meth c H locs 0 0 Q (F0 m 5 ls []) := by
    intro n
    induction n with
    | zero => intro tape z1 ls H locs hl hP hD hS h hk5; exact e_n h
    | succ n ih5 =>
      intro tape z1 ls H locs hl hP hD hS h hk5
      rw [mX4_readWord_L5.eq_2] at h
      refine lv_aload_n hx hb dX4_readWord_5 rfl (lv_at hl 0 rfl) ?_
      refine va_get (D := D) (ci := 4) (v := .int tape.2.2.2.1) (C := RX4) (T := TX4) (N := 7) hx hb hts iX4 hown hK hP 0 rfl rfl 3 (Nat.le_of_ble_eq_true rfl) f22 (fun _ h9 => h9) rfl dX4_readWord_6 ?_
      refine lv_aload_n hx hb dX4_readWord_9 rfl (lv_at hl 0 rfl) ?_
      refine va_get (D := D) (ci := 4) (v := .int tape.2.2.1) (C := RX4) (T := TX4) (N := 7) hx hb hts iX4 hown hK hP 0 rfl rfl 2 (Nat.le_of_ble_eq_true rfl) f19 (fun _ h9 => h9) rfl dX4_readWord_10 ?_
      refine lv_icmp_ge (tgt := 44) hx hb dX4_readWord_13 (by decide) (fun c2 => ?_) (fun c2 => ?_)
      · have h := e_t c2 h
        obtain rfl := e_s h
        exact hk5 _ _ _ (lv_sub hl [] rfl) hP hD hS
      · have h := e_f c2 h
        refine lv_aload_n hx hb dX4_readWord_16 rfl (lv_at hl 0 rfl) ?_
        refine va_get (D := D) (ci := 4) (v := .ref (ad 1)) (C := RX4) (T := TX4) (N := 7) hx hb hts iX4 hown hK hP 0 rfl rfl 0 (Nat.le_of_ble_eq_true rfl) f9 (fun _ h9 => h9) rfl dX4_readWord_17 ?_
        refine lv_aload_n hx hb dX4_readWord_20 rfl (lv_at hl 0 rfl) ?_
        refine va_get (D := D) (ci := 4) (v := .int tape.2.2.2.1) (C := RX4) (T := TX4) (N := 7) hx hb hts iX4 hown hK hP 0 rfl rfl 3 (Nat.le_of_ble_eq_true rfl) f22 (fun _ h9 => h9) rfl dX4_readWord_21 ?_
        obtain ⟨v3, ev3, nv3, h⟩ := e_rd h
        refine xa_cald hx hb hK hP 1 rfl nv3 ev3 dX4_readWord_24 ?_
        obtain ⟨q4, eq4, h⟩ := e_b h
        refine xs_i (As := [.int v3]) (rest := []) ⟨hx, hb, hml, hown, hts⟩ hl.1 (kX4_isLetter l D cA   v3  _ eq4) (va_cwS 1 hts gX4_readWord_X4_isLetter rfl rfl rfl (by decide +kernel) ⟨Nat.le_of_ble_eq_true rfl, Nat.le_of_ble_eq_true rfl⟩) rfl hK hP hD hS hA [] rfl (by decide +kernel) rfl (Nat.le_of_ble_eq_true rfl) dX4_readWord_25 ⟨Nat.zero_le _, Nat.zero_le _⟩ (fun H locs hP hD hS hnq4 => ?_)
        have hP : va_P D vwCl (wX4 cA ad tape) H := hP
        have hD : va_D A (wX4 cA ad tape) := hD
        refine lv_if_eq (tgt := 44) hx hb dX4_readWord_28 (by decide) (fun c5 => ?_) (fun c5 => ?_)
        · have h := e_t c5 h
          obtain rfl := e_s h
          exact hk5 _ _ _ (lv_sub hl [] rfl) hP hD hS
        · have h := e_f c5 h
          refine lv_aload_n hx hb dX4_readWord_31 rfl (lv_at hl 0 rfl) ?_
          refine lv_dup hx hb dX4_readWord_32 rfl ?_
          refine va_get (D := D) (ci := 4) (v := .int tape.2.2.2.1) (C := RX4) (T := TX4) (N := 7) hx hb hts iX4 hown hK hP 0 rfl rfl 3 (Nat.le_of_ble_eq_true rfl) f22 (fun _ h9 => h9) rfl dX4_readWord_33 ?_
          refine lv_iconst (v := 1) hx hb dX4_readWord_36 (by decide) ?_
          refine lv_iadd hx hb dX4_readWord_37 ?_
          refine va_put (D := D) (ci := 4) (v := .int (tape.2.2.2.1 + 1)) (ty := .int) (C := RX4) (T := TX4) (N := 7) hx hb hts iX4 tyX4 tyX4_ok nmX4 hown hK hP hD hS 0 rfl rfl 3 (Nat.le_of_ble_eq_true rfl) f22 (fun _ h9 => h9) rfl (tyX4_ok 3 (Nat.le_of_ble_eq_true rfl)) rfl rfl (Nat.le_of_ble_eq_true rfl) dX4_readWord_38 (fun H locs hP hD hS => ?_)
          have hP : va_P D vwCl (wX4 cA ad (tape.1, tape.2.1, tape.2.2.1, (tape.2.2.2.1 + 1), tape.2.2.2.2.1, tape.2.2.2.2.2.1, tape.2.2.2.2.2.2)) H := hP
          have hD : va_D A (wX4 cA ad (tape.1, tape.2.1, tape.2.2.1, (tape.2.2.2.1 + 1), tape.2.2.2.2.1, tape.2.2.2.2.2.1, tape.2.2.2.2.2.2)) := hD
          refine lv_goto (tgt := 5) hx hb dX4_readWord_41 (by decide) ?_
          exact ih5 (tape.1, tape.2.1, tape.2.2.1, (tape.2.2.2.1 + 1), tape.2.2.2.2.1, tape.2.2.2.2.2.1, tape.2.2.2.2.2.2) z1 _ _ _ (lv_sub hl [0] rfl) hP hD hS h hk5
  obtain ⟨z6, ez6, h⟩ := e_b h
  refine hL5 FU (tape.1, tape.2.1, tape.2.2.1, tape.2.2.2.1, tape.2.2.2.2.1, 1, tape.2.2.2.2.2.2) z6 _ _ _ (lv_sub hl [0] rfl) hP hD hS ez6 (fun ls H locs hl hP hD hS => ?_)
  obtain rfl := e_s h
  exact hret hP hS dX4_readWord_44
set_option maxHeartbeats 4000000 in
set_option maxRecDepth 100000 in
theorem kX4_advance (l : Launch) (D : va_G) (cA : Nat → ClassId) (ad : Nat → Nat) (tape : TapT)  (q : TapT) (h : mX4_advance tape  = some q) : MV l yX4_advance wsX4_advance { frames := 2, cells := 0, slots := 0, locals := 44 } D cA [.ref (ad 0)] (wX4 cA ad tape) (wX4 cA ad q) := by
  refine MV.of (cc := cX4_advance) (maxL := 1) (by decide) rfl rfl rfl (Nat.le_of_ble_eq_true rfl) ?_
  intro p e s m args below meth c A ls Q hx hb hml hts hown hK hP hD hA hS hl hret
  have hl : lv_has ls 1 [(0, .ref (ad 0))] := hl
  have f19 := hts (.fieldLink RX4 19 "ModeDesk$Tape" "end" "I") (by decide +kernel)
  have f22 := hts (.fieldLink RX4 22 "ModeDesk$Tape" "at" "I") (by decide +kernel)
  have f25 := hts (.fieldLink RX4 25 "ModeDesk$Tape" "start" "I") (by decide +kernel)
  have f28 := hts (.fieldLink RX4 28 "ModeDesk$Tape" "token" "I") (by decide +kernel)
  have f9 := hts (.fieldLink RX4 9 "ModeDesk$Tape" "bytes" "[C") (by decide +kernel)
  have iX4 : ∀ w ∈ wsX40, w ∈ wsX4_advance := by decide +kernel
  unfold mX4_advance at h
  have hL0 : ∀ (n : Nat) (tape : TapT) (z1 : TapT) (ls : Array Slot) (H : Heap) (locs : List Loc), lv_has ls 1 [(0, .ref (ad 0))] → va_P D vwCl (wX4 cA ad tape) H → va_D A (wX4 cA ad tape) → va_S A s.heap H locs → mX4_advance_L0  n tape = some z1 → (∀ (ls : Array Slot) (H : Heap) (locs : List Loc), lv_has ls 1 [(0, .ref (ad 0))] → va_P D vwCl (wX4 cA ad z1) H → va_D A (wX4 cA ad z1) → va_S A s.heap H locs → W p l e (headSpec wsX4_advance { frames := 2, cells := 0, slots := 0, locals := 44 }).room s m args below meth c H locs 0 0 Q (F0 m 39 ls [])) → W p l e (headSpec wsX4_advance { frames := 2, cells := 0, slots := 0, locals := 44 }).room s m args below meth c H locs 0 0 Q (F0 m 0 ls []) := by
    intro n
    induction n with
    | zero => intro tape z1 ls H locs hl hP hD hS h hk0; exact e_n h
    | succ n ih0 =>
      intro tape z1 ls H locs hl hP hD hS h hk0
      rw [mX4_advance_L0.eq_2] at h
      refine lv_aload_n hx hb dX4_advance_0 rfl (lv_at hl 0 rfl) ?_
      refine va_get (D := D) (ci := 4) (v := .int tape.2.2.2.1) (C := RX4) (T := TX4) (N := 7) hx hb hts iX4 hown hK hP 0 rfl rfl 3 (Nat.le_of_ble_eq_true rfl) f22 (fun _ h9 => h9) rfl dX4_advance_1 ?_
      refine lv_aload_n hx hb dX4_advance_4 rfl (lv_at hl 0 rfl) ?_
      refine va_get (D := D) (ci := 4) (v := .int tape.2.2.1) (C := RX4) (T := TX4) (N := 7) hx hb hts iX4 hown hK hP 0 rfl rfl 2 (Nat.le_of_ble_eq_true rfl) f19 (fun _ h9 => h9) rfl dX4_advance_5 ?_
      refine lv_icmp_ge (tgt := 39) hx hb dX4_advance_8 (by decide) (fun c2 => ?_) (fun c2 => ?_)
      · have h := e_t c2 h
        obtain rfl := e_s h
        exact hk0 _ _ _ (lv_sub hl [0] rfl) hP hD hS
      · have h := e_f c2 h
        refine lv_aload_n hx hb dX4_advance_11 rfl (lv_at hl 0 rfl) ?_
        refine va_get (D := D) (ci := 4) (v := .ref (ad 1)) (C := RX4) (T := TX4) (N := 7) hx hb hts iX4 hown hK hP 0 rfl rfl 0 (Nat.le_of_ble_eq_true rfl) f9 (fun _ h9 => h9) rfl dX4_advance_12 ?_
        refine lv_aload_n hx hb dX4_advance_15 rfl (lv_at hl 0 rfl) ?_
        refine va_get (D := D) (ci := 4) (v := .int tape.2.2.2.1) (C := RX4) (T := TX4) (N := 7) hx hb hts iX4 hown hK hP 0 rfl rfl 3 (Nat.le_of_ble_eq_true rfl) f22 (fun _ h9 => h9) rfl dX4_advance_16 ?_
        obtain ⟨v3, ev3, nv3, h⟩ := e_rd h
        refine xa_cald hx hb hK hP 1 rfl nv3 ev3 dX4_advance_19 ?_
        obtain ⟨q4, eq4, h⟩ := e_b h
        refine xs_i (As := [.int v3]) (rest := []) ⟨hx, hb, hml, hown, hts⟩ hl.1 (kX4_isBlank l D cA   v3  _ eq4) (va_cwS 1 hts gX4_advance_X4_isBlank rfl rfl rfl (by decide +kernel) ⟨Nat.le_of_ble_eq_true rfl, Nat.le_of_ble_eq_true rfl⟩) rfl hK hP hD hS hA [] rfl (by decide +kernel) rfl (Nat.le_of_ble_eq_true rfl) dX4_advance_20 ⟨Nat.zero_le _, Nat.zero_le _⟩ (fun H locs hP hD hS hnq4 => ?_)
        have hP : va_P D vwCl (wX4 cA ad tape) H := hP
        have hD : va_D A (wX4 cA ad tape) := hD
        refine lv_if_eq (tgt := 39) hx hb dX4_advance_23 (by decide) (fun c5 => ?_) (fun c5 => ?_)
        · have h := e_t c5 h
          obtain rfl := e_s h
          exact hk0 _ _ _ (lv_sub hl [0] rfl) hP hD hS
        · have h := e_f c5 h
          refine lv_aload_n hx hb dX4_advance_26 rfl (lv_at hl 0 rfl) ?_
          refine lv_dup hx hb dX4_advance_27 rfl ?_
          refine va_get (D := D) (ci := 4) (v := .int tape.2.2.2.1) (C := RX4) (T := TX4) (N := 7) hx hb hts iX4 hown hK hP 0 rfl rfl 3 (Nat.le_of_ble_eq_true rfl) f22 (fun _ h9 => h9) rfl dX4_advance_28 ?_
          refine lv_iconst (v := 1) hx hb dX4_advance_31 (by decide) ?_
          refine lv_iadd hx hb dX4_advance_32 ?_
          refine va_put (D := D) (ci := 4) (v := .int (tape.2.2.2.1 + 1)) (ty := .int) (C := RX4) (T := TX4) (N := 7) hx hb hts iX4 tyX4 tyX4_ok nmX4 hown hK hP hD hS 0 rfl rfl 3 (Nat.le_of_ble_eq_true rfl) f22 (fun _ h9 => h9) rfl (tyX4_ok 3 (Nat.le_of_ble_eq_true rfl)) rfl rfl (Nat.le_of_ble_eq_true rfl) dX4_advance_33 (fun H locs hP hD hS => ?_)
          have hP : va_P D vwCl (wX4 cA ad (tape.1, tape.2.1, tape.2.2.1, (tape.2.2.2.1 + 1), tape.2.2.2.2.1, tape.2.2.2.2.2.1, tape.2.2.2.2.2.2)) H := hP
          have hD : va_D A (wX4 cA ad (tape.1, tape.2.1, tape.2.2.1, (tape.2.2.2.1 + 1), tape.2.2.2.2.1, tape.2.2.2.2.2.1, tape.2.2.2.2.2.2)) := hD
          refine lv_goto (tgt := 0) hx hb dX4_advance_36 (by decide) ?_
          exact ih0 (tape.1, tape.2.1, tape.2.2.1, (tape.2.2.2.1 + 1), tape.2.2.2.2.1, tape.2.2.2.2.2.1, tape.2.2.2.2.2.2) z1 _ _ _ (lv_sub hl [0] rfl) hP hD hS h hk0
  obtain ⟨z6, ez6, h⟩ := e_b h
  refine hL0 FU tape z6 _ _ _ (lv_sub hl [0] rfl) hP hD hS ez6 (fun ls H locs hl hP hD hS => ?_)
  refine lv_aload_n hx hb dX4_advance_39 rfl (lv_at hl 0 rfl) ?_
  refine lv_aload_n hx hb dX4_advance_40 rfl (lv_at hl 0 rfl) ?_
  refine va_get (D := D) (ci := 4) (v := .int z6.2.2.2.1) (C := RX4) (T := TX4) (N := 7) hx hb hts iX4 hown hK hP 0 rfl rfl 3 (Nat.le_of_ble_eq_true rfl) f22 (fun _ h9 => h9) rfl dX4_advance_41 ?_
  refine va_put (D := D) (ci := 4) (v := .int z6.2.2.2.1) (ty := .int) (C := RX4) (T := TX4) (N := 7) hx hb hts iX4 tyX4 tyX4_ok nmX4 hown hK hP hD hS 0 rfl rfl 4 (Nat.le_of_ble_eq_true rfl) f25 (fun _ h9 => h9) rfl (tyX4_ok 4 (Nat.le_of_ble_eq_true rfl)) rfl rfl (Nat.le_of_ble_eq_true rfl) dX4_advance_44 (fun H locs hP hD hS => ?_)
  have hP : va_P D vwCl (wX4 cA ad (z6.1, z6.2.1, z6.2.2.1, z6.2.2.2.1, z6.2.2.2.1, z6.2.2.2.2.2.1, z6.2.2.2.2.2.2)) H := hP
  have hD : va_D A (wX4 cA ad (z6.1, z6.2.1, z6.2.2.1, z6.2.2.2.1, z6.2.2.2.1, z6.2.2.2.2.2.1, z6.2.2.2.2.2.2)) := hD
  refine lv_aload_n hx hb dX4_advance_47 rfl (lv_at hl 0 rfl) ?_
  refine va_get (D := D) (ci := 4) (v := .int z6.2.2.2.1) (C := RX4) (T := TX4) (N := 7) hx hb hts iX4 hown hK hP 0 rfl rfl 3 (Nat.le_of_ble_eq_true rfl) f22 (fun _ h9 => h9) rfl dX4_advance_48 ?_
  refine lv_aload_n hx hb dX4_advance_51 rfl (lv_at hl 0 rfl) ?_
  refine va_get (D := D) (ci := 4) (v := .int z6.2.2.1) (C := RX4) (T := TX4) (N := 7) hx hb hts iX4 hown hK hP 0 rfl rfl 2 (Nat.le_of_ble_eq_true rfl) f19 (fun _ h9 => h9) rfl dX4_advance_52 ?_
  refine lv_icmp_lt (tgt := 66) hx hb dX4_advance_55 (by decide) (fun c7 => ?_) (fun c7 => ?_)
  · have h := e_t c7 h
    refine lv_aload_n hx hb dX4_advance_66 rfl (lv_at hl 0 rfl) ?_
    refine va_get (D := D) (ci := 4) (v := .ref (ad 1)) (C := RX4) (T := TX4) (N := 7) hx hb hts iX4 hown hK hP 0 rfl rfl 0 (Nat.le_of_ble_eq_true rfl) f9 (fun _ h9 => h9) rfl dX4_advance_67 ?_
    refine lv_aload_n hx hb dX4_advance_70 rfl (lv_at hl 0 rfl) ?_
    refine va_get (D := D) (ci := 4) (v := .int z6.2.2.2.1) (C := RX4) (T := TX4) (N := 7) hx hb hts iX4 hown hK hP 0 rfl rfl 3 (Nat.le_of_ble_eq_true rfl) f22 (fun _ h9 => h9) rfl dX4_advance_71 ?_
    obtain ⟨v8, ev8, nv8, h⟩ := e_rd h
    refine xa_cald hx hb hK hP 1 rfl nv8 ev8 dX4_advance_74 ?_
    obtain ⟨q9, eq9, h⟩ := e_b h
    refine xs_i (As := [.int v8]) (rest := []) ⟨hx, hb, hml, hown, hts⟩ hl.1 (kX4_isLetter l D cA   v8  _ eq9) (va_cwS 1 hts gX4_advance_X4_isLetter rfl rfl rfl (by decide +kernel) ⟨Nat.le_of_ble_eq_true rfl, Nat.le_of_ble_eq_true rfl⟩) rfl hK hP hD hS hA [] rfl (by decide +kernel) rfl (Nat.le_of_ble_eq_true rfl) dX4_advance_75 ⟨Nat.zero_le _, Nat.zero_le _⟩ (fun H locs hP hD hS hnq9 => ?_)
    have hP : va_P D vwCl (wX4 cA ad (z6.1, z6.2.1, z6.2.2.1, z6.2.2.2.1, z6.2.2.2.1, z6.2.2.2.2.2.1, z6.2.2.2.2.2.2)) H := hP
    have hD : va_D A (wX4 cA ad (z6.1, z6.2.1, z6.2.2.1, z6.2.2.2.1, z6.2.2.2.1, z6.2.2.2.2.2.1, z6.2.2.2.2.2.2)) := hD
    refine lv_if_eq (tgt := 88) hx hb dX4_advance_78 (by decide) (fun c10 => ?_) (fun c10 => ?_)
    · have h := e_t c10 h
      refine lv_aload_n hx hb dX4_advance_88 rfl (lv_at hl 0 rfl) ?_
      refine va_get (D := D) (ci := 4) (v := .ref (ad 1)) (C := RX4) (T := TX4) (N := 7) hx hb hts iX4 hown hK hP 0 rfl rfl 0 (Nat.le_of_ble_eq_true rfl) f9 (fun _ h9 => h9) rfl dX4_advance_89 ?_
      refine lv_aload_n hx hb dX4_advance_92 rfl (lv_at hl 0 rfl) ?_
      refine va_get (D := D) (ci := 4) (v := .int z6.2.2.2.1) (C := RX4) (T := TX4) (N := 7) hx hb hts iX4 hown hK hP 0 rfl rfl 3 (Nat.le_of_ble_eq_true rfl) f22 (fun _ h9 => h9) rfl dX4_advance_93 ?_
      obtain ⟨v11, ev11, nv11, h⟩ := e_rd h
      refine xa_cald hx hb hK hP 1 rfl nv11 ev11 dX4_advance_96 ?_
      obtain ⟨q12, eq12, h⟩ := e_b h
      refine xs_i (As := [.int v11]) (rest := []) ⟨hx, hb, hml, hown, hts⟩ hl.1 (kX4_isDigit l D cA   v11  _ eq12) (va_cwS 1 hts gX4_advance_X4_isDigit rfl rfl rfl (by decide +kernel) ⟨Nat.le_of_ble_eq_true rfl, Nat.le_of_ble_eq_true rfl⟩) rfl hK hP hD hS hA [] rfl (by decide +kernel) rfl (Nat.le_of_ble_eq_true rfl) dX4_advance_97 ⟨Nat.zero_le _, Nat.zero_le _⟩ (fun H locs hP hD hS hnq12 => ?_)
      have hP : va_P D vwCl (wX4 cA ad (z6.1, z6.2.1, z6.2.2.1, z6.2.2.2.1, z6.2.2.2.1, z6.2.2.2.2.2.1, z6.2.2.2.2.2.2)) H := hP
      have hD : va_D A (wX4 cA ad (z6.1, z6.2.1, z6.2.2.1, z6.2.2.2.1, z6.2.2.2.1, z6.2.2.2.2.2.1, z6.2.2.2.2.2.2)) := hD
      refine lv_if_eq (tgt := 110) hx hb dX4_advance_100 (by decide) (fun c13 => ?_) (fun c13 => ?_)
      · have h := e_t c13 h
        refine lv_aload_n hx hb dX4_advance_110 rfl (lv_at hl 0 rfl) ?_
        refine lv_aload_n hx hb dX4_advance_111 rfl (lv_at hl 0 rfl) ?_
        refine va_get (D := D) (ci := 4) (v := .ref (ad 1)) (C := RX4) (T := TX4) (N := 7) hx hb hts iX4 hown hK hP 0 rfl rfl 0 (Nat.le_of_ble_eq_true rfl) f9 (fun _ h9 => h9) rfl dX4_advance_112 ?_
        refine lv_aload_n hx hb dX4_advance_115 rfl (lv_at hl 0 rfl) ?_
        refine va_get (D := D) (ci := 4) (v := .int z6.2.2.2.1) (C := RX4) (T := TX4) (N := 7) hx hb hts iX4 hown hK hP 0 rfl rfl 3 (Nat.le_of_ble_eq_true rfl) f22 (fun _ h9 => h9) rfl dX4_advance_116 ?_
        obtain ⟨v14, ev14, nv14, h⟩ := e_rd h
        refine xa_cald hx hb hK hP 1 rfl nv14 ev14 dX4_advance_119 ?_
        refine lv_bipush (v := 59) hx hb dX4_advance_120 (by decide) ?_
        obtain ⟨z15, ez15, h⟩ := e_b h
        have hJ16 : ∀ (ls : Array Slot) (H : Heap) (locs : List Loc), lv_has ls 1 [(0, .ref (ad 0))] → va_P D vwCl (wX4 cA ad (z6.1, z6.2.1, z6.2.2.1, z6.2.2.2.1, z6.2.2.2.1, z6.2.2.2.2.2.1, z6.2.2.2.2.2.2)) H → va_D A (wX4 cA ad (z6.1, z6.2.1, z6.2.2.1, z6.2.2.2.1, z6.2.2.2.1, z6.2.2.2.2.2.1, z6.2.2.2.2.2.2)) → va_S A s.heap H locs → W p l e (headSpec wsX4_advance { frames := 2, cells := 0, slots := 0, locals := 44 }).room s m args below meth c H locs 0 0 Q (F0 m 130 ls [.int z15, .ref (ad 0)]) := by
          intro ls H locs hl hP hD hS
          refine va_put (D := D) (ci := 4) (v := .int z15) (ty := .int) (C := RX4) (T := TX4) (N := 7) hx hb hts iX4 tyX4 tyX4_ok nmX4 hown hK hP hD hS 0 rfl rfl 5 (Nat.le_of_ble_eq_true rfl) f28 (fun _ h9 => h9) rfl (tyX4_ok 5 (Nat.le_of_ble_eq_true rfl)) rfl rfl (Nat.le_of_ble_eq_true rfl) dX4_advance_130 (fun H locs hP hD hS => ?_)
          have hP : va_P D vwCl (wX4 cA ad (z6.1, z6.2.1, z6.2.2.1, z6.2.2.2.1, z6.2.2.2.1, z15, z6.2.2.2.2.2.2)) H := hP
          have hD : va_D A (wX4 cA ad (z6.1, z6.2.1, z6.2.2.1, z6.2.2.2.1, z6.2.2.2.1, z15, z6.2.2.2.2.2.2)) := hD
          refine lv_aload_n hx hb dX4_advance_133 rfl (lv_at hl 0 rfl) ?_
          refine lv_dup hx hb dX4_advance_134 rfl ?_
          refine va_get (D := D) (ci := 4) (v := .int z6.2.2.2.1) (C := RX4) (T := TX4) (N := 7) hx hb hts iX4 hown hK hP 0 rfl rfl 3 (Nat.le_of_ble_eq_true rfl) f22 (fun _ h9 => h9) rfl dX4_advance_135 ?_
          refine lv_iconst (v := 1) hx hb dX4_advance_138 (by decide) ?_
          refine lv_iadd hx hb dX4_advance_139 ?_
          refine va_put (D := D) (ci := 4) (v := .int (z6.2.2.2.1 + 1)) (ty := .int) (C := RX4) (T := TX4) (N := 7) hx hb hts iX4 tyX4 tyX4_ok nmX4 hown hK hP hD hS 0 rfl rfl 3 (Nat.le_of_ble_eq_true rfl) f22 (fun _ h9 => h9) rfl (tyX4_ok 3 (Nat.le_of_ble_eq_true rfl)) rfl rfl (Nat.le_of_ble_eq_true rfl) dX4_advance_140 (fun H locs hP hD hS => ?_)
          have hP : va_P D vwCl (wX4 cA ad (z6.1, z6.2.1, z6.2.2.1, (z6.2.2.2.1 + 1), z6.2.2.2.1, z15, z6.2.2.2.2.2.2)) H := hP
          have hD : va_D A (wX4 cA ad (z6.1, z6.2.1, z6.2.2.1, (z6.2.2.2.1 + 1), z6.2.2.2.1, z15, z6.2.2.2.2.2.2)) := hD
          obtain rfl := e_s h
          exact hret hP hS dX4_advance_143
        have h := ez15
        refine lv_icmp_ne (tgt := 129) hx hb dX4_advance_122 (by decide) (fun c17 => ?_) (fun c17 => ?_)
        · have h := e_t c17 h
          refine lv_iconst (v := 4) hx hb dX4_advance_129 (by decide) ?_
          obtain rfl := e_s h
          exact hJ16 _ _ _ (lv_sub hl [0] rfl) hP hD hS
        · have h := e_f (not_not_intro c17) h
          refine lv_iconst (v := 3) hx hb dX4_advance_125 (by decide) ?_
          refine lv_goto (tgt := 130) hx hb dX4_advance_126 (by decide) ?_
          obtain rfl := e_s h
          exact hJ16 _ _ _ (lv_sub hl [0] rfl) hP hD hS
      · have h := e_f c13 h
        refine lv_aload_n hx hb dX4_advance_103 rfl (lv_at hl 0 rfl) ?_
        obtain ⟨q18, eq18, h⟩ := e_b h
        refine xv_v0 (As := []) (rest := []) (ci := 4) (b := ad 0) ⟨hx, hb, hml, hown, hts⟩ hl.1 (kX4_readNumber l D cA ad (z6.1, z6.2.1, z6.2.2.1, z6.2.2.2.1, z6.2.2.2.1, z6.2.2.2.2.2.1, z6.2.2.2.2.2.2)   _ eq18) (cwV 0 hts gX4_advance_X4_readNumber rfl rfl rfl (by decide +kernel) ⟨Nat.le_of_ble_eq_true rfl, Nat.le_of_ble_eq_true rfl⟩) rfl hK hP hD hS hA 0 rfl rfl rfl rfl (Nat.le_of_ble_eq_true rfl) dX4_advance_104 ⟨Nat.zero_le _, Nat.zero_le _⟩ (fun H locs hP hD hS => ?_)
        have hP : va_P D vwCl (wX4 cA ad q18) H := hP
        have hD : va_D A (wX4 cA ad q18) := hD
        refine lv_goto (tgt := 143) hx hb dX4_advance_107 (by decide) ?_
        obtain rfl := e_s h
        exact hret hP hS dX4_advance_143
    · have h := e_f c10 h
      refine lv_aload_n hx hb dX4_advance_81 rfl (lv_at hl 0 rfl) ?_
      obtain ⟨q19, eq19, h⟩ := e_b h
      refine xv_v0 (As := []) (rest := []) (ci := 4) (b := ad 0) ⟨hx, hb, hml, hown, hts⟩ hl.1 (kX4_readWord l D cA ad (z6.1, z6.2.1, z6.2.2.1, z6.2.2.2.1, z6.2.2.2.1, z6.2.2.2.2.2.1, z6.2.2.2.2.2.2)   _ eq19) (cwV 0 hts gX4_advance_X4_readWord rfl rfl rfl (by decide +kernel) ⟨Nat.le_of_ble_eq_true rfl, Nat.le_of_ble_eq_true rfl⟩) rfl hK hP hD hS hA 0 rfl rfl rfl rfl (Nat.le_of_ble_eq_true rfl) dX4_advance_82 ⟨Nat.zero_le _, Nat.zero_le _⟩ (fun H locs hP hD hS => ?_)
      have hP : va_P D vwCl (wX4 cA ad q19) H := hP
      have hD : va_D A (wX4 cA ad q19) := hD
      refine lv_goto (tgt := 143) hx hb dX4_advance_85 (by decide) ?_
      obtain rfl := e_s h
      exact hret hP hS dX4_advance_143
  · have h := e_f c7 h
    refine lv_aload_n hx hb dX4_advance_58 rfl (lv_at hl 0 rfl) ?_
    refine lv_iconst (v := 0) hx hb dX4_advance_59 (by decide) ?_
    refine va_put (D := D) (ci := 4) (v := .int 0) (ty := .int) (C := RX4) (T := TX4) (N := 7) hx hb hts iX4 tyX4 tyX4_ok nmX4 hown hK hP hD hS 0 rfl rfl 5 (Nat.le_of_ble_eq_true rfl) f28 (fun _ h9 => h9) rfl (tyX4_ok 5 (Nat.le_of_ble_eq_true rfl)) rfl rfl (Nat.le_of_ble_eq_true rfl) dX4_advance_60 (fun H locs hP hD hS => ?_)
    have hP : va_P D vwCl (wX4 cA ad (z6.1, z6.2.1, z6.2.2.1, z6.2.2.2.1, z6.2.2.2.1, 0, z6.2.2.2.2.2.2)) H := hP
    have hD : va_D A (wX4 cA ad (z6.1, z6.2.1, z6.2.2.1, z6.2.2.2.1, z6.2.2.2.1, 0, z6.2.2.2.2.2.2)) := hD
    refine lv_goto (tgt := 143) hx hb dX4_advance_63 (by decide) ?_
    obtain rfl := e_s h
    exact hret hP hS dX4_advance_143
set_option maxHeartbeats 4000000 in
set_option maxRecDepth 100000 in
theorem kX1_readEnd (l : Launch) (D : va_G) (cA : Nat → ClassId) (ad : Nat → Nat) (ao : Nat → Nat) (rdr : RdrT) (rrow : RowT) (tape : TapT)  (q : Int32 × RdrT × TapT) (h : mX1_readEnd rdr tape  = some q) : MI l yX1_readEnd wsX1_readEnd { frames := 3, cells := 0, slots := 0, locals := 64 } D cA .boolean [.ref (ad 0), .ref (ao 0)] (wX1X4 cA ad ao rdr rrow tape) (wX1X4 cA ad ao q.2.1 rrow q.2.2) q.1 := by
  refine MI.of (cc := cX1_readEnd) (maxL := 2) (by decide +kernel) rfl rfl rfl (Nat.le_of_ble_eq_true rfl) ?_
  intro p e s m args below meth c A ls Q hx hb hml hts hown hK hP hD hA hS hl hret
  have hl : lv_has ls 2 [(0, .ref (ad 0)), (1, .ref (ao 0))] := hl
  have f50 := hts (.fieldLink RX1 50 "ModeDesk$Tape" "token" "I") (by decide +kernel)
  have iX4 : ∀ w ∈ wsX40, w ∈ wsX1_readEnd := by decide +kernel
  unfold mX1_readEnd at h
  refine lv_aload_n hx hb dX1_readEnd_0 rfl (lv_at hl 1 rfl) ?_
  refine va_get (D := D) (ci := 4) (v := .int tape.2.2.2.2.2.1) (C := RX4) (T := TX4) (N := 7) hx hb hts iX4 hown hK hP 4 rfl rfl 5 (Nat.le_of_ble_eq_true rfl) f50 (fun _ h9 => h9) rfl dX1_readEnd_1 ?_
  refine lv_iconst (v := 3) hx hb dX1_readEnd_4 (by decide) ?_
  refine lv_icmp_eq (tgt := 15) hx hb dX1_readEnd_5 (by decide) (fun c1 => ?_) (fun c1 => ?_)
  · have h := e_t c1 h
    refine lv_aload_n hx hb dX1_readEnd_15 rfl (lv_at hl 1 rfl) ?_
    obtain ⟨q2, eq2, h⟩ := e_b h
    refine xv_v (As := []) (rest := []) (ci := 4) (b := ao 0) ⟨hx, hb, hml, hown, hts⟩ hl.1 (kX4_advance l D cA ao tape   _ eq2) (cwV 0 hts gX1_readEnd_X4_advance rfl rfl rfl (by decide +kernel) ⟨Nat.le_of_ble_eq_true rfl, Nat.le_of_ble_eq_true rfl⟩) rfl hK hP hD hS hA 4 rfl rfl rfl [4, 5] rfl (by decide +kernel) rfl (Nat.le_of_ble_eq_true rfl) dX1_readEnd_16 ⟨Nat.zero_le _, Nat.zero_le _⟩ (fun H locs hP hD hS => ?_)
    have hP : va_P D vwCl (wX1X4 cA ad ao rdr rrow q2) H := hP
    have hD : va_D A (wX1X4 cA ad ao rdr rrow q2) := hD
    refine lv_iconst (v := 1) hx hb dX1_readEnd_19 (by decide) ?_
    obtain rfl := e_s h
    exact hret hP hS (show narrow .boolean (.int 1) = .int 1 from rfl) dX1_readEnd_20
  · have h := e_f c1 h
    refine lv_aload_n hx hb dX1_readEnd_8 rfl (lv_at hl 0 rfl) ?_
    refine lv_aload_n hx hb dX1_readEnd_9 rfl (lv_at hl 1 rfl) ?_
    refine lv_iconst (v := 1) hx hb dX1_readEnd_10 (by decide) ?_
    obtain ⟨q3, eq3, h⟩ := e_b h
    refine xv_i0 (As := [.ref (ao 0), .int 1]) (rest := []) (ci := 1) (b := ad 0) ⟨hx, hb, hml, hown, hts⟩ hl.1 (kX1_refuse l D cA ad ao rdr rrow tape 1  _ eq3) (cwV 2 hts gX1_readEnd_X1_refuse rfl rfl rfl (by decide +kernel) ⟨Nat.le_of_ble_eq_true rfl, Nat.le_of_ble_eq_true rfl⟩) rfl hK hP hD hS hA 0 rfl rfl rfl rfl (Nat.le_of_ble_eq_true rfl) dX1_readEnd_11 ⟨Nat.zero_le _, Nat.zero_le _⟩ (fun H locs hP hD hS hnq3 => ?_)
    have hP : va_P D vwCl (wX1X4 cA ad ao q3.2 rrow tape) H := hP
    have hD : va_D A (wX1X4 cA ad ao q3.2 rrow tape) := hD
    obtain rfl := e_s h
    exact hret hP hS hnq3 dX1_readEnd_14
set_option maxHeartbeats 4000000 in
set_option maxRecDepth 100000 in
theorem kX1_isNumber (l : Launch) (D : va_G) (cA : Nat → ClassId) (ad : Nat → Nat) (ao : Nat → Nat) (rdr : RdrT) (rrow : RowT) (tape : TapT) (x2 : Int32) (x3 : Int32) (q : Int32 × RdrT) (h : mX1_isNumber rdr tape x2 x3 = some q) : MI l yX1_isNumber wsX1_isNumber { frames := 1, cells := 0, slots := 0, locals := 22 } D cA .boolean [.ref (ad 0), .ref (ao 0), .int x2, .int x3] (wX1X4 cA ad ao rdr rrow tape) (wX1X4 cA ad ao q.2 rrow tape) q.1 := by
  refine MI.of (cc := cX1_isNumber) (maxL := 4) (by decide +kernel) rfl rfl rfl (Nat.le_of_ble_eq_true rfl) ?_
  intro p e s m args below meth c A ls Q hx hb hml hts hown hK hP hD hA hS hl hret
  have hl : lv_has ls 4 [(0, .ref (ad 0)), (1, .ref (ao 0)), (2, .int x2), (3, .int x3)] := hl
  have f50 := hts (.fieldLink RX1 50 "ModeDesk$Tape" "token" "I") (by decide +kernel)
  have f88 := hts (.fieldLink RX1 88 "ModeDesk$Tape" "number" "I") (by decide +kernel)
  have iX4 : ∀ w ∈ wsX40, w ∈ wsX1_isNumber := by decide +kernel
  unfold mX1_isNumber at h
  refine lv_aload_n hx hb dX1_isNumber_0 rfl (lv_at hl 1 rfl) ?_
  refine va_get (D := D) (ci := 4) (v := .int tape.2.2.2.2.2.1) (C := RX4) (T := TX4) (N := 7) hx hb hts iX4 hown hK hP 4 rfl rfl 5 (Nat.le_of_ble_eq_true rfl) f50 (fun _ h9 => h9) rfl dX1_isNumber_1 ?_
  refine lv_iconst (v := 2) hx hb dX1_isNumber_4 (by decide) ?_
  refine lv_icmp_eq (tgt := 15) hx hb dX1_isNumber_5 (by decide) (fun c1 => ?_) (fun c1 => ?_)
  · have h := e_t c1 h
    refine lv_aload_n hx hb dX1_isNumber_15 rfl (lv_at hl 1 rfl) ?_
    refine va_get (D := D) (ci := 4) (v := .int tape.2.2.2.2.2.2) (C := RX4) (T := TX4) (N := 7) hx hb hts iX4 hown hK hP 4 rfl rfl 6 (Nat.le_of_ble_eq_true rfl) f88 (fun _ h9 => h9) rfl dX1_isNumber_16 ?_
    refine lv_iload_n hx hb dX1_isNumber_19 rfl (lv_at hl 2 rfl) ?_
    refine lv_icmp_lt (tgt := 31) hx hb dX1_isNumber_20 (by decide) (fun c2 => ?_) (fun c2 => ?_)
    · have h := e_t c2 h
      refine lv_aload_n hx hb dX1_isNumber_31 rfl (lv_at hl 0 rfl) ?_
      refine lv_aload_n hx hb dX1_isNumber_32 rfl (lv_at hl 1 rfl) ?_
      refine lv_iconst (v := 2) hx hb dX1_isNumber_33 (by decide) ?_
      obtain ⟨q3, eq3, h⟩ := e_b h
      refine xv_i0 (As := [.ref (ao 0), .int 2]) (rest := []) (ci := 1) (b := ad 0) ⟨hx, hb, hml, hown, hts⟩ hl.1 (kX1_refuse l D cA ad ao rdr rrow tape 2  _ eq3) (cwV 2 hts gX1_isNumber_X1_refuse rfl rfl rfl (by decide +kernel) ⟨Nat.le_of_ble_eq_true rfl, Nat.le_of_ble_eq_true rfl⟩) rfl hK hP hD hS hA 0 rfl rfl rfl rfl (Nat.le_of_ble_eq_true rfl) dX1_isNumber_34 ⟨Nat.zero_le _, Nat.zero_le _⟩ (fun H locs hP hD hS hnq3 => ?_)
      have hP : va_P D vwCl (wX1X4 cA ad ao q3.2 rrow tape) H := hP
      have hD : va_D A (wX1X4 cA ad ao q3.2 rrow tape) := hD
      obtain rfl := e_s h
      exact hret hP hS hnq3 dX1_isNumber_37
    · have h := e_f c2 h
      refine lv_aload_n hx hb dX1_isNumber_23 rfl (lv_at hl 1 rfl) ?_
      refine va_get (D := D) (ci := 4) (v := .int tape.2.2.2.2.2.2) (C := RX4) (T := TX4) (N := 7) hx hb hts iX4 hown hK hP 4 rfl rfl 6 (Nat.le_of_ble_eq_true rfl) f88 (fun _ h9 => h9) rfl dX1_isNumber_24 ?_
      refine lv_iload_n hx hb dX1_isNumber_27 rfl (lv_at hl 3 rfl) ?_
      refine lv_icmp_le (tgt := 38) hx hb dX1_isNumber_28 (by decide) (fun c4 => ?_) (fun c4 => ?_)
      · have h := e_t c4 h
        refine lv_iconst (v := 1) hx hb dX1_isNumber_38 (by decide) ?_
        obtain rfl := e_s h
        exact hret hP hS (show narrow .boolean (.int 1) = .int 1 from rfl) dX1_isNumber_39
      · have h := e_f c4 h
        refine lv_aload_n hx hb dX1_isNumber_31 rfl (lv_at hl 0 rfl) ?_
        refine lv_aload_n hx hb dX1_isNumber_32 rfl (lv_at hl 1 rfl) ?_
        refine lv_iconst (v := 2) hx hb dX1_isNumber_33 (by decide) ?_
        obtain ⟨q5, eq5, h⟩ := e_b h
        refine xv_i0 (As := [.ref (ao 0), .int 2]) (rest := []) (ci := 1) (b := ad 0) ⟨hx, hb, hml, hown, hts⟩ hl.1 (kX1_refuse l D cA ad ao rdr rrow tape 2  _ eq5) (cwV 2 hts gX1_isNumber_X1_refuse rfl rfl rfl (by decide +kernel) ⟨Nat.le_of_ble_eq_true rfl, Nat.le_of_ble_eq_true rfl⟩) rfl hK hP hD hS hA 0 rfl rfl rfl rfl (Nat.le_of_ble_eq_true rfl) dX1_isNumber_34 ⟨Nat.zero_le _, Nat.zero_le _⟩ (fun H locs hP hD hS hnq5 => ?_)
        have hP : va_P D vwCl (wX1X4 cA ad ao q5.2 rrow tape) H := hP
        have hD : va_D A (wX1X4 cA ad ao q5.2 rrow tape) := hD
        obtain rfl := e_s h
        exact hret hP hS hnq5 dX1_isNumber_37
  · have h := e_f c1 h
    refine lv_aload_n hx hb dX1_isNumber_8 rfl (lv_at hl 0 rfl) ?_
    refine lv_aload_n hx hb dX1_isNumber_9 rfl (lv_at hl 1 rfl) ?_
    refine lv_iconst (v := 1) hx hb dX1_isNumber_10 (by decide) ?_
    obtain ⟨q6, eq6, h⟩ := e_b h
    refine xv_i0 (As := [.ref (ao 0), .int 1]) (rest := []) (ci := 1) (b := ad 0) ⟨hx, hb, hml, hown, hts⟩ hl.1 (kX1_refuse l D cA ad ao rdr rrow tape 1  _ eq6) (cwV 2 hts gX1_isNumber_X1_refuse rfl rfl rfl (by decide +kernel) ⟨Nat.le_of_ble_eq_true rfl, Nat.le_of_ble_eq_true rfl⟩) rfl hK hP hD hS hA 0 rfl rfl rfl rfl (Nat.le_of_ble_eq_true rfl) dX1_isNumber_11 ⟨Nat.zero_le _, Nat.zero_le _⟩ (fun H locs hP hD hS hnq6 => ?_)
    have hP : va_P D vwCl (wX1X4 cA ad ao q6.2 rrow tape) H := hP
    have hD : va_D A (wX1X4 cA ad ao q6.2 rrow tape) := hD
    obtain rfl := e_s h
    exact hret hP hS hnq6 dX1_isNumber_14
set_option maxHeartbeats 4000000 in
set_option maxRecDepth 100000 in
theorem kX1_readBlock (l : Launch) (D : va_G) (cA : Nat → ClassId) (ad : Nat → Nat) (ao : Nat → Nat) (rdr : RdrT) (rrow : RowT) (tape : TapT)  (q : Int32 × RdrT × TapT) (h : mX1_readBlock rdr tape  = some q) : MI l yX1_readBlock wsX1_readBlock { frames := 3, cells := 0, slots := 0, locals := 64 } D cA .boolean [.ref (ad 0), .ref (ao 0)] (wX1X4 cA ad ao rdr rrow tape) (wX1X4 cA ad ao q.2.1 rrow q.2.2) q.1 := by
  refine MI.of (cc := cX1_readBlock) (maxL := 2) (by decide +kernel) rfl rfl rfl (Nat.le_of_ble_eq_true rfl) ?_
  intro p e s m args below meth c A ls Q hx hb hml hts hown hK hP hD hA hS hl hret
  have hl : lv_has ls 2 [(0, .ref (ad 0)), (1, .ref (ao 0))] := hl
  have f18 := hts (.fieldLink RX1 18 "ModeDesk$Reader" "block" "I") (by decide +kernel)
  have f34 := hts (.fieldLink RX1 34 "ModeDesk$Reader" "blockTold" "Z") (by decide +kernel)
  have f88 := hts (.fieldLink RX1 88 "ModeDesk$Tape" "number" "I") (by decide +kernel)
  have iX1 : ∀ w ∈ wsX10, w ∈ wsX1_readBlock := by decide +kernel
  have iX4 : ∀ w ∈ wsX40, w ∈ wsX1_readBlock := by decide +kernel
  unfold mX1_readBlock at h
  refine lv_aload_n hx hb dX1_readBlock_0 rfl (lv_at hl 0 rfl) ?_
  refine va_get (D := D) (ci := 1) (v := .int rdr.2.2.2.2.2.1) (C := RX1) (T := TX1) (N := 8) hx hb hts iX1 hown hK hP 0 rfl rfl 6 (Nat.le_of_ble_eq_true rfl) f34 (fun _ h9 => h9) rfl dX1_readBlock_1 ?_
  refine lv_if_eq (tgt := 14) hx hb dX1_readBlock_4 (by decide) (fun c1 => ?_) (fun c1 => ?_)
  · have h := e_t c1 h
    refine lv_aload_n hx hb dX1_readBlock_14 rfl (lv_at hl 0 rfl) ?_
    refine lv_iconst (v := 1) hx hb dX1_readBlock_15 (by decide) ?_
    refine va_put (D := D) (ci := 1) (v := .int 1) (ty := .boolean) (C := RX1) (T := TX1) (N := 8) hx hb hts iX1 tyX1 tyX1_ok nmX1 hown hK hP hD hS 0 rfl rfl 6 (Nat.le_of_ble_eq_true rfl) f34 (fun _ h9 => h9) rfl (tyX1_ok 6 (Nat.le_of_ble_eq_true rfl)) rfl rfl (Nat.le_of_ble_eq_true rfl) dX1_readBlock_16 (fun H locs hP hD hS => ?_)
    have hP : va_P D vwCl (wX1X4 cA ad ao (rdr.1, rdr.2.1, rdr.2.2.1, rdr.2.2.2.1, rdr.2.2.2.2.1, 1, rdr.2.2.2.2.2.2) rrow tape) H := hP
    have hD : va_D A (wX1X4 cA ad ao (rdr.1, rdr.2.1, rdr.2.2.1, rdr.2.2.2.1, rdr.2.2.2.2.1, 1, rdr.2.2.2.2.2.2) rrow tape) := hD
    refine lv_aload_n hx hb dX1_readBlock_19 rfl (lv_at hl 1 rfl) ?_
    obtain ⟨q2, eq2, h⟩ := e_b h
    refine xv_v (As := []) (rest := []) (ci := 4) (b := ao 0) ⟨hx, hb, hml, hown, hts⟩ hl.1 (kX4_advance l D cA ao tape   _ eq2) (cwV 0 hts gX1_readBlock_X4_advance rfl rfl rfl (by decide +kernel) ⟨Nat.le_of_ble_eq_true rfl, Nat.le_of_ble_eq_true rfl⟩) rfl hK hP hD hS hA 4 rfl rfl rfl [4, 5] rfl (by decide +kernel) rfl (Nat.le_of_ble_eq_true rfl) dX1_readBlock_20 ⟨Nat.zero_le _, Nat.zero_le _⟩ (fun H locs hP hD hS => ?_)
    have hP : va_P D vwCl (wX1X4 cA ad ao (rdr.1, rdr.2.1, rdr.2.2.1, rdr.2.2.2.1, rdr.2.2.2.2.1, 1, rdr.2.2.2.2.2.2) rrow q2) H := hP
    have hD : va_D A (wX1X4 cA ad ao (rdr.1, rdr.2.1, rdr.2.2.1, rdr.2.2.2.1, rdr.2.2.2.2.1, 1, rdr.2.2.2.2.2.2) rrow q2) := hD
    refine lv_aload_n hx hb dX1_readBlock_23 rfl (lv_at hl 0 rfl) ?_
    refine lv_aload_n hx hb dX1_readBlock_24 rfl (lv_at hl 1 rfl) ?_
    refine lv_iconst (v := 2) hx hb dX1_readBlock_25 (by decide) ?_
    refine lv_bipush (v := 20) hx hb dX1_readBlock_26 (by decide) ?_
    obtain ⟨q3, eq3, h⟩ := e_b h
    refine xv_i0 (As := [.ref (ao 0), .int 2, .int 20]) (rest := []) (ci := 1) (b := ad 0) ⟨hx, hb, hml, hown, hts⟩ hl.1 (kX1_isNumber l D cA ad ao (rdr.1, rdr.2.1, rdr.2.2.1, rdr.2.2.2.1, rdr.2.2.2.2.1, 1, rdr.2.2.2.2.2.2) rrow q2 2 20  _ eq3) (cwV 3 hts gX1_readBlock_X1_isNumber rfl rfl rfl (by decide +kernel) ⟨Nat.le_of_ble_eq_true rfl, Nat.le_of_ble_eq_true rfl⟩) rfl hK hP hD hS hA 0 rfl rfl rfl rfl (Nat.le_of_ble_eq_true rfl) dX1_readBlock_28 ⟨Nat.zero_le _, Nat.zero_le _⟩ (fun H locs hP hD hS hnq3 => ?_)
    have hP : va_P D vwCl (wX1X4 cA ad ao q3.2 rrow q2) H := hP
    have hD : va_D A (wX1X4 cA ad ao q3.2 rrow q2) := hD
    refine lv_if_ne (tgt := 36) hx hb dX1_readBlock_31 (by decide) (fun c4 => ?_) (fun c4 => ?_)
    · have h := e_t c4 h
      refine lv_aload_n hx hb dX1_readBlock_36 rfl (lv_at hl 0 rfl) ?_
      refine lv_aload_n hx hb dX1_readBlock_37 rfl (lv_at hl 1 rfl) ?_
      refine va_get (D := D) (ci := 4) (v := .int q2.2.2.2.2.2.2) (C := RX4) (T := TX4) (N := 7) hx hb hts iX4 hown hK hP 4 rfl rfl 6 (Nat.le_of_ble_eq_true rfl) f88 (fun _ h9 => h9) rfl dX1_readBlock_38 ?_
      refine va_put (D := D) (ci := 1) (v := .int q2.2.2.2.2.2.2) (ty := .int) (C := RX1) (T := TX1) (N := 8) hx hb hts iX1 tyX1 tyX1_ok nmX1 hown hK hP hD hS 0 rfl rfl 1 (Nat.le_of_ble_eq_true rfl) f18 (fun _ h9 => h9) rfl (tyX1_ok 1 (Nat.le_of_ble_eq_true rfl)) rfl rfl (Nat.le_of_ble_eq_true rfl) dX1_readBlock_41 (fun H locs hP hD hS => ?_)
      have hP : va_P D vwCl (wX1X4 cA ad ao (q2.2.2.2.2.2.2, q3.2.2.1, q3.2.2.2.1, q3.2.2.2.2.1, q3.2.2.2.2.2.1, q3.2.2.2.2.2.2.1, q3.2.2.2.2.2.2.2) rrow q2) H := hP
      have hD : va_D A (wX1X4 cA ad ao (q2.2.2.2.2.2.2, q3.2.2.1, q3.2.2.2.1, q3.2.2.2.2.1, q3.2.2.2.2.2.1, q3.2.2.2.2.2.2.1, q3.2.2.2.2.2.2.2) rrow q2) := hD
      refine lv_aload_n hx hb dX1_readBlock_44 rfl (lv_at hl 1 rfl) ?_
      obtain ⟨q5, eq5, h⟩ := e_b h
      refine xv_v (As := []) (rest := []) (ci := 4) (b := ao 0) ⟨hx, hb, hml, hown, hts⟩ hl.1 (kX4_advance l D cA ao q2   _ eq5) (cwV 0 hts gX1_readBlock_X4_advance rfl rfl rfl (by decide +kernel) ⟨Nat.le_of_ble_eq_true rfl, Nat.le_of_ble_eq_true rfl⟩) rfl hK hP hD hS hA 4 rfl rfl rfl [4, 5] rfl (by decide +kernel) rfl (Nat.le_of_ble_eq_true rfl) dX1_readBlock_45 ⟨Nat.zero_le _, Nat.zero_le _⟩ (fun H locs hP hD hS => ?_)
      have hP : va_P D vwCl (wX1X4 cA ad ao (q2.2.2.2.2.2.2, q3.2.2.1, q3.2.2.2.1, q3.2.2.2.2.1, q3.2.2.2.2.2.1, q3.2.2.2.2.2.2.1, q3.2.2.2.2.2.2.2) rrow q5) H := hP
      have hD : va_D A (wX1X4 cA ad ao (q2.2.2.2.2.2.2, q3.2.2.1, q3.2.2.2.1, q3.2.2.2.2.1, q3.2.2.2.2.2.1, q3.2.2.2.2.2.2.1, q3.2.2.2.2.2.2.2) rrow q5) := hD
      refine lv_iconst (v := 1) hx hb dX1_readBlock_48 (by decide) ?_
      obtain rfl := e_s h
      exact hret hP hS (show narrow .boolean (.int 1) = .int 1 from rfl) dX1_readBlock_49
    · have h := e_f (not_not_intro c4) h
      refine lv_iconst (v := 0) hx hb dX1_readBlock_34 (by decide) ?_
      obtain rfl := e_s h
      exact hret hP hS (show narrow .boolean (.int 0) = .int 0 from rfl) dX1_readBlock_35
  · have h := e_f c1 h
    refine lv_aload_n hx hb dX1_readBlock_7 rfl (lv_at hl 0 rfl) ?_
    refine lv_aload_n hx hb dX1_readBlock_8 rfl (lv_at hl 1 rfl) ?_
    refine lv_iconst (v := 3) hx hb dX1_readBlock_9 (by decide) ?_
    obtain ⟨q6, eq6, h⟩ := e_b h
    refine xv_i0 (As := [.ref (ao 0), .int 3]) (rest := []) (ci := 1) (b := ad 0) ⟨hx, hb, hml, hown, hts⟩ hl.1 (kX1_refuse l D cA ad ao rdr rrow tape 3  _ eq6) (cwV 2 hts gX1_readBlock_X1_refuse rfl rfl rfl (by decide +kernel) ⟨Nat.le_of_ble_eq_true rfl, Nat.le_of_ble_eq_true rfl⟩) rfl hK hP hD hS hA 0 rfl rfl rfl rfl (Nat.le_of_ble_eq_true rfl) dX1_readBlock_10 ⟨Nat.zero_le _, Nat.zero_le _⟩ (fun H locs hP hD hS hnq6 => ?_)
    have hP : va_P D vwCl (wX1X4 cA ad ao q6.2 rrow tape) H := hP
    have hD : va_D A (wX1X4 cA ad ao q6.2 rrow tape) := hD
    obtain rfl := e_s h
    exact hret hP hS hnq6 dX1_readBlock_13
set_option maxHeartbeats 4000000 in
set_option maxRecDepth 100000 in
theorem kX2_open (l : Launch) (D : va_G) (cA : Nat → ClassId) (ad : Nat → Nat) (t : RowT) (x1 : Int32) (x2 : Int32) (q : RowT) (h : mX2_open t x1 x2 = some q) : MV l yX2_open wsX2_open { frames := 0, cells := 0, slots := 0, locals := 0 } D cA [.ref (ad 0), .int x1, .int x2] (wX2 cA ad t) (wX2 cA ad q) := by
  refine MV.of (cc := cX2_open) (maxL := 4) (by decide) rfl rfl rfl (Nat.le_of_ble_eq_true rfl) ?_
  intro p e s m args below meth c A ls Q hx hb hml hts hown hK hP hD hA hS hl hret
  have hl : lv_has ls 4 [(0, .ref (ad 0)), (1, .int x1), (2, .int x2)] := hl
  have f15 := hts (.fieldLink RX2 15 "ModeDesk$Row" "weights" "[I") (by decide +kernel)
  have f18 := hts (.fieldLink RX2 18 "ModeDesk$Row" "size" "I") (by decide +kernel)
  have f9 := hts (.fieldLink RX2 9 "ModeDesk$Row" "values" "[I") (by decide +kernel)
  have iX2 : ∀ w ∈ wsX20, w ∈ wsX2_open := by decide +kernel
  unfold mX2_open at h
  refine lv_aload_n hx hb dX2_open_0 rfl (lv_at hl 0 rfl) ?_
  refine va_get (D := D) (ci := 2) (v := .int t.2.2) (C := RX2) (T := TX2) (N := 3) hx hb hts iX2 hown hK hP 0 rfl rfl 2 (Nat.le_of_ble_eq_true rfl) f18 (fun _ h9 => h9) rfl dX2_open_1 ?_
  refine lv_istore_n (lv' := [(3, .int t.2.2), (0, .ref (ad 0)), (1, .int x1), (2, .int x2)]) hx hb dX2_open_4 rfl hl (by decide) rfl (fun ls hl => ?_)
  have hL5 : ∀ (n : Nat) (x1 : Int32) (x2 : Int32) (x3 : Int32) (t : RowT) (z1 : RowT) (ls : Array Slot) (H : Heap) (locs : List Loc), lv_has ls 4 [(0, .ref (ad 0)), (1, .int x1), (2, .int x2), (3, .int x3)] → va_P D vwCl (wX2 cA ad t) H → va_D A (wX2 cA ad t) → va_S A s.heap H locs → mX2_open_L5 x1 n x3 t = some z1 → (∀ (ls : Array Slot) (H : Heap) (locs : List Loc), lv_has ls 4 [(0, .ref (ad 0)), (1, .int x1), (2, .int x2)] → va_P D vwCl (wX2 cA ad z1) H → va_D A (wX2 cA ad z1) → va_S A s.heap H locs → W p l e (headSpec wsX2_open { frames := 0, cells := 0, slots := 0, locals := 0 }).room s m args below meth c H locs 0 0 Q (F0 m 44 ls [])) → W p l e (headSpec wsX2_open { frames := 0, cells := 0, slots := 0, locals := 0 }).room s m args below meth c H locs 0 0 Q (F0 m 5 ls []) := by
    intro n
    induction n with
    | zero => intro x1 x2 x3 t z1 ls H locs hl hP hD hS h hk5; exact e_n h
    | succ n ih5 =>
      intro x1 x2 x3 t z1 ls H locs hl hP hD hS h hk5
      rw [mX2_open_L5.eq_2] at h
      refine lv_iload_n hx hb dX2_open_5 rfl (lv_at hl 3 rfl) ?_
      refine lv_iload_n hx hb dX2_open_6 rfl (lv_at hl 1 rfl) ?_
      refine lv_icmp_le (tgt := 44) hx hb dX2_open_7 (by decide) (fun c2 => ?_) (fun c2 => ?_)
      · have h := e_t c2 h
        obtain rfl := e_s h
        exact hk5 _ _ _ (lv_sub hl [0, 1, 2] rfl) hP hD hS
      · have h := e_f c2 h
        refine lv_aload_n hx hb dX2_open_10 rfl (lv_at hl 0 rfl) ?_
        refine va_get (D := D) (ci := 2) (v := .ref (ad 1)) (C := RX2) (T := TX2) (N := 3) hx hb hts iX2 hown hK hP 0 rfl rfl 0 (Nat.le_of_ble_eq_true rfl) f9 (fun _ h9 => h9) rfl dX2_open_11 ?_
        refine lv_iload_n hx hb dX2_open_14 rfl (lv_at hl 3 rfl) ?_
        refine lv_aload_n hx hb dX2_open_15 rfl (lv_at hl 0 rfl) ?_
        refine va_get (D := D) (ci := 2) (v := .ref (ad 1)) (C := RX2) (T := TX2) (N := 3) hx hb hts iX2 hown hK hP 0 rfl rfl 0 (Nat.le_of_ble_eq_true rfl) f9 (fun _ h9 => h9) rfl dX2_open_16 ?_
        refine lv_iload_n hx hb dX2_open_19 rfl (lv_at hl 3 rfl) ?_
        refine lv_iconst (v := 1) hx hb dX2_open_20 (by decide) ?_
        refine lv_isub hx hb dX2_open_21 ?_
        obtain ⟨v3, ev3, nv3, h⟩ := e_rd h
        refine xa_iald hx hb hK hP 1 rfl nv3 ev3 dX2_open_22 ?_
        obtain ⟨a4, ea4, na4, h⟩ := e_wr h
        refine xa_iast hx hb hK hP hD hS 1 rfl na4 ea4 dX2_open_23 (fun H locs hP hD hS => ?_)
        have hP : va_P D vwCl (wX2 cA ad (a4, t.2.1, t.2.2)) H := hP
        have hD : va_D A (wX2 cA ad (a4, t.2.1, t.2.2)) := hD
        refine lv_aload_n hx hb dX2_open_24 rfl (lv_at hl 0 rfl) ?_
        refine va_get (D := D) (ci := 2) (v := .ref (ad 2)) (C := RX2) (T := TX2) (N := 3) hx hb hts iX2 hown hK hP 0 rfl rfl 1 (Nat.le_of_ble_eq_true rfl) f15 (fun _ h9 => h9) rfl dX2_open_25 ?_
        refine lv_iload_n hx hb dX2_open_28 rfl (lv_at hl 3 rfl) ?_
        refine lv_aload_n hx hb dX2_open_29 rfl (lv_at hl 0 rfl) ?_
        refine va_get (D := D) (ci := 2) (v := .ref (ad 2)) (C := RX2) (T := TX2) (N := 3) hx hb hts iX2 hown hK hP 0 rfl rfl 1 (Nat.le_of_ble_eq_true rfl) f15 (fun _ h9 => h9) rfl dX2_open_30 ?_
        refine lv_iload_n hx hb dX2_open_33 rfl (lv_at hl 3 rfl) ?_
        refine lv_iconst (v := 1) hx hb dX2_open_34 (by decide) ?_
        refine lv_isub hx hb dX2_open_35 ?_
        obtain ⟨v5, ev5, nv5, h⟩ := e_rd h
        refine xa_iald hx hb hK hP 2 rfl nv5 ev5 dX2_open_36 ?_
        obtain ⟨a6, ea6, na6, h⟩ := e_wr h
        refine xa_iast hx hb hK hP hD hS 2 rfl na6 ea6 dX2_open_37 (fun H locs hP hD hS => ?_)
        have hP : va_P D vwCl (wX2 cA ad (a4, a6, t.2.2)) H := hP
        have hD : va_D A (wX2 cA ad (a4, a6, t.2.2)) := hD
        refine lv_iinc (v := (x3 + (-1))) (lv' := [(3, .int (x3 + (-1))), (0, .ref (ad 0)), (1, .int x1), (2, .int x2)]) hx hb dX2_open_38 hl (k := 3) rfl rfl (by decide) rfl (fun ls hl => ?_)
        refine lv_goto (tgt := 5) hx hb dX2_open_41 (by decide) ?_
        exact ih5 x1 x2 (x3 + (-1)) (a4, a6, t.2.2) z1 _ _ _ (lv_sub hl [1, 2, 3, 0] rfl) hP hD hS h hk5
  obtain ⟨z7, ez7, h⟩ := e_b h
  refine hL5 FU x1 x2 t.2.2 t z7 _ _ _ (lv_sub hl [1, 2, 3, 0] rfl) hP hD hS ez7 (fun ls H locs hl hP hD hS => ?_)
  refine lv_aload_n hx hb dX2_open_44 rfl (lv_at hl 0 rfl) ?_
  refine va_get (D := D) (ci := 2) (v := .ref (ad 1)) (C := RX2) (T := TX2) (N := 3) hx hb hts iX2 hown hK hP 0 rfl rfl 0 (Nat.le_of_ble_eq_true rfl) f9 (fun _ h9 => h9) rfl dX2_open_45 ?_
  refine lv_iload_n hx hb dX2_open_48 rfl (lv_at hl 1 rfl) ?_
  refine lv_iload_n hx hb dX2_open_49 rfl (lv_at hl 2 rfl) ?_
  obtain ⟨a8, ea8, na8, h⟩ := e_wr h
  refine xa_iast hx hb hK hP hD hS 1 rfl na8 ea8 dX2_open_50 (fun H locs hP hD hS => ?_)
  have hP : va_P D vwCl (wX2 cA ad (a8, z7.2.1, z7.2.2)) H := hP
  have hD : va_D A (wX2 cA ad (a8, z7.2.1, z7.2.2)) := hD
  refine lv_aload_n hx hb dX2_open_51 rfl (lv_at hl 0 rfl) ?_
  refine va_get (D := D) (ci := 2) (v := .ref (ad 2)) (C := RX2) (T := TX2) (N := 3) hx hb hts iX2 hown hK hP 0 rfl rfl 1 (Nat.le_of_ble_eq_true rfl) f15 (fun _ h9 => h9) rfl dX2_open_52 ?_
  refine lv_iload_n hx hb dX2_open_55 rfl (lv_at hl 1 rfl) ?_
  refine lv_iconst (v := 1) hx hb dX2_open_56 (by decide) ?_
  obtain ⟨a9, ea9, na9, h⟩ := e_wr h
  refine xa_iast hx hb hK hP hD hS 2 rfl na9 ea9 dX2_open_57 (fun H locs hP hD hS => ?_)
  have hP : va_P D vwCl (wX2 cA ad (a8, a9, z7.2.2)) H := hP
  have hD : va_D A (wX2 cA ad (a8, a9, z7.2.2)) := hD
  refine lv_aload_n hx hb dX2_open_58 rfl (lv_at hl 0 rfl) ?_
  refine lv_dup hx hb dX2_open_59 rfl ?_
  refine va_get (D := D) (ci := 2) (v := .int z7.2.2) (C := RX2) (T := TX2) (N := 3) hx hb hts iX2 hown hK hP 0 rfl rfl 2 (Nat.le_of_ble_eq_true rfl) f18 (fun _ h9 => h9) rfl dX2_open_60 ?_
  refine lv_iconst (v := 1) hx hb dX2_open_63 (by decide) ?_
  refine lv_iadd hx hb dX2_open_64 ?_
  refine va_put (D := D) (ci := 2) (v := .int (z7.2.2 + 1)) (ty := .int) (C := RX2) (T := TX2) (N := 3) hx hb hts iX2 tyX2 tyX2_ok nmX2 hown hK hP hD hS 0 rfl rfl 2 (Nat.le_of_ble_eq_true rfl) f18 (fun _ h9 => h9) rfl (tyX2_ok 2 (Nat.le_of_ble_eq_true rfl)) rfl rfl (Nat.le_of_ble_eq_true rfl) dX2_open_65 (fun H locs hP hD hS => ?_)
  have hP : va_P D vwCl (wX2 cA ad (a8, a9, (z7.2.2 + 1))) H := hP
  have hD : va_D A (wX2 cA ad (a8, a9, (z7.2.2 + 1))) := hD
  obtain rfl := e_s h
  exact hret hP hS dX2_open_68
set_option maxHeartbeats 4000000 in
set_option maxRecDepth 100000 in
theorem kX1_readRow (l : Launch) (D : va_G) (cA : Nat → ClassId) (adK adV : Nat → Nat) (ad : Nat → Nat) (ao : Nat → Nat) (rdr : RdrT) (rrow : RowT) (tape : TapT)  (q : Int32 × RdrT × RowT × TapT) (h : mX1_readRow rdr rrow tape  = some q) : MIe l yX1_readRow wsX1_readRow { frames := 3, cells := 0, slots := 0, locals := 64 } D cA adK adV .boolean [.ref (ad 0), .ref (ao 0)] (wX1X4 cA ad ao rdr rrow tape) (wX1X4 cA ad ao q.2.1 q.2.2.1 q.2.2.2) q.1 := by
  refine MIe.of (cc := cX1_readRow) (maxL := 3) (by decide +kernel) rfl rfl rfl (Nat.le_of_ble_eq_true rfl) ?_
  intro p e s m args below meth c A ls Q hx hb hml hts hown hK hP hD hA hS hE hR hl hret
  have hl : lv_has ls 3 [(0, .ref (ad 0)), (1, .ref (ao 0))] := hl
  have f12 := hts (.fieldLink RX1 12 "ModeDesk$Reader" "row" "LModeDesk$Row;") (by decide +kernel)
  have f41 := hts (.fieldLink RX1 41 "ModeDesk$Row" "size" "I") (by decide +kernel)
  have f50 := hts (.fieldLink RX1 50 "ModeDesk$Tape" "token" "I") (by decide +kernel)
  have f88 := hts (.fieldLink RX1 88 "ModeDesk$Tape" "number" "I") (by decide +kernel)
  have iX1 : ∀ w ∈ wsX10, w ∈ wsX1_readRow := by decide +kernel
  have iX2 : ∀ w ∈ wsX20, w ∈ wsX1_readRow := by decide +kernel
  have iX4 : ∀ w ∈ wsX40, w ∈ wsX1_readRow := by decide +kernel
  unfold mX1_readRow at h
  refine lv_aload_n hx hb dX1_readRow_0 rfl (lv_at hl 1 rfl) ?_
  obtain ⟨q1, eq1, h⟩ := e_b h
  refine xv_v (As := []) (rest := []) (ci := 4) (b := ao 0) ⟨hx, hb, hml, hown, hts⟩ hl.1 (kX4_advance l D cA ao tape   _ eq1) (cwV 0 hts gX1_readRow_X4_advance rfl rfl rfl (by decide +kernel) ⟨Nat.le_of_ble_eq_true rfl, Nat.le_of_ble_eq_true rfl⟩) rfl hK hP hD hS hA 4 rfl rfl rfl [4, 5] rfl (by decide +kernel) rfl (Nat.le_of_ble_eq_true rfl) dX1_readRow_1 ⟨Nat.zero_le _, Nat.zero_le _⟩ (fun H locs hP hD hS => ?_)
  have hP : va_P D vwCl (wX1X4 cA ad ao rdr rrow q1) H := hP
  have hD : va_D A (wX1X4 cA ad ao rdr rrow q1) := hD
  refine lv_aload_n hx hb dX1_readRow_4 rfl (lv_at hl 1 rfl) ?_
  refine va_get (D := D) (ci := 4) (v := .int q1.2.2.2.2.2.1) (C := RX4) (T := TX4) (N := 7) hx hb hts iX4 hown hK hP 4 rfl rfl 5 (Nat.le_of_ble_eq_true rfl) f50 (fun _ h9 => h9) rfl dX1_readRow_5 ?_
  refine lv_iconst (v := 2) hx hb dX1_readRow_8 (by decide) ?_
  refine lv_icmp_eq (tgt := 19) hx hb dX1_readRow_9 (by decide) (fun c2 => ?_) (fun c2 => ?_)
  · have h := e_t c2 h
    refine lv_iconst (v := 0) hx hb dX1_readRow_19 (by decide) ?_
    refine lv_istore_n (lv' := [(2, .int 0), (0, .ref (ad 0)), (1, .ref (ao 0))]) hx hb dX1_readRow_20 rfl hl (by decide) rfl (fun ls hl => ?_)
    have hL21 : ∀ (n : Nat) (x2 : Int32) (rdr : RdrT) (rrow : RowT) (tape : TapT) (ls : Array Slot) (H : Heap) (locs : List Loc), lv_has ls 3 [(0, .ref (ad 0)), (1, .ref (ao 0)), (2, .int x2)] → va_P D vwCl (wX1X4 cA ad ao rdr rrow tape) H → va_D A (wX1X4 cA ad ao rdr rrow tape) → va_S A s.heap H locs → mX1_readRow_L21  n x2 rdr rrow tape = some q → W p l e (headSpec wsX1_readRow { frames := 3, cells := 0, slots := 0, locals := 64 }).room s m args below meth c H locs 0 0 Q (F0 m 21 ls []) := by
      intro n
      induction n with
      | zero => intro x2 rdr rrow tape ls H locs hl hP hD hS h; exact e_n h
      | succ n ih21 =>
        intro x2 rdr rrow tape ls H locs hl hP hD hS h
        rw [mX1_readRow_L21.eq_2] at h
        refine lv_iload_n hx hb dX1_readRow_21 rfl (lv_at hl 2 rfl) ?_
        refine lv_bipush (v := 120) hx hb dX1_readRow_22 (by decide) ?_
        refine lv_icmp_gt (tgt := 92) hx hb dX1_readRow_24 (by decide) (fun c4 => ?_) (fun c4 => ?_)
        · have h := e_t c4 h
          refine lv_iconst (v := 1) hx hb dX1_readRow_92 (by decide) ?_
          obtain rfl := e_s h
          exact hret hP hS (show narrow .boolean (.int 1) = .int 1 from rfl) dX1_readRow_93
        · have h := e_f c4 h
          refine lv_aload_n hx hb dX1_readRow_27 rfl (lv_at hl 1 rfl) ?_
          refine va_get (D := D) (ci := 4) (v := .int tape.2.2.2.2.2.1) (C := RX4) (T := TX4) (N := 7) hx hb hts iX4 hown hK hP 4 rfl rfl 5 (Nat.le_of_ble_eq_true rfl) f50 (fun _ h9 => h9) rfl dX1_readRow_28 ?_
          refine lv_iconst (v := 2) hx hb dX1_readRow_31 (by decide) ?_
          refine lv_icmp_ne (tgt := 92) hx hb dX1_readRow_32 (by decide) (fun c5 => ?_) (fun c5 => ?_)
          · have h := e_t c5 h
            refine lv_iconst (v := 1) hx hb dX1_readRow_92 (by decide) ?_
            obtain rfl := e_s h
            exact hret hP hS (show narrow .boolean (.int 1) = .int 1 from rfl) dX1_readRow_93
          · have h := e_f (not_not_intro c5) h
            refine lv_aload_n hx hb dX1_readRow_35 rfl (lv_at hl 1 rfl) ?_
            refine va_get (D := D) (ci := 4) (v := .int tape.2.2.2.2.2.2) (C := RX4) (T := TX4) (N := 7) hx hb hts iX4 hown hK hP 4 rfl rfl 6 (Nat.le_of_ble_eq_true rfl) f88 (fun _ h9 => h9) rfl dX1_readRow_36 ?_
            obtain ⟨q6, eq6, h⟩ := e_b h
            refine xs_in (As := [.int tape.2.2.2.2.2.2]) (rest := []) ⟨hx, hb, hml, hown, hts⟩ hl.1 (kX5_isValue l D cA   tape.2.2.2.2.2.2  _ eq6) ⟨va_cnB (host := "ModeDesk") 1 hts gX1_readRow_X5_isValue_n91 rfl rfl rfl hR.2.2.2.2.2.2.2.2.1 (hts (.initialized RX5) (by decide +kernel)) (by decide +kernel) ⟨Nat.le_of_ble_eq_true rfl, Nat.le_of_ble_eq_true rfl⟩, hts (.static yX5_isValue) (by decide +kernel), trivial⟩ rfl hK hP hD hS hA [] rfl (by decide +kernel) rfl (Nat.le_of_ble_eq_true rfl) dX1_readRow_39 ⟨Nat.zero_le _, Nat.zero_le _⟩ (fun H locs hP hD hS hnq6 => ?_)
            have hP : va_P D vwCl (wX1X4 cA ad ao rdr rrow tape) H := hP
            have hD : va_D A (wX1X4 cA ad ao rdr rrow tape) := hD
            refine lv_if_eq (tgt := 57) hx hb dX1_readRow_42 (by decide) (fun c7 => ?_) (fun c7 => ?_)
            · have h := e_t c7 h
              refine lv_aload_n hx hb dX1_readRow_57 rfl (lv_at hl 0 rfl) ?_
              refine lv_aload_n hx hb dX1_readRow_58 rfl (lv_at hl 1 rfl) ?_
              refine lv_iconst (v := 2) hx hb dX1_readRow_59 (by decide) ?_
              obtain ⟨q8, eq8, h⟩ := e_b h
              refine xv_i0 (As := [.ref (ao 0), .int 2]) (rest := []) (ci := 1) (b := ad 0) ⟨hx, hb, hml, hown, hts⟩ hl.1 (kX1_refuse l D cA ad ao rdr rrow tape 2  _ eq8) (cwV 2 hts gX1_readRow_X1_refuse rfl rfl rfl (by decide +kernel) ⟨Nat.le_of_ble_eq_true rfl, Nat.le_of_ble_eq_true rfl⟩) rfl hK hP hD hS hA 0 rfl rfl rfl rfl (Nat.le_of_ble_eq_true rfl) dX1_readRow_60 ⟨Nat.zero_le _, Nat.zero_le _⟩ (fun H locs hP hD hS hnq8 => ?_)
              have hP : va_P D vwCl (wX1X4 cA ad ao q8.2 rrow tape) H := hP
              have hD : va_D A (wX1X4 cA ad ao q8.2 rrow tape) := hD
              obtain rfl := e_s h
              exact hret hP hS hnq8 dX1_readRow_63
            · have h := e_f c7 h
              refine lv_aload_n hx hb dX1_readRow_45 rfl (lv_at hl 0 rfl) ?_
              refine va_get (D := D) (ci := 1) (v := .ref (ad 1)) (C := RX1) (T := TX1) (N := 8) hx hb hts iX1 hown hK hP 0 rfl rfl 0 (Nat.le_of_ble_eq_true rfl) f12 (fun _ h9 => h9) rfl dX1_readRow_46 ?_
              refine va_get (D := D) (ci := 2) (v := .int rrow.2.2) (C := RX2) (T := TX2) (N := 3) hx hb hts iX2 hown hK hP 1 rfl rfl 2 (Nat.le_of_ble_eq_true rfl) f41 (fun _ h9 => h9) rfl dX1_readRow_49 ?_
              refine lv_bipush (v := 120) hx hb dX1_readRow_52 (by decide) ?_
              refine lv_icmp_lt (tgt := 64) hx hb dX1_readRow_54 (by decide) (fun c9 => ?_) (fun c9 => ?_)
              · have h := e_t c9 h
                refine lv_aload_n hx hb dX1_readRow_64 rfl (lv_at hl 0 rfl) ?_
                refine va_get (D := D) (ci := 1) (v := .ref (ad 1)) (C := RX1) (T := TX1) (N := 8) hx hb hts iX1 hown hK hP 0 rfl rfl 0 (Nat.le_of_ble_eq_true rfl) f12 (fun _ h9 => h9) rfl dX1_readRow_65 ?_
                refine lv_aload_n hx hb dX1_readRow_68 rfl (lv_at hl 0 rfl) ?_
                refine va_get (D := D) (ci := 1) (v := .ref (ad 1)) (C := RX1) (T := TX1) (N := 8) hx hb hts iX1 hown hK hP 0 rfl rfl 0 (Nat.le_of_ble_eq_true rfl) f12 (fun _ h9 => h9) rfl dX1_readRow_69 ?_
                refine va_get (D := D) (ci := 2) (v := .int rrow.2.2) (C := RX2) (T := TX2) (N := 3) hx hb hts iX2 hown hK hP 1 rfl rfl 2 (Nat.le_of_ble_eq_true rfl) f41 (fun _ h9 => h9) rfl dX1_readRow_72 ?_
                refine lv_aload_n hx hb dX1_readRow_75 rfl (lv_at hl 1 rfl) ?_
                refine va_get (D := D) (ci := 4) (v := .int tape.2.2.2.2.2.2) (C := RX4) (T := TX4) (N := 7) hx hb hts iX4 hown hK hP 4 rfl rfl 6 (Nat.le_of_ble_eq_true rfl) f88 (fun _ h9 => h9) rfl dX1_readRow_76 ?_
                obtain ⟨q10, eq10, h⟩ := e_b h
                refine xv_v (As := [.int rrow.2.2, .int tape.2.2.2.2.2.2]) (rest := []) (ci := 2) (b := ad 1) ⟨hx, hb, hml, hown, hts⟩ hl.1 (kX2_open l D cA (fun i => ad (1 + i)) rrow rrow.2.2 tape.2.2.2.2.2.2  _ eq10) (cwV 2 hts gX1_readRow_X2_open rfl rfl rfl (by decide +kernel) ⟨Nat.le_of_ble_eq_true rfl, Nat.le_of_ble_eq_true rfl⟩) rfl hK hP hD hS hA 1 rfl rfl rfl [1, 2, 3] rfl (by decide +kernel) rfl (Nat.le_of_ble_eq_true rfl) dX1_readRow_79 ⟨Nat.zero_le _, Nat.zero_le _⟩ (fun H locs hP hD hS => ?_)
                have hP : va_P D vwCl (wX1X4 cA ad ao rdr q10 tape) H := hP
                have hD : va_D A (wX1X4 cA ad ao rdr q10 tape) := hD
                refine lv_aload_n hx hb dX1_readRow_82 rfl (lv_at hl 1 rfl) ?_
                obtain ⟨q11, eq11, h⟩ := e_b h
                refine xv_v (As := []) (rest := []) (ci := 4) (b := ao 0) ⟨hx, hb, hml, hown, hts⟩ hl.1 (kX4_advance l D cA ao tape   _ eq11) (cwV 0 hts gX1_readRow_X4_advance rfl rfl rfl (by decide +kernel) ⟨Nat.le_of_ble_eq_true rfl, Nat.le_of_ble_eq_true rfl⟩) rfl hK hP hD hS hA 4 rfl rfl rfl [4, 5] rfl (by decide +kernel) rfl (Nat.le_of_ble_eq_true rfl) dX1_readRow_83 ⟨Nat.zero_le _, Nat.zero_le _⟩ (fun H locs hP hD hS => ?_)
                have hP : va_P D vwCl (wX1X4 cA ad ao rdr q10 q11) H := hP
                have hD : va_D A (wX1X4 cA ad ao rdr q10 q11) := hD
                refine lv_iinc (v := (x2 + 1)) (lv' := [(2, .int (x2 + 1)), (0, .ref (ad 0)), (1, .ref (ao 0))]) hx hb dX1_readRow_86 hl (k := 2) rfl rfl (by decide) rfl (fun ls hl => ?_)
                refine lv_goto (tgt := 21) hx hb dX1_readRow_89 (by decide) ?_
                exact ih21 (x2 + 1) rdr q10 q11 _ _ _ (lv_sub hl [1, 2, 0] rfl) hP hD hS h
              · have h := e_f c9 h
                refine lv_aload_n hx hb dX1_readRow_57 rfl (lv_at hl 0 rfl) ?_
                refine lv_aload_n hx hb dX1_readRow_58 rfl (lv_at hl 1 rfl) ?_
                refine lv_iconst (v := 2) hx hb dX1_readRow_59 (by decide) ?_
                obtain ⟨q12, eq12, h⟩ := e_b h
                refine xv_i0 (As := [.ref (ao 0), .int 2]) (rest := []) (ci := 1) (b := ad 0) ⟨hx, hb, hml, hown, hts⟩ hl.1 (kX1_refuse l D cA ad ao rdr rrow tape 2  _ eq12) (cwV 2 hts gX1_readRow_X1_refuse rfl rfl rfl (by decide +kernel) ⟨Nat.le_of_ble_eq_true rfl, Nat.le_of_ble_eq_true rfl⟩) rfl hK hP hD hS hA 0 rfl rfl rfl rfl (Nat.le_of_ble_eq_true rfl) dX1_readRow_60 ⟨Nat.zero_le _, Nat.zero_le _⟩ (fun H locs hP hD hS hnq12 => ?_)
                have hP : va_P D vwCl (wX1X4 cA ad ao q12.2 rrow tape) H := hP
                have hD : va_D A (wX1X4 cA ad ao q12.2 rrow tape) := hD
                obtain rfl := e_s h
                exact hret hP hS hnq12 dX1_readRow_63
    exact hL21 FU 0 rdr rrow q1 _ _ _ (lv_sub hl [1, 2, 0] rfl) hP hD hS h
  · have h := e_f c2 h
    refine lv_aload_n hx hb dX1_readRow_12 rfl (lv_at hl 0 rfl) ?_
    refine lv_aload_n hx hb dX1_readRow_13 rfl (lv_at hl 1 rfl) ?_
    refine lv_iconst (v := 1) hx hb dX1_readRow_14 (by decide) ?_
    obtain ⟨q13, eq13, h⟩ := e_b h
    refine xv_i0 (As := [.ref (ao 0), .int 1]) (rest := []) (ci := 1) (b := ad 0) ⟨hx, hb, hml, hown, hts⟩ hl.1 (kX1_refuse l D cA ad ao rdr rrow q1 1  _ eq13) (cwV 2 hts gX1_readRow_X1_refuse rfl rfl rfl (by decide +kernel) ⟨Nat.le_of_ble_eq_true rfl, Nat.le_of_ble_eq_true rfl⟩) rfl hK hP hD hS hA 0 rfl rfl rfl rfl (Nat.le_of_ble_eq_true rfl) dX1_readRow_15 ⟨Nat.zero_le _, Nat.zero_le _⟩ (fun H locs hP hD hS hnq13 => ?_)
    have hP : va_P D vwCl (wX1X4 cA ad ao q13.2 rrow q1) H := hP
    have hD : va_D A (wX1X4 cA ad ao q13.2 rrow q1) := hD
    obtain rfl := e_s h
    exact hret hP hS hnq13 dX1_readRow_18
set_option maxHeartbeats 4000000 in
set_option maxRecDepth 100000 in
theorem kX4_isWord (l : Launch) (D : va_G) (cA : Nat → ClassId) (adK adV : Nat → Nat) (ad : Nat → Nat) (tape : TapT) (x1 : Nat) (hi_x1 : x1 < 13) (q : Int32) (h : mX4_isWord tape x1 = some q) : MIe l yX4_isWord wsX4_isWord { frames := 5, cells := 0, slots := 0, locals := 85 } D cA adK adV .boolean [.ref (ad 0), .ref (adK x1)] (wX4 cA ad tape) (wX4 cA ad tape) q := by
  refine MIe.of (cc := cX4_isWord) (maxL := 3) (by decide +kernel) rfl rfl rfl (Nat.le_of_ble_eq_true rfl) ?_
  intro p e s m args below meth c A ls Q hx hb hml hts hown hK hP hD hA hS hE hR hl hret
  have hl : lv_has ls 3 [(0, .ref (ad 0)), (1, .ref (adK x1))] := hl
  have f22 := hts (.fieldLink RX4 22 "ModeDesk$Tape" "at" "I") (by decide +kernel)
  have f25 := hts (.fieldLink RX4 25 "ModeDesk$Tape" "start" "I") (by decide +kernel)
  have f28 := hts (.fieldLink RX4 28 "ModeDesk$Tape" "token" "I") (by decide +kernel)
  have f9 := hts (.fieldLink RX4 9 "ModeDesk$Tape" "bytes" "[C") (by decide +kernel)
  have iX4 : ∀ w ∈ wsX40, w ∈ wsX4_isWord := by decide +kernel
  unfold mX4_isWord at h
  refine lv_aload_n hx hb dX4_isWord_0 rfl (lv_at hl 0 rfl) ?_
  refine va_get (D := D) (ci := 4) (v := .int tape.2.2.2.2.2.1) (C := RX4) (T := TX4) (N := 7) hx hb hts iX4 hown hK hP 0 rfl rfl 5 (Nat.le_of_ble_eq_true rfl) f28 (fun _ h9 => h9) rfl dX4_isWord_1 ?_
  refine lv_iconst (v := 1) hx hb dX4_isWord_4 (by decide) ?_
  refine lv_icmp_ne (tgt := 24) hx hb dX4_isWord_5 (by decide) (fun c1 => ?_) (fun c1 => ?_)
  · have h := e_t c1 h
    refine lv_iconst (v := 0) hx hb dX4_isWord_24 (by decide) ?_
    obtain rfl := e_s h
    exact hret hP hS (show narrow .boolean (.int 0) = .int 0 from rfl) dX4_isWord_25
  · have h := e_f (not_not_intro c1) h
    refine lv_aload_n hx hb dX4_isWord_8 rfl (lv_at hl 0 rfl) ?_
    refine va_get (D := D) (ci := 4) (v := .int tape.2.2.2.1) (C := RX4) (T := TX4) (N := 7) hx hb hts iX4 hown hK hP 0 rfl rfl 3 (Nat.le_of_ble_eq_true rfl) f22 (fun _ h9 => h9) rfl dX4_isWord_9 ?_
    refine lv_aload_n hx hb dX4_isWord_12 rfl (lv_at hl 0 rfl) ?_
    refine va_get (D := D) (ci := 4) (v := .int tape.2.2.2.2.1) (C := RX4) (T := TX4) (N := 7) hx hb hts iX4 hown hK hP 0 rfl rfl 4 (Nat.le_of_ble_eq_true rfl) f25 (fun _ h9 => h9) rfl dX4_isWord_13 ?_
    refine lv_isub hx hb dX4_isWord_16 ?_
    refine lv_aload_n hx hb dX4_isWord_17 rfl (lv_at hl 1 rfl) ?_
    refine xv_ie (As := []) (rest := [.int (tape.2.2.2.1 - tape.2.2.2.2.1)]) (b := adK x1) hE hR ⟨hx, hb, hml, hown, hts⟩ hl.1 (kJ0_length l D cA adK adV x1 hi_x1) (cwV 0 hts gX4_isWord_J0_length_8abf5 rfl rfl rfl (by decide +kernel) ⟨Nat.le_of_ble_eq_true rfl, Nat.le_of_ble_eq_true rfl⟩) rfl hK hP hD hS hA (w_str hE hS hi_x1) [] rfl (by decide +kernel) rfl (Nat.le_of_ble_eq_true rfl) dX4_isWord_18 ⟨Nat.zero_le _, Nat.zero_le _⟩ (fun H locs hP hD hS _ => ?_)
    have hP : va_P D vwCl (wX4 cA ad tape) H := hP
    have hD : va_D A (wX4 cA ad tape) := hD
    refine lv_icmp_eq (tgt := 26) hx hb dX4_isWord_21 (by decide) (fun c2 => ?_) (fun c2 => ?_)
    · have h := e_t c2 h
      refine lv_iconst (v := 0) hx hb dX4_isWord_26 (by decide) ?_
      refine lv_istore_n (lv' := [(2, .int 0), (0, .ref (ad 0)), (1, .ref (adK x1))]) hx hb dX4_isWord_27 rfl hl (by decide) rfl (fun ls hl => ?_)
      have hL28 : ∀ (n : Nat) (x2 : Int32) (ls : Array Slot) (H : Heap) (locs : List Loc), lv_has ls 3 [(0, .ref (ad 0)), (1, .ref (adK x1)), (2, .int x2)] → va_P D vwCl (wX4 cA ad tape) H → va_D A (wX4 cA ad tape) → va_S A s.heap H locs → mX4_isWord_L28 tape x1 n x2 = some q → W p l e (headSpec wsX4_isWord { frames := 5, cells := 0, slots := 0, locals := 85 }).room s m args below meth c H locs 0 0 Q (F0 m 28 ls []) := by
        intro n
        induction n with
        | zero => intro x2 ls H locs hl hP hD hS h; exact e_n h
        | succ n ih28 =>
          intro x2 ls H locs hl hP hD hS h
          rw [mX4_isWord_L28.eq_2] at h
          refine lv_iload_n hx hb dX4_isWord_28 rfl (lv_at hl 2 rfl) ?_
          refine lv_aload_n hx hb dX4_isWord_29 rfl (lv_at hl 1 rfl) ?_
          refine xv_ie (As := []) (rest := [.int x2]) (b := adK x1) hE hR ⟨hx, hb, hml, hown, hts⟩ hl.1 (kJ0_length l D cA adK adV x1 hi_x1) (cwV 0 hts gX4_isWord_J0_length_8abf5 rfl rfl rfl (by decide +kernel) ⟨Nat.le_of_ble_eq_true rfl, Nat.le_of_ble_eq_true rfl⟩) rfl hK hP hD hS hA (w_str hE hS hi_x1) [] rfl (by decide +kernel) rfl (Nat.le_of_ble_eq_true rfl) dX4_isWord_30 ⟨Nat.zero_le _, Nat.zero_le _⟩ (fun H locs hP hD hS _ => ?_)
          have hP : va_P D vwCl (wX4 cA ad tape) H := hP
          have hD : va_D A (wX4 cA ad tape) := hD
          refine lv_icmp_ge (tgt := 63) hx hb dX4_isWord_33 (by decide) (fun c4 => ?_) (fun c4 => ?_)
          · have h := e_t c4 h
            refine lv_iconst (v := 1) hx hb dX4_isWord_63 (by decide) ?_
            obtain rfl := e_s h
            exact hret hP hS (show narrow .boolean (.int 1) = .int 1 from rfl) dX4_isWord_64
          · have h := e_f c4 h
            refine lv_aload_n hx hb dX4_isWord_36 rfl (lv_at hl 0 rfl) ?_
            refine va_get (D := D) (ci := 4) (v := .ref (ad 1)) (C := RX4) (T := TX4) (N := 7) hx hb hts iX4 hown hK hP 0 rfl rfl 0 (Nat.le_of_ble_eq_true rfl) f9 (fun _ h9 => h9) rfl dX4_isWord_37 ?_
            refine lv_aload_n hx hb dX4_isWord_40 rfl (lv_at hl 0 rfl) ?_
            refine va_get (D := D) (ci := 4) (v := .int tape.2.2.2.2.1) (C := RX4) (T := TX4) (N := 7) hx hb hts iX4 hown hK hP 0 rfl rfl 4 (Nat.le_of_ble_eq_true rfl) f25 (fun _ h9 => h9) rfl dX4_isWord_41 ?_
            refine lv_iload_n hx hb dX4_isWord_44 rfl (lv_at hl 2 rfl) ?_
            refine lv_iadd hx hb dX4_isWord_45 ?_
            obtain ⟨v5, ev5, nv5, h⟩ := e_rd h
            refine xa_cald hx hb hK hP 1 rfl nv5 ev5 dX4_isWord_46 ?_
            refine lv_aload_n hx hb dX4_isWord_47 rfl (lv_at hl 1 rfl) ?_
            refine lv_iload_n hx hb dX4_isWord_48 rfl (lv_at hl 2 rfl) ?_
            obtain ⟨v6, ev6, h⟩ := e_b h
            refine xv_ie (As := [.int x2]) (rest := [.int v5]) (b := adK x1) hE hR ⟨hx, hb, hml, hown, hts⟩ hl.1 (kJ0_charAt l D cA adK adV x1 hi_x1 x2 v6 ev6) (cwV 1 hts gX4_isWord_J0_charAt_5068e rfl rfl rfl (by decide +kernel) ⟨Nat.le_of_ble_eq_true rfl, Nat.le_of_ble_eq_true rfl⟩) rfl hK hP hD hS hA (w_str hE hS hi_x1) [] rfl (by decide +kernel) rfl (Nat.le_of_ble_eq_true rfl) dX4_isWord_49 ⟨Nat.zero_le _, Nat.zero_le _⟩ (fun H locs hP hD hS _ => ?_)
            have hP : va_P D vwCl (wX4 cA ad tape) H := hP
            have hD : va_D A (wX4 cA ad tape) := hD
            refine lv_icmp_eq (tgt := 57) hx hb dX4_isWord_52 (by decide) (fun c7 => ?_) (fun c7 => ?_)
            · have h := e_t c7 h
              refine lv_iinc (v := (x2 + 1)) (lv' := [(2, .int (x2 + 1)), (0, .ref (ad 0)), (1, .ref (adK x1))]) hx hb dX4_isWord_57 hl (k := 2) rfl rfl (by decide) rfl (fun ls hl => ?_)
              refine lv_goto (tgt := 28) hx hb dX4_isWord_60 (by decide) ?_
              exact ih28 (x2 + 1) _ _ _ (lv_sub hl [1, 2, 0] rfl) hP hD hS h
            · have h := e_f c7 h
              refine lv_iconst (v := 0) hx hb dX4_isWord_55 (by decide) ?_
              obtain rfl := e_s h
              exact hret hP hS (show narrow .boolean (.int 0) = .int 0 from rfl) dX4_isWord_56
      exact hL28 FU 0 _ _ _ (lv_sub hl [1, 2, 0] rfl) hP hD hS h
    · have h := e_f c2 h
      refine lv_iconst (v := 0) hx hb dX4_isWord_24 (by decide) ?_
      obtain rfl := e_s h
      exact hret hP hS (show narrow .boolean (.int 0) = .int 0 from rfl) dX4_isWord_25
set_option maxHeartbeats 4000000 in
set_option maxRecDepth 100000 in
theorem kX1_tiesNamed (l : Launch) (D : va_G) (cA : Nat → ClassId) (adK adV : Nat → Nat) (ao : Nat → Nat) (tape : TapT)  (q : Int32) (h : mX1_tiesNamed tape  = some q) : MIe l yX1_tiesNamed wsX1_tiesNamed { frames := 6, cells := 0, slots := 0, locals := 107 } D cA adK adV .int [.ref (ao 0)] (wX4 cA ao tape) (wX4 cA ao tape) q := by
  refine MIe.of (cc := cX1_tiesNamed) (maxL := 1) (by decide +kernel) rfl rfl rfl (Nat.le_of_ble_eq_true rfl) ?_
  intro p e s m args below meth c A ls Q hx hb hml hts hown hK hP hD hA hS hE hR hl hret
  have hl : lv_has ls 1 [(0, .ref (ao 0))] := hl
  unfold mX1_tiesNamed at h
  refine lv_aload_n hx hb dX1_tiesNamed_0 rfl (lv_at hl 0 rfl) ?_
  refine va_ldcS hx hb hown hR.2.2.2.2.1 dX1_tiesNamed_1 ?_
  obtain ⟨q1, eq1, h⟩ := e_b h
  refine xv_ie (As := [.ref (adK 4)]) (rest := []) (b := ao 0) hE hR ⟨hx, hb, hml, hown, hts⟩ hl.1 (kX4_isWord l D cA adK adV ao tape 4 (by decide) _ eq1) (cwV 1 hts gX1_tiesNamed_X4_isWord rfl rfl rfl (by decide +kernel) ⟨Nat.le_of_ble_eq_true rfl, Nat.le_of_ble_eq_true rfl⟩) rfl hK hP hD hS hA (va_recv hK hP (ci := 4) (q0 := 0) rfl rfl) [0, 1] rfl (by decide +kernel) rfl (Nat.le_of_ble_eq_true rfl) dX1_tiesNamed_3 ⟨Nat.zero_le _, Nat.zero_le _⟩ (fun H locs hP hD hS hnq1 => ?_)
  have hP : va_P D vwCl (wX4 cA ao tape) H := hP
  have hD : va_D A (wX4 cA ao tape) := hD
  refine lv_if_eq (tgt := 11) hx hb dX1_tiesNamed_6 (by decide) (fun c2 => ?_) (fun c2 => ?_)
  · have h := e_t c2 h
    refine lv_aload_n hx hb dX1_tiesNamed_11 rfl (lv_at hl 0 rfl) ?_
    refine va_ldcS hx hb hown hR.2.2.2.2.2.1 dX1_tiesNamed_12 ?_
    obtain ⟨q3, eq3, h⟩ := e_b h
    refine xv_ie (As := [.ref (adK 5)]) (rest := []) (b := ao 0) hE hR ⟨hx, hb, hml, hown, hts⟩ hl.1 (kX4_isWord l D cA adK adV ao tape 5 (by decide) _ eq3) (cwV 1 hts gX1_tiesNamed_X4_isWord rfl rfl rfl (by decide +kernel) ⟨Nat.le_of_ble_eq_true rfl, Nat.le_of_ble_eq_true rfl⟩) rfl hK hP hD hS hA (va_recv hK hP (ci := 4) (q0 := 0) rfl rfl) [0, 1] rfl (by decide +kernel) rfl (Nat.le_of_ble_eq_true rfl) dX1_tiesNamed_14 ⟨Nat.zero_le _, Nat.zero_le _⟩ (fun H locs hP hD hS hnq3 => ?_)
    have hP : va_P D vwCl (wX4 cA ao tape) H := hP
    have hD : va_D A (wX4 cA ao tape) := hD
    refine lv_if_eq (tgt := 22) hx hb dX1_tiesNamed_17 (by decide) (fun c4 => ?_) (fun c4 => ?_)
    · have h := e_t c4 h
      refine lv_aload_n hx hb dX1_tiesNamed_22 rfl (lv_at hl 0 rfl) ?_
      refine va_ldcS hx hb hown hR.2.2.2.2.2.2.1 dX1_tiesNamed_23 ?_
      obtain ⟨q5, eq5, h⟩ := e_b h
      refine xv_ie (As := [.ref (adK 6)]) (rest := []) (b := ao 0) hE hR ⟨hx, hb, hml, hown, hts⟩ hl.1 (kX4_isWord l D cA adK adV ao tape 6 (by decide) _ eq5) (cwV 1 hts gX1_tiesNamed_X4_isWord rfl rfl rfl (by decide +kernel) ⟨Nat.le_of_ble_eq_true rfl, Nat.le_of_ble_eq_true rfl⟩) rfl hK hP hD hS hA (va_recv hK hP (ci := 4) (q0 := 0) rfl rfl) [0, 1] rfl (by decide +kernel) rfl (Nat.le_of_ble_eq_true rfl) dX1_tiesNamed_25 ⟨Nat.zero_le _, Nat.zero_le _⟩ (fun H locs hP hD hS hnq5 => ?_)
      have hP : va_P D vwCl (wX4 cA ao tape) H := hP
      have hD : va_D A (wX4 cA ao tape) := hD
      refine lv_if_eq (tgt := 33) hx hb dX1_tiesNamed_28 (by decide) (fun c6 => ?_) (fun c6 => ?_)
      · have h := e_t c6 h
        refine lv_aload_n hx hb dX1_tiesNamed_33 rfl (lv_at hl 0 rfl) ?_
        refine va_ldcS hx hb hown hR.2.2.2.2.2.2.2.1 dX1_tiesNamed_34 ?_
        obtain ⟨q7, eq7, h⟩ := e_b h
        refine xv_ie (As := [.ref (adK 7)]) (rest := []) (b := ao 0) hE hR ⟨hx, hb, hml, hown, hts⟩ hl.1 (kX4_isWord l D cA adK adV ao tape 7 (by decide) _ eq7) (cwV 1 hts gX1_tiesNamed_X4_isWord rfl rfl rfl (by decide +kernel) ⟨Nat.le_of_ble_eq_true rfl, Nat.le_of_ble_eq_true rfl⟩) rfl hK hP hD hS hA (va_recv hK hP (ci := 4) (q0 := 0) rfl rfl) [0, 1] rfl (by decide +kernel) rfl (Nat.le_of_ble_eq_true rfl) dX1_tiesNamed_36 ⟨Nat.zero_le _, Nat.zero_le _⟩ (fun H locs hP hD hS hnq7 => ?_)
        have hP : va_P D vwCl (wX4 cA ao tape) H := hP
        have hD : va_D A (wX4 cA ao tape) := hD
        refine lv_if_eq (tgt := 46) hx hb dX1_tiesNamed_39 (by decide) (fun c8 => ?_) (fun c8 => ?_)
        · have h := e_t c8 h
          refine lv_iconst (v := (-1)) hx hb dX1_tiesNamed_46 (by decide) ?_
          obtain rfl := e_s h
          exact hret hP hS rfl dX1_tiesNamed_47
        · have h := e_f c8 h
          refine lv_iconst (v := 3) hx hb dX1_tiesNamed_42 (by decide) ?_
          refine lv_goto (tgt := 47) hx hb dX1_tiesNamed_43 (by decide) ?_
          obtain rfl := e_s h
          exact hret hP hS rfl dX1_tiesNamed_47
      · have h := e_f c6 h
        refine lv_iconst (v := 2) hx hb dX1_tiesNamed_31 (by decide) ?_
        obtain rfl := e_s h
        exact hret hP hS rfl dX1_tiesNamed_32
    · have h := e_f c4 h
      refine lv_iconst (v := 1) hx hb dX1_tiesNamed_20 (by decide) ?_
      obtain rfl := e_s h
      exact hret hP hS rfl dX1_tiesNamed_21
  · have h := e_f c2 h
    refine lv_iconst (v := 0) hx hb dX1_tiesNamed_9 (by decide) ?_
    obtain rfl := e_s h
    exact hret hP hS rfl dX1_tiesNamed_10
set_option maxHeartbeats 4000000 in
set_option maxRecDepth 100000 in
theorem kX1_readTies (l : Launch) (D : va_G) (cA : Nat → ClassId) (adK adV : Nat → Nat) (ad : Nat → Nat) (ao : Nat → Nat) (rdr : RdrT) (rrow : RowT) (tape : TapT)  (q : Int32 × RdrT × TapT) (h : mX1_readTies rdr tape  = some q) : MIe l yX1_readTies wsX1_readTies { frames := 7, cells := 0, slots := 0, locals := 127 } D cA adK adV .boolean [.ref (ad 0), .ref (ao 0)] (wX1X4 cA ad ao rdr rrow tape) (wX1X4 cA ad ao q.2.1 rrow q.2.2) q.1 := by
  refine MIe.of (cc := cX1_readTies) (maxL := 2) (by decide +kernel) rfl rfl rfl (Nat.le_of_ble_eq_true rfl) ?_
  intro p e s m args below meth c A ls Q hx hb hml hts hown hK hP hD hA hS hE hR hl hret
  have hl : lv_has ls 2 [(0, .ref (ad 0)), (1, .ref (ao 0))] := hl
  have f22 := hts (.fieldLink RX1 22 "ModeDesk$Reader" "ties" "I") (by decide +kernel)
  have f38 := hts (.fieldLink RX1 38 "ModeDesk$Reader" "tiesTold" "Z") (by decide +kernel)
  have iX1 : ∀ w ∈ wsX10, w ∈ wsX1_readTies := by decide +kernel
  unfold mX1_readTies at h
  refine lv_aload_n hx hb dX1_readTies_0 rfl (lv_at hl 0 rfl) ?_
  refine va_get (D := D) (ci := 1) (v := .int rdr.2.2.2.2.2.2) (C := RX1) (T := TX1) (N := 8) hx hb hts iX1 hown hK hP 0 rfl rfl 7 (Nat.le_of_ble_eq_true rfl) f38 (fun _ h9 => h9) rfl dX1_readTies_1 ?_
  refine lv_if_eq (tgt := 14) hx hb dX1_readTies_4 (by decide) (fun c1 => ?_) (fun c1 => ?_)
  · have h := e_t c1 h
    refine lv_aload_n hx hb dX1_readTies_14 rfl (lv_at hl 0 rfl) ?_
    refine lv_iconst (v := 1) hx hb dX1_readTies_15 (by decide) ?_
    refine va_put (D := D) (ci := 1) (v := .int 1) (ty := .boolean) (C := RX1) (T := TX1) (N := 8) hx hb hts iX1 tyX1 tyX1_ok nmX1 hown hK hP hD hS 0 rfl rfl 7 (Nat.le_of_ble_eq_true rfl) f38 (fun _ h9 => h9) rfl (tyX1_ok 7 (Nat.le_of_ble_eq_true rfl)) rfl rfl (Nat.le_of_ble_eq_true rfl) dX1_readTies_16 (fun H locs hP hD hS => ?_)
    have hP : va_P D vwCl (wX1X4 cA ad ao (rdr.1, rdr.2.1, rdr.2.2.1, rdr.2.2.2.1, rdr.2.2.2.2.1, rdr.2.2.2.2.2.1, 1) rrow tape) H := hP
    have hD : va_D A (wX1X4 cA ad ao (rdr.1, rdr.2.1, rdr.2.2.1, rdr.2.2.2.1, rdr.2.2.2.2.1, rdr.2.2.2.2.2.1, 1) rrow tape) := hD
    refine lv_aload_n hx hb dX1_readTies_19 rfl (lv_at hl 1 rfl) ?_
    obtain ⟨q2, eq2, h⟩ := e_b h
    refine xv_v (As := []) (rest := []) (ci := 4) (b := ao 0) ⟨hx, hb, hml, hown, hts⟩ hl.1 (kX4_advance l D cA ao tape   _ eq2) (cwV 0 hts gX1_readTies_X4_advance rfl rfl rfl (by decide +kernel) ⟨Nat.le_of_ble_eq_true rfl, Nat.le_of_ble_eq_true rfl⟩) rfl hK hP hD hS hA 4 rfl rfl rfl [4, 5] rfl (by decide +kernel) rfl (Nat.le_of_ble_eq_true rfl) dX1_readTies_20 ⟨Nat.zero_le _, Nat.zero_le _⟩ (fun H locs hP hD hS => ?_)
    have hP : va_P D vwCl (wX1X4 cA ad ao (rdr.1, rdr.2.1, rdr.2.2.1, rdr.2.2.2.1, rdr.2.2.2.2.1, rdr.2.2.2.2.2.1, 1) rrow q2) H := hP
    have hD : va_D A (wX1X4 cA ad ao (rdr.1, rdr.2.1, rdr.2.2.1, rdr.2.2.2.1, rdr.2.2.2.2.1, rdr.2.2.2.2.2.1, 1) rrow q2) := hD
    refine lv_aload_n hx hb dX1_readTies_23 rfl (lv_at hl 0 rfl) ?_
    refine lv_aload_n hx hb dX1_readTies_24 rfl (lv_at hl 1 rfl) ?_
    obtain ⟨q3, eq3, h⟩ := e_b h
    refine xs_ie (As := [.ref (ao 0)]) (rest := [.ref (ad 0)]) hE hR ⟨hx, hb, hml, hown, hts⟩ hl.1 (kX1_tiesNamed l D cA adK adV ao q2   _ eq3) (va_cwS 1 hts gX1_readTies_X1_tiesNamed rfl rfl rfl (by decide +kernel) ⟨Nat.le_of_ble_eq_true rfl, Nat.le_of_ble_eq_true rfl⟩) rfl hK hP hD hS hA [4, 5] rfl (by decide +kernel) rfl (Nat.le_of_ble_eq_true rfl) dX1_readTies_25 ⟨Nat.zero_le _, Nat.zero_le _⟩ (fun H locs hP hD hS hnq3 => ?_)
    have hP : va_P D vwCl (wX1X4 cA ad ao (rdr.1, rdr.2.1, rdr.2.2.1, rdr.2.2.2.1, rdr.2.2.2.2.1, rdr.2.2.2.2.2.1, 1) rrow q2) H := hP
    have hD : va_D A (wX1X4 cA ad ao (rdr.1, rdr.2.1, rdr.2.2.1, rdr.2.2.2.1, rdr.2.2.2.2.1, rdr.2.2.2.2.2.1, 1) rrow q2) := hD
    refine va_put (D := D) (ci := 1) (v := .int q3) (ty := .int) (C := RX1) (T := TX1) (N := 8) hx hb hts iX1 tyX1 tyX1_ok nmX1 hown hK hP hD hS 0 rfl rfl 2 (Nat.le_of_ble_eq_true rfl) f22 (fun _ h9 => h9) rfl (tyX1_ok 2 (Nat.le_of_ble_eq_true rfl)) rfl rfl (Nat.le_of_ble_eq_true rfl) dX1_readTies_28 (fun H locs hP hD hS => ?_)
    have hP : va_P D vwCl (wX1X4 cA ad ao (rdr.1, q3, rdr.2.2.1, rdr.2.2.2.1, rdr.2.2.2.2.1, rdr.2.2.2.2.2.1, 1) rrow q2) H := hP
    have hD : va_D A (wX1X4 cA ad ao (rdr.1, q3, rdr.2.2.1, rdr.2.2.2.1, rdr.2.2.2.2.1, rdr.2.2.2.2.2.1, 1) rrow q2) := hD
    refine lv_aload_n hx hb dX1_readTies_31 rfl (lv_at hl 0 rfl) ?_
    refine va_get (D := D) (ci := 1) (v := .int q3) (C := RX1) (T := TX1) (N := 8) hx hb hts iX1 hown hK hP 0 rfl rfl 2 (Nat.le_of_ble_eq_true rfl) f22 (fun _ h9 => h9) rfl dX1_readTies_32 ?_
    refine lv_iconst (v := (-1)) hx hb dX1_readTies_35 (by decide) ?_
    refine lv_icmp_ne (tgt := 46) hx hb dX1_readTies_36 (by decide) (fun c4 => ?_) (fun c4 => ?_)
    · have h := e_t c4 h
      refine lv_aload_n hx hb dX1_readTies_46 rfl (lv_at hl 1 rfl) ?_
      obtain ⟨q5, eq5, h⟩ := e_b h
      refine xv_v (As := []) (rest := []) (ci := 4) (b := ao 0) ⟨hx, hb, hml, hown, hts⟩ hl.1 (kX4_advance l D cA ao q2   _ eq5) (cwV 0 hts gX1_readTies_X4_advance rfl rfl rfl (by decide +kernel) ⟨Nat.le_of_ble_eq_true rfl, Nat.le_of_ble_eq_true rfl⟩) rfl hK hP hD hS hA 4 rfl rfl rfl [4, 5] rfl (by decide +kernel) rfl (Nat.le_of_ble_eq_true rfl) dX1_readTies_47 ⟨Nat.zero_le _, Nat.zero_le _⟩ (fun H locs hP hD hS => ?_)
      have hP : va_P D vwCl (wX1X4 cA ad ao (rdr.1, q3, rdr.2.2.1, rdr.2.2.2.1, rdr.2.2.2.2.1, rdr.2.2.2.2.2.1, 1) rrow q5) H := hP
      have hD : va_D A (wX1X4 cA ad ao (rdr.1, q3, rdr.2.2.1, rdr.2.2.2.1, rdr.2.2.2.2.1, rdr.2.2.2.2.2.1, 1) rrow q5) := hD
      refine lv_iconst (v := 1) hx hb dX1_readTies_50 (by decide) ?_
      obtain rfl := e_s h
      exact hret hP hS (show narrow .boolean (.int 1) = .int 1 from rfl) dX1_readTies_51
    · have h := e_f (not_not_intro c4) h
      refine lv_aload_n hx hb dX1_readTies_39 rfl (lv_at hl 0 rfl) ?_
      refine lv_aload_n hx hb dX1_readTies_40 rfl (lv_at hl 1 rfl) ?_
      refine lv_iconst (v := 1) hx hb dX1_readTies_41 (by decide) ?_
      obtain ⟨q6, eq6, h⟩ := e_b h
      refine xv_i0 (As := [.ref (ao 0), .int 1]) (rest := []) (ci := 1) (b := ad 0) ⟨hx, hb, hml, hown, hts⟩ hl.1 (kX1_refuse l D cA ad ao (rdr.1, q3, rdr.2.2.1, rdr.2.2.2.1, rdr.2.2.2.2.1, rdr.2.2.2.2.2.1, 1) rrow q2 1  _ eq6) (cwV 2 hts gX1_readTies_X1_refuse rfl rfl rfl (by decide +kernel) ⟨Nat.le_of_ble_eq_true rfl, Nat.le_of_ble_eq_true rfl⟩) rfl hK hP hD hS hA 0 rfl rfl rfl rfl (Nat.le_of_ble_eq_true rfl) dX1_readTies_42 ⟨Nat.zero_le _, Nat.zero_le _⟩ (fun H locs hP hD hS hnq6 => ?_)
      have hP : va_P D vwCl (wX1X4 cA ad ao q6.2 rrow q2) H := hP
      have hD : va_D A (wX1X4 cA ad ao q6.2 rrow q2) := hD
      obtain rfl := e_s h
      exact hret hP hS hnq6 dX1_readTies_45
  · have h := e_f c1 h
    refine lv_aload_n hx hb dX1_readTies_7 rfl (lv_at hl 0 rfl) ?_
    refine lv_aload_n hx hb dX1_readTies_8 rfl (lv_at hl 1 rfl) ?_
    refine lv_iconst (v := 3) hx hb dX1_readTies_9 (by decide) ?_
    obtain ⟨q7, eq7, h⟩ := e_b h
    refine xv_i0 (As := [.ref (ao 0), .int 3]) (rest := []) (ci := 1) (b := ad 0) ⟨hx, hb, hml, hown, hts⟩ hl.1 (kX1_refuse l D cA ad ao rdr rrow tape 3  _ eq7) (cwV 2 hts gX1_readTies_X1_refuse rfl rfl rfl (by decide +kernel) ⟨Nat.le_of_ble_eq_true rfl, Nat.le_of_ble_eq_true rfl⟩) rfl hK hP hD hS hA 0 rfl rfl rfl rfl (Nat.le_of_ble_eq_true rfl) dX1_readTies_10 ⟨Nat.zero_le _, Nat.zero_le _⟩ (fun H locs hP hD hS hnq7 => ?_)
    have hP : va_P D vwCl (wX1X4 cA ad ao q7.2 rrow tape) H := hP
    have hD : va_D A (wX1X4 cA ad ao q7.2 rrow tape) := hD
    obtain rfl := e_s h
    exact hret hP hS hnq7 dX1_readTies_13
set_option maxHeartbeats 4000000 in
set_option maxRecDepth 100000 in
theorem kX2_has (l : Launch) (D : va_G) (cA : Nat → ClassId) (ad : Nat → Nat) (t : RowT) (x1 : Int32) (q : Int32) (h : mX2_has t x1 = some q) : MI l yX2_has wsX2_has { frames := 0, cells := 0, slots := 0, locals := 0 } D cA .boolean [.ref (ad 0), .int x1] (wX2 cA ad t) (wX2 cA ad t) q := by
  refine MI.of (cc := cX2_has) (maxL := 2) (by decide +kernel) rfl rfl rfl (Nat.le_of_ble_eq_true rfl) ?_
  intro p e s m args below meth c A ls Q hx hb hml hts hown hK hP hD hA hS hl hret
  have hl : lv_has ls 2 [(0, .ref (ad 0)), (1, .int x1)] := hl
  have f18 := hts (.fieldLink RX2 18 "ModeDesk$Row" "size" "I") (by decide +kernel)
  have iX2 : ∀ w ∈ wsX20, w ∈ wsX2_has := by decide +kernel
  unfold mX2_has at h
  refine lv_iload_n hx hb dX2_has_0 rfl (lv_at hl 1 rfl) ?_
  refine lv_if_lt (tgt := 16) hx hb dX2_has_1 (by decide) (fun c1 => ?_) (fun c1 => ?_)
  · have h := e_t c1 h
    refine lv_iconst (v := 0) hx hb dX2_has_16 (by decide) ?_
    obtain rfl := e_s h
    exact hret hP hS (show narrow .boolean (.int 0) = .int 0 from rfl) dX2_has_17
  · have h := e_f c1 h
    refine lv_iload_n hx hb dX2_has_4 rfl (lv_at hl 1 rfl) ?_
    refine lv_aload_n hx hb dX2_has_5 rfl (lv_at hl 0 rfl) ?_
    refine va_get (D := D) (ci := 2) (v := .int t.2.2) (C := RX2) (T := TX2) (N := 3) hx hb hts iX2 hown hK hP 0 rfl rfl 2 (Nat.le_of_ble_eq_true rfl) f18 (fun _ h9 => h9) rfl dX2_has_6 ?_
    refine lv_icmp_ge (tgt := 16) hx hb dX2_has_9 (by decide) (fun c2 => ?_) (fun c2 => ?_)
    · have h := e_t c2 h
      refine lv_iconst (v := 0) hx hb dX2_has_16 (by decide) ?_
      obtain rfl := e_s h
      exact hret hP hS (show narrow .boolean (.int 0) = .int 0 from rfl) dX2_has_17
    · have h := e_f c2 h
      refine lv_iconst (v := 1) hx hb dX2_has_12 (by decide) ?_
      refine lv_goto (tgt := 17) hx hb dX2_has_13 (by decide) ?_
      obtain rfl := e_s h
      exact hret hP hS (show narrow .boolean (.int 1) = .int 1 from rfl) dX2_has_17
set_option maxHeartbeats 4000000 in
set_option maxRecDepth 100000 in
theorem kX1_readWeight (l : Launch) (D : va_G) (cA : Nat → ClassId) (ad : Nat → Nat) (ao : Nat → Nat) (rdr : RdrT) (rrow : RowT) (tape : TapT)  (q : Int32 × RdrT × RowT × TapT) (h : mX1_readWeight rdr rrow tape  = some q) : MI l yX1_readWeight wsX1_readWeight { frames := 3, cells := 0, slots := 0, locals := 64 } D cA .boolean [.ref (ad 0), .ref (ao 0)] (wX1X4 cA ad ao rdr rrow tape) (wX1X4 cA ad ao q.2.1 q.2.2.1 q.2.2.2) q.1 := by
  refine MI.of (cc := cX1_readWeight) (maxL := 3) (by decide +kernel) rfl rfl rfl (Nat.le_of_ble_eq_true rfl) ?_
  intro p e s m args below meth c A ls Q hx hb hml hts hown hK hP hD hA hS hl hret
  have hl : lv_has ls 3 [(0, .ref (ad 0)), (1, .ref (ao 0))] := hl
  have f106 := hts (.fieldLink RX1 106 "ModeDesk$Row" "weights" "[I") (by decide +kernel)
  have f12 := hts (.fieldLink RX1 12 "ModeDesk$Reader" "row" "LModeDesk$Row;") (by decide +kernel)
  have f50 := hts (.fieldLink RX1 50 "ModeDesk$Tape" "token" "I") (by decide +kernel)
  have f88 := hts (.fieldLink RX1 88 "ModeDesk$Tape" "number" "I") (by decide +kernel)
  have iX1 : ∀ w ∈ wsX10, w ∈ wsX1_readWeight := by decide +kernel
  have iX2 : ∀ w ∈ wsX20, w ∈ wsX1_readWeight := by decide +kernel
  have iX4 : ∀ w ∈ wsX40, w ∈ wsX1_readWeight := by decide +kernel
  unfold mX1_readWeight at h
  refine lv_aload_n hx hb dX1_readWeight_0 rfl (lv_at hl 1 rfl) ?_
  obtain ⟨q1, eq1, h⟩ := e_b h
  refine xv_v (As := []) (rest := []) (ci := 4) (b := ao 0) ⟨hx, hb, hml, hown, hts⟩ hl.1 (kX4_advance l D cA ao tape   _ eq1) (cwV 0 hts gX1_readWeight_X4_advance rfl rfl rfl (by decide +kernel) ⟨Nat.le_of_ble_eq_true rfl, Nat.le_of_ble_eq_true rfl⟩) rfl hK hP hD hS hA 4 rfl rfl rfl [4, 5] rfl (by decide +kernel) rfl (Nat.le_of_ble_eq_true rfl) dX1_readWeight_1 ⟨Nat.zero_le _, Nat.zero_le _⟩ (fun H locs hP hD hS => ?_)
  have hP : va_P D vwCl (wX1X4 cA ad ao rdr rrow q1) H := hP
  have hD : va_D A (wX1X4 cA ad ao rdr rrow q1) := hD
  refine lv_aload_n hx hb dX1_readWeight_4 rfl (lv_at hl 1 rfl) ?_
  refine va_get (D := D) (ci := 4) (v := .int q1.2.2.2.2.2.1) (C := RX4) (T := TX4) (N := 7) hx hb hts iX4 hown hK hP 4 rfl rfl 5 (Nat.le_of_ble_eq_true rfl) f50 (fun _ h9 => h9) rfl dX1_readWeight_5 ?_
  refine lv_iconst (v := 2) hx hb dX1_readWeight_8 (by decide) ?_
  refine lv_icmp_ne (tgt := 26) hx hb dX1_readWeight_9 (by decide) (fun c2 => ?_) (fun c2 => ?_)
  · have h := e_t c2 h
    refine lv_aload_n hx hb dX1_readWeight_26 rfl (lv_at hl 0 rfl) ?_
    refine lv_aload_n hx hb dX1_readWeight_27 rfl (lv_at hl 1 rfl) ?_
    refine lv_iconst (v := 1) hx hb dX1_readWeight_28 (by decide) ?_
    obtain ⟨q3, eq3, h⟩ := e_b h
    refine xv_i0 (As := [.ref (ao 0), .int 1]) (rest := []) (ci := 1) (b := ad 0) ⟨hx, hb, hml, hown, hts⟩ hl.1 (kX1_refuse l D cA ad ao rdr rrow q1 1  _ eq3) (cwV 2 hts gX1_readWeight_X1_refuse rfl rfl rfl (by decide +kernel) ⟨Nat.le_of_ble_eq_true rfl, Nat.le_of_ble_eq_true rfl⟩) rfl hK hP hD hS hA 0 rfl rfl rfl rfl (Nat.le_of_ble_eq_true rfl) dX1_readWeight_29 ⟨Nat.zero_le _, Nat.zero_le _⟩ (fun H locs hP hD hS hnq3 => ?_)
    have hP : va_P D vwCl (wX1X4 cA ad ao q3.2 rrow q1) H := hP
    have hD : va_D A (wX1X4 cA ad ao q3.2 rrow q1) := hD
    obtain rfl := e_s h
    exact hret hP hS hnq3 dX1_readWeight_32
  · have h := e_f (not_not_intro c2) h
    refine lv_aload_n hx hb dX1_readWeight_12 rfl (lv_at hl 0 rfl) ?_
    refine va_get (D := D) (ci := 1) (v := .ref (ad 1)) (C := RX1) (T := TX1) (N := 8) hx hb hts iX1 hown hK hP 0 rfl rfl 0 (Nat.le_of_ble_eq_true rfl) f12 (fun _ h9 => h9) rfl dX1_readWeight_13 ?_
    refine lv_aload_n hx hb dX1_readWeight_16 rfl (lv_at hl 1 rfl) ?_
    refine va_get (D := D) (ci := 4) (v := .int q1.2.2.2.2.2.2) (C := RX4) (T := TX4) (N := 7) hx hb hts iX4 hown hK hP 4 rfl rfl 6 (Nat.le_of_ble_eq_true rfl) f88 (fun _ h9 => h9) rfl dX1_readWeight_17 ?_
    obtain ⟨q4, eq4, h⟩ := e_b h
    refine xv_i (As := [.int q1.2.2.2.2.2.2]) (rest := []) (ci := 2) (b := ad 1) ⟨hx, hb, hml, hown, hts⟩ hl.1 (kX2_has l D cA (fun i => ad (1 + i)) rrow q1.2.2.2.2.2.2  _ eq4) (cwV 1 hts gX1_readWeight_X2_has rfl rfl rfl (by decide +kernel) ⟨Nat.le_of_ble_eq_true rfl, Nat.le_of_ble_eq_true rfl⟩) rfl hK hP hD hS hA 1 rfl rfl rfl [1, 2, 3] rfl (by decide +kernel) rfl (Nat.le_of_ble_eq_true rfl) dX1_readWeight_20 ⟨Nat.zero_le _, Nat.zero_le _⟩ (fun H locs hP hD hS hnq4 => ?_)
    have hP : va_P D vwCl (wX1X4 cA ad ao rdr rrow q1) H := hP
    have hD : va_D A (wX1X4 cA ad ao rdr rrow q1) := hD
    refine lv_if_ne (tgt := 33) hx hb dX1_readWeight_23 (by decide) (fun c5 => ?_) (fun c5 => ?_)
    · have h := e_t c5 h
      refine lv_aload_n hx hb dX1_readWeight_33 rfl (lv_at hl 1 rfl) ?_
      refine va_get (D := D) (ci := 4) (v := .int q1.2.2.2.2.2.2) (C := RX4) (T := TX4) (N := 7) hx hb hts iX4 hown hK hP 4 rfl rfl 6 (Nat.le_of_ble_eq_true rfl) f88 (fun _ h9 => h9) rfl dX1_readWeight_34 ?_
      refine lv_istore_n (lv' := [(2, .int q1.2.2.2.2.2.2), (0, .ref (ad 0)), (1, .ref (ao 0))]) hx hb dX1_readWeight_37 rfl hl (by decide) rfl (fun ls hl => ?_)
      refine lv_aload_n hx hb dX1_readWeight_38 rfl (lv_at hl 2 rfl) ?_
      obtain ⟨q6, eq6, h⟩ := e_b h
      refine xv_v (As := []) (rest := []) (ci := 4) (b := ao 0) ⟨hx, hb, hml, hown, hts⟩ hl.1 (kX4_advance l D cA ao q1   _ eq6) (cwV 0 hts gX1_readWeight_X4_advance rfl rfl rfl (by decide +kernel) ⟨Nat.le_of_ble_eq_true rfl, Nat.le_of_ble_eq_true rfl⟩) rfl hK hP hD hS hA 4 rfl rfl rfl [4, 5] rfl (by decide +kernel) rfl (Nat.le_of_ble_eq_true rfl) dX1_readWeight_39 ⟨Nat.zero_le _, Nat.zero_le _⟩ (fun H locs hP hD hS => ?_)
      have hP : va_P D vwCl (wX1X4 cA ad ao rdr rrow q6) H := hP
      have hD : va_D A (wX1X4 cA ad ao rdr rrow q6) := hD
      refine lv_aload_n hx hb dX1_readWeight_42 rfl (lv_at hl 1 rfl) ?_
      refine lv_aload_n hx hb dX1_readWeight_43 rfl (lv_at hl 2 rfl) ?_
      refine lv_iconst (v := 1) hx hb dX1_readWeight_44 (by decide) ?_
      refine lv_bipush (v := 9) hx hb dX1_readWeight_45 (by decide) ?_
      obtain ⟨q7, eq7, h⟩ := e_b h
      refine xv_i0 (As := [.ref (ao 0), .int 1, .int 9]) (rest := []) (ci := 1) (b := ad 0) ⟨hx, hb, hml, hown, hts⟩ hl.1 (kX1_isNumber l D cA ad ao rdr rrow q6 1 9  _ eq7) (cwV 3 hts gX1_readWeight_X1_isNumber rfl rfl rfl (by decide +kernel) ⟨Nat.le_of_ble_eq_true rfl, Nat.le_of_ble_eq_true rfl⟩) rfl hK hP hD hS hA 0 rfl rfl rfl rfl (Nat.le_of_ble_eq_true rfl) dX1_readWeight_47 ⟨Nat.zero_le _, Nat.zero_le _⟩ (fun H locs hP hD hS hnq7 => ?_)
      have hP : va_P D vwCl (wX1X4 cA ad ao q7.2 rrow q6) H := hP
      have hD : va_D A (wX1X4 cA ad ao q7.2 rrow q6) := hD
      refine lv_if_ne (tgt := 55) hx hb dX1_readWeight_50 (by decide) (fun c8 => ?_) (fun c8 => ?_)
      · have h := e_t c8 h
        refine lv_aload_n hx hb dX1_readWeight_55 rfl (lv_at hl 1 rfl) ?_
        refine va_get (D := D) (ci := 1) (v := .ref (ad 1)) (C := RX1) (T := TX1) (N := 8) hx hb hts iX1 hown hK hP 0 rfl rfl 0 (Nat.le_of_ble_eq_true rfl) f12 (fun _ h9 => h9) rfl dX1_readWeight_56 ?_
        refine va_get (D := D) (ci := 2) (v := .ref (ad 3)) (C := RX2) (T := TX2) (N := 3) hx hb hts iX2 hown hK hP 1 rfl rfl 1 (Nat.le_of_ble_eq_true rfl) f106 (fun _ h9 => h9) rfl dX1_readWeight_59 ?_
        refine lv_iload_n hx hb dX1_readWeight_62 rfl (lv_at hl 0 rfl) ?_
        refine lv_aload_n hx hb dX1_readWeight_63 rfl (lv_at hl 2 rfl) ?_
        refine va_get (D := D) (ci := 4) (v := .int q6.2.2.2.2.2.2) (C := RX4) (T := TX4) (N := 7) hx hb hts iX4 hown hK hP 4 rfl rfl 6 (Nat.le_of_ble_eq_true rfl) f88 (fun _ h9 => h9) rfl dX1_readWeight_64 ?_
        obtain ⟨a9, ea9, na9, h⟩ := e_wr h
        refine xa_iast hx hb hK hP hD hS 3 rfl na9 ea9 dX1_readWeight_67 (fun H locs hP hD hS => ?_)
        have hP : va_P D vwCl (wX1X4 cA ad ao q7.2 (rrow.1, a9, rrow.2.2) q6) H := hP
        have hD : va_D A (wX1X4 cA ad ao q7.2 (rrow.1, a9, rrow.2.2) q6) := hD
        refine lv_aload_n hx hb dX1_readWeight_68 rfl (lv_at hl 2 rfl) ?_
        obtain ⟨q10, eq10, h⟩ := e_b h
        refine xv_v (As := []) (rest := []) (ci := 4) (b := ao 0) ⟨hx, hb, hml, hown, hts⟩ hl.1 (kX4_advance l D cA ao q6   _ eq10) (cwV 0 hts gX1_readWeight_X4_advance rfl rfl rfl (by decide +kernel) ⟨Nat.le_of_ble_eq_true rfl, Nat.le_of_ble_eq_true rfl⟩) rfl hK hP hD hS hA 4 rfl rfl rfl [4, 5] rfl (by decide +kernel) rfl (Nat.le_of_ble_eq_true rfl) dX1_readWeight_69 ⟨Nat.zero_le _, Nat.zero_le _⟩ (fun H locs hP hD hS => ?_)
        have hP : va_P D vwCl (wX1X4 cA ad ao q7.2 (rrow.1, a9, rrow.2.2) q10) H := hP
        have hD : va_D A (wX1X4 cA ad ao q7.2 (rrow.1, a9, rrow.2.2) q10) := hD
        refine lv_iconst (v := 1) hx hb dX1_readWeight_72 (by decide) ?_
        obtain rfl := e_s h
        exact hret hP hS (show narrow .boolean (.int 1) = .int 1 from rfl) dX1_readWeight_73
      · have h := e_f (not_not_intro c8) h
        refine lv_iconst (v := 0) hx hb dX1_readWeight_53 (by decide) ?_
        obtain rfl := e_s h
        exact hret hP hS (show narrow .boolean (.int 0) = .int 0 from rfl) dX1_readWeight_54
    · have h := e_f (not_not_intro c5) h
      refine lv_aload_n hx hb dX1_readWeight_26 rfl (lv_at hl 0 rfl) ?_
      refine lv_aload_n hx hb dX1_readWeight_27 rfl (lv_at hl 1 rfl) ?_
      refine lv_iconst (v := 1) hx hb dX1_readWeight_28 (by decide) ?_
      obtain ⟨q11, eq11, h⟩ := e_b h
      refine xv_i0 (As := [.ref (ao 0), .int 1]) (rest := []) (ci := 1) (b := ad 0) ⟨hx, hb, hml, hown, hts⟩ hl.1 (kX1_refuse l D cA ad ao rdr rrow q1 1  _ eq11) (cwV 2 hts gX1_readWeight_X1_refuse rfl rfl rfl (by decide +kernel) ⟨Nat.le_of_ble_eq_true rfl, Nat.le_of_ble_eq_true rfl⟩) rfl hK hP hD hS hA 0 rfl rfl rfl rfl (Nat.le_of_ble_eq_true rfl) dX1_readWeight_29 ⟨Nat.zero_le _, Nat.zero_le _⟩ (fun H locs hP hD hS hnq11 => ?_)
      have hP : va_P D vwCl (wX1X4 cA ad ao q11.2 rrow q1) H := hP
      have hD : va_D A (wX1X4 cA ad ao q11.2 rrow q1) := hD
      obtain rfl := e_s h
      exact hret hP hS hnq11 dX1_readWeight_32
set_option maxHeartbeats 4000000 in
set_option maxRecDepth 100000 in
theorem kX1_readLine (l : Launch) (D : va_G) (cA : Nat → ClassId) (adK adV : Nat → Nat) (ad : Nat → Nat) (ao : Nat → Nat) (rdr : RdrT) (rrow : RowT) (tape : TapT)  (q : Int32 × RdrT × RowT × TapT) (h : mX1_readLine rdr rrow tape  = some q) : MIe l yX1_readLine wsX1_readLine { frames := 8, cells := 0, slots := 0, locals := 148 } D cA adK adV .boolean [.ref (ad 0), .ref (ao 0)] (wX1X4 cA ad ao rdr rrow tape) (wX1X4 cA ad ao q.2.1 q.2.2.1 q.2.2.2) q.1 := by
  refine MIe.of (cc := cX1_readLine) (maxL := 2) (by decide +kernel) rfl rfl rfl (Nat.le_of_ble_eq_true rfl) ?_
  intro p e s m args below meth c A ls Q hx hb hml hts hown hK hP hD hA hS hE hR hl hret
  have hl : lv_has ls 2 [(0, .ref (ad 0)), (1, .ref (ao 0))] := hl
  unfold mX1_readLine at h
  refine lv_aload_n hx hb dX1_readLine_0 rfl (lv_at hl 1 rfl) ?_
  refine va_ldcS hx hb hown hR.1 dX1_readLine_1 ?_
  obtain ⟨q1, eq1, h⟩ := e_b h
  refine xv_ie (As := [.ref (adK 0)]) (rest := []) (b := ao 0) hE hR ⟨hx, hb, hml, hown, hts⟩ hl.1 (kX4_isWord l D cA adK adV ao tape 0 (by decide) _ eq1) (cwV 1 hts gX1_readLine_X4_isWord rfl rfl rfl (by decide +kernel) ⟨Nat.le_of_ble_eq_true rfl, Nat.le_of_ble_eq_true rfl⟩) rfl hK hP hD hS hA (va_recv hK hP (ci := 4) (q0 := 4) rfl rfl) [4, 5] rfl (by decide +kernel) rfl (Nat.le_of_ble_eq_true rfl) dX1_readLine_3 ⟨Nat.zero_le _, Nat.zero_le _⟩ (fun H locs hP hD hS hnq1 => ?_)
  have hP : va_P D vwCl (wX1X4 cA ad ao rdr rrow tape) H := hP
  have hD : va_D A (wX1X4 cA ad ao rdr rrow tape) := hD
  refine lv_if_eq (tgt := 15) hx hb dX1_readLine_6 (by decide) (fun c2 => ?_) (fun c2 => ?_)
  · have h := e_t c2 h
    refine lv_aload_n hx hb dX1_readLine_15 rfl (lv_at hl 1 rfl) ?_
    refine va_ldcS hx hb hown hR.2.1 dX1_readLine_16 ?_
    obtain ⟨q3, eq3, h⟩ := e_b h
    refine xv_ie (As := [.ref (adK 1)]) (rest := []) (b := ao 0) hE hR ⟨hx, hb, hml, hown, hts⟩ hl.1 (kX4_isWord l D cA adK adV ao tape 1 (by decide) _ eq3) (cwV 1 hts gX1_readLine_X4_isWord rfl rfl rfl (by decide +kernel) ⟨Nat.le_of_ble_eq_true rfl, Nat.le_of_ble_eq_true rfl⟩) rfl hK hP hD hS hA (va_recv hK hP (ci := 4) (q0 := 4) rfl rfl) [4, 5] rfl (by decide +kernel) rfl (Nat.le_of_ble_eq_true rfl) dX1_readLine_18 ⟨Nat.zero_le _, Nat.zero_le _⟩ (fun H locs hP hD hS hnq3 => ?_)
    have hP : va_P D vwCl (wX1X4 cA ad ao rdr rrow tape) H := hP
    have hD : va_D A (wX1X4 cA ad ao rdr rrow tape) := hD
    refine lv_if_eq (tgt := 30) hx hb dX1_readLine_21 (by decide) (fun c4 => ?_) (fun c4 => ?_)
    · have h := e_t c4 h
      refine lv_aload_n hx hb dX1_readLine_30 rfl (lv_at hl 1 rfl) ?_
      refine va_ldcS hx hb hown hR.2.2.1 dX1_readLine_31 ?_
      obtain ⟨q5, eq5, h⟩ := e_b h
      refine xv_ie (As := [.ref (adK 2)]) (rest := []) (b := ao 0) hE hR ⟨hx, hb, hml, hown, hts⟩ hl.1 (kX4_isWord l D cA adK adV ao tape 2 (by decide) _ eq5) (cwV 1 hts gX1_readLine_X4_isWord rfl rfl rfl (by decide +kernel) ⟨Nat.le_of_ble_eq_true rfl, Nat.le_of_ble_eq_true rfl⟩) rfl hK hP hD hS hA (va_recv hK hP (ci := 4) (q0 := 4) rfl rfl) [4, 5] rfl (by decide +kernel) rfl (Nat.le_of_ble_eq_true rfl) dX1_readLine_33 ⟨Nat.zero_le _, Nat.zero_le _⟩ (fun H locs hP hD hS hnq5 => ?_)
      have hP : va_P D vwCl (wX1X4 cA ad ao rdr rrow tape) H := hP
      have hD : va_D A (wX1X4 cA ad ao rdr rrow tape) := hD
      refine lv_if_eq (tgt := 45) hx hb dX1_readLine_36 (by decide) (fun c6 => ?_) (fun c6 => ?_)
      · have h := e_t c6 h
        refine lv_aload_n hx hb dX1_readLine_45 rfl (lv_at hl 1 rfl) ?_
        refine va_ldcS hx hb hown hR.2.2.2.1 dX1_readLine_46 ?_
        obtain ⟨q7, eq7, h⟩ := e_b h
        refine xv_ie (As := [.ref (adK 3)]) (rest := []) (b := ao 0) hE hR ⟨hx, hb, hml, hown, hts⟩ hl.1 (kX4_isWord l D cA adK adV ao tape 3 (by decide) _ eq7) (cwV 1 hts gX1_readLine_X4_isWord rfl rfl rfl (by decide +kernel) ⟨Nat.le_of_ble_eq_true rfl, Nat.le_of_ble_eq_true rfl⟩) rfl hK hP hD hS hA (va_recv hK hP (ci := 4) (q0 := 4) rfl rfl) [4, 5] rfl (by decide +kernel) rfl (Nat.le_of_ble_eq_true rfl) dX1_readLine_48 ⟨Nat.zero_le _, Nat.zero_le _⟩ (fun H locs hP hD hS hnq7 => ?_)
        have hP : va_P D vwCl (wX1X4 cA ad ao rdr rrow tape) H := hP
        have hD : va_D A (wX1X4 cA ad ao rdr rrow tape) := hD
        refine lv_if_eq (tgt := 60) hx hb dX1_readLine_51 (by decide) (fun c8 => ?_) (fun c8 => ?_)
        · have h := e_t c8 h
          refine lv_aload_n hx hb dX1_readLine_60 rfl (lv_at hl 0 rfl) ?_
          refine lv_aload_n hx hb dX1_readLine_61 rfl (lv_at hl 1 rfl) ?_
          refine lv_iconst (v := 1) hx hb dX1_readLine_62 (by decide) ?_
          obtain ⟨q9, eq9, h⟩ := e_b h
          refine xv_i0 (As := [.ref (ao 0), .int 1]) (rest := []) (ci := 1) (b := ad 0) ⟨hx, hb, hml, hown, hts⟩ hl.1 (kX1_refuse l D cA ad ao rdr rrow tape 1  _ eq9) (cwV 2 hts gX1_readLine_X1_refuse rfl rfl rfl (by decide +kernel) ⟨Nat.le_of_ble_eq_true rfl, Nat.le_of_ble_eq_true rfl⟩) rfl hK hP hD hS hA 0 rfl rfl rfl rfl (Nat.le_of_ble_eq_true rfl) dX1_readLine_63 ⟨Nat.zero_le _, Nat.zero_le _⟩ (fun H locs hP hD hS hnq9 => ?_)
          have hP : va_P D vwCl (wX1X4 cA ad ao q9.2 rrow tape) H := hP
          have hD : va_D A (wX1X4 cA ad ao q9.2 rrow tape) := hD
          obtain rfl := e_s h
          exact hret hP hS hnq9 dX1_readLine_66
        · have h := e_f c8 h
          refine lv_aload_n hx hb dX1_readLine_54 rfl (lv_at hl 0 rfl) ?_
          refine lv_aload_n hx hb dX1_readLine_55 rfl (lv_at hl 1 rfl) ?_
          obtain ⟨q10, eq10, h⟩ := e_b h
          refine xv_ie (As := [.ref (ao 0)]) (rest := []) (b := ad 0) hE hR ⟨hx, hb, hml, hown, hts⟩ hl.1 (kX1_readTies l D cA adK adV ad ao rdr rrow tape   _ eq10) (cwV 1 hts gX1_readLine_X1_readTies rfl rfl rfl (by decide +kernel) ⟨Nat.le_of_ble_eq_true rfl, Nat.le_of_ble_eq_true rfl⟩) rfl hK hP hD hS hA (va_recv hK hP (ci := 1) (q0 := 0) rfl rfl) [0, 1, 2, 3, 4, 5] rfl (by decide +kernel) rfl (Nat.le_of_ble_eq_true rfl) dX1_readLine_56 ⟨Nat.zero_le _, Nat.zero_le _⟩ (fun H locs hP hD hS hnq10 => ?_)
          have hP : va_P D vwCl (wX1X4 cA ad ao q10.2.1 rrow q10.2.2) H := hP
          have hD : va_D A (wX1X4 cA ad ao q10.2.1 rrow q10.2.2) := hD
          obtain rfl := e_s h
          exact hret hP hS hnq10 dX1_readLine_59
      · have h := e_f c6 h
        refine lv_aload_n hx hb dX1_readLine_39 rfl (lv_at hl 0 rfl) ?_
        refine lv_aload_n hx hb dX1_readLine_40 rfl (lv_at hl 1 rfl) ?_
        obtain ⟨q11, eq11, h⟩ := e_b h
        refine xv_i0 (As := [.ref (ao 0)]) (rest := []) (ci := 1) (b := ad 0) ⟨hx, hb, hml, hown, hts⟩ hl.1 (kX1_readBlock l D cA ad ao rdr rrow tape   _ eq11) (cwV 1 hts gX1_readLine_X1_readBlock rfl rfl rfl (by decide +kernel) ⟨Nat.le_of_ble_eq_true rfl, Nat.le_of_ble_eq_true rfl⟩) rfl hK hP hD hS hA 0 rfl rfl rfl rfl (Nat.le_of_ble_eq_true rfl) dX1_readLine_41 ⟨Nat.zero_le _, Nat.zero_le _⟩ (fun H locs hP hD hS hnq11 => ?_)
        have hP : va_P D vwCl (wX1X4 cA ad ao q11.2.1 rrow q11.2.2) H := hP
        have hD : va_D A (wX1X4 cA ad ao q11.2.1 rrow q11.2.2) := hD
        obtain rfl := e_s h
        exact hret hP hS hnq11 dX1_readLine_44
    · have h := e_f c4 h
      refine lv_aload_n hx hb dX1_readLine_24 rfl (lv_at hl 0 rfl) ?_
      refine lv_aload_n hx hb dX1_readLine_25 rfl (lv_at hl 1 rfl) ?_
      obtain ⟨q12, eq12, h⟩ := e_b h
      refine xv_i0 (As := [.ref (ao 0)]) (rest := []) (ci := 1) (b := ad 0) ⟨hx, hb, hml, hown, hts⟩ hl.1 (kX1_readWeight l D cA ad ao rdr rrow tape   _ eq12) (cwV 1 hts gX1_readLine_X1_readWeight rfl rfl rfl (by decide +kernel) ⟨Nat.le_of_ble_eq_true rfl, Nat.le_of_ble_eq_true rfl⟩) rfl hK hP hD hS hA 0 rfl rfl rfl rfl (Nat.le_of_ble_eq_true rfl) dX1_readLine_26 ⟨Nat.zero_le _, Nat.zero_le _⟩ (fun H locs hP hD hS hnq12 => ?_)
      have hP : va_P D vwCl (wX1X4 cA ad ao q12.2.1 q12.2.2.1 q12.2.2.2) H := hP
      have hD : va_D A (wX1X4 cA ad ao q12.2.1 q12.2.2.1 q12.2.2.2) := hD
      obtain rfl := e_s h
      exact hret hP hS hnq12 dX1_readLine_29
  · have h := e_f c2 h
    refine lv_aload_n hx hb dX1_readLine_9 rfl (lv_at hl 0 rfl) ?_
    refine lv_aload_n hx hb dX1_readLine_10 rfl (lv_at hl 1 rfl) ?_
    obtain ⟨q13, eq13, h⟩ := e_b h
    refine xv_ie (As := [.ref (ao 0)]) (rest := []) (b := ad 0) hE hR ⟨hx, hb, hml, hown, hts⟩ hl.1 (kX1_readRow l D cA adK adV ad ao rdr rrow tape   _ eq13) (cwV 1 hts gX1_readLine_X1_readRow rfl rfl rfl (by decide +kernel) ⟨Nat.le_of_ble_eq_true rfl, Nat.le_of_ble_eq_true rfl⟩) rfl hK hP hD hS hA (va_recv hK hP (ci := 1) (q0 := 0) rfl rfl) [0, 1, 2, 3, 4, 5] rfl (by decide +kernel) rfl (Nat.le_of_ble_eq_true rfl) dX1_readLine_11 ⟨Nat.zero_le _, Nat.zero_le _⟩ (fun H locs hP hD hS hnq13 => ?_)
    have hP : va_P D vwCl (wX1X4 cA ad ao q13.2.1 q13.2.2.1 q13.2.2.2) H := hP
    have hD : va_D A (wX1X4 cA ad ao q13.2.1 q13.2.2.1 q13.2.2.2) := hD
    obtain rfl := e_s h
    exact hret hP hS hnq13 dX1_readLine_14
set_option maxHeartbeats 4000000 in
set_option maxRecDepth 100000 in
theorem kX4_begin (l : Launch) (D : va_G) (cA : Nat → ClassId) (ad : Nat → Nat) (tape : TapT) (x1 : Int32) (q : TapT) (h : mX4_begin tape x1 = some q) : MV l yX4_begin wsX4_begin { frames := 3, cells := 0, slots := 0, locals := 64 } D cA [.ref (ad 0), .int x1] (wX4 cA ad tape) (wX4 cA ad q) := by
  refine MV.of (cc := cX4_begin) (maxL := 2) (by decide) rfl rfl rfl (Nat.le_of_ble_eq_true rfl) ?_
  intro p e s m args below meth c A ls Q hx hb hml hts hown hK hP hD hA hS hl hret
  have hl : lv_has ls 2 [(0, .ref (ad 0)), (1, .int x1)] := hl
  have f19 := hts (.fieldLink RX4 19 "ModeDesk$Tape" "end" "I") (by decide +kernel)
  have f22 := hts (.fieldLink RX4 22 "ModeDesk$Tape" "at" "I") (by decide +kernel)
  have iX4 : ∀ w ∈ wsX40, w ∈ wsX4_begin := by decide +kernel
  unfold mX4_begin at h
  refine lv_aload_n hx hb dX4_begin_0 rfl (lv_at hl 0 rfl) ?_
  refine lv_iload_n hx hb dX4_begin_1 rfl (lv_at hl 1 rfl) ?_
  refine va_put (D := D) (ci := 4) (v := .int x1) (ty := .int) (C := RX4) (T := TX4) (N := 7) hx hb hts iX4 tyX4 tyX4_ok nmX4 hown hK hP hD hS 0 rfl rfl 2 (Nat.le_of_ble_eq_true rfl) f19 (fun _ h9 => h9) rfl (tyX4_ok 2 (Nat.le_of_ble_eq_true rfl)) rfl rfl (Nat.le_of_ble_eq_true rfl) dX4_begin_2 (fun H locs hP hD hS => ?_)
  have hP : va_P D vwCl (wX4 cA ad (tape.1, tape.2.1, x1, tape.2.2.2.1, tape.2.2.2.2.1, tape.2.2.2.2.2.1, tape.2.2.2.2.2.2)) H := hP
  have hD : va_D A (wX4 cA ad (tape.1, tape.2.1, x1, tape.2.2.2.1, tape.2.2.2.2.1, tape.2.2.2.2.2.1, tape.2.2.2.2.2.2)) := hD
  refine lv_aload_n hx hb dX4_begin_5 rfl (lv_at hl 0 rfl) ?_
  refine lv_iconst (v := 0) hx hb dX4_begin_6 (by decide) ?_
  refine va_put (D := D) (ci := 4) (v := .int 0) (ty := .int) (C := RX4) (T := TX4) (N := 7) hx hb hts iX4 tyX4 tyX4_ok nmX4 hown hK hP hD hS 0 rfl rfl 3 (Nat.le_of_ble_eq_true rfl) f22 (fun _ h9 => h9) rfl (tyX4_ok 3 (Nat.le_of_ble_eq_true rfl)) rfl rfl (Nat.le_of_ble_eq_true rfl) dX4_begin_7 (fun H locs hP hD hS => ?_)
  have hP : va_P D vwCl (wX4 cA ad (tape.1, tape.2.1, x1, 0, tape.2.2.2.2.1, tape.2.2.2.2.2.1, tape.2.2.2.2.2.2)) H := hP
  have hD : va_D A (wX4 cA ad (tape.1, tape.2.1, x1, 0, tape.2.2.2.2.1, tape.2.2.2.2.2.1, tape.2.2.2.2.2.2)) := hD
  refine lv_aload_n hx hb dX4_begin_10 rfl (lv_at hl 0 rfl) ?_
  obtain ⟨q1, eq1, h⟩ := e_b h
  refine xv_v0 (As := []) (rest := []) (ci := 4) (b := ad 0) ⟨hx, hb, hml, hown, hts⟩ hl.1 (kX4_advance l D cA ad (tape.1, tape.2.1, x1, 0, tape.2.2.2.2.1, tape.2.2.2.2.2.1, tape.2.2.2.2.2.2)   _ eq1) (cwV 0 hts gX4_begin_X4_advance rfl rfl rfl (by decide +kernel) ⟨Nat.le_of_ble_eq_true rfl, Nat.le_of_ble_eq_true rfl⟩) rfl hK hP hD hS hA 0 rfl rfl rfl rfl (Nat.le_of_ble_eq_true rfl) dX4_begin_11 ⟨Nat.zero_le _, Nat.zero_le _⟩ (fun H locs hP hD hS => ?_)
  have hP : va_P D vwCl (wX4 cA ad q1) H := hP
  have hD : va_D A (wX4 cA ad q1) := hD
  obtain rfl := e_s h
  exact hret hP hS dX4_begin_14
set_option maxHeartbeats 4000000 in
set_option maxRecDepth 100000 in
theorem kX1_read (l : Launch) (D : va_G) (cA : Nat → ClassId) (adK adV : Nat → Nat) (ad : Nat → Nat) (ao : Nat → Nat) (rdr : RdrT) (rrow : RowT) (tape : TapT) (x2 : Int32) (q : Int32 × RdrT × RowT × TapT) (h : mX1_read rdr rrow tape x2 = some q) : MIe l yX1_read wsX1_read { frames := 9, cells := 0, slots := 0, locals := 169 } D cA adK adV .boolean [.ref (ad 0), .ref (ao 0), .int x2] (wX1X4 cA ad ao rdr rrow tape) (wX1X4 cA ad ao q.2.1 q.2.2.1 q.2.2.2) q.1 := by
  refine MIe.of (cc := cX1_read) (maxL := 4) (by decide +kernel) rfl rfl rfl (Nat.le_of_ble_eq_true rfl) ?_
  intro p e s m args below meth c A ls Q hx hb hml hts hown hK hP hD hA hS hE hR hl hret
  have hl : lv_has ls 4 [(0, .ref (ad 0)), (1, .ref (ao 0)), (2, .int x2)] := hl
  have f12 := hts (.fieldLink RX1 12 "ModeDesk$Reader" "row" "LModeDesk$Row;") (by decide +kernel)
  have f18 := hts (.fieldLink RX1 18 "ModeDesk$Reader" "block" "I") (by decide +kernel)
  have f22 := hts (.fieldLink RX1 22 "ModeDesk$Reader" "ties" "I") (by decide +kernel)
  have f25 := hts (.fieldLink RX1 25 "ModeDesk$Reader" "lines" "I") (by decide +kernel)
  have f28 := hts (.fieldLink RX1 28 "ModeDesk$Reader" "fault" "I") (by decide +kernel)
  have f31 := hts (.fieldLink RX1 31 "ModeDesk$Reader" "faultPlace" "I") (by decide +kernel)
  have f34 := hts (.fieldLink RX1 34 "ModeDesk$Reader" "blockTold" "Z") (by decide +kernel)
  have f38 := hts (.fieldLink RX1 38 "ModeDesk$Reader" "tiesTold" "Z") (by decide +kernel)
  have f41 := hts (.fieldLink RX1 41 "ModeDesk$Row" "size" "I") (by decide +kernel)
  have f50 := hts (.fieldLink RX1 50 "ModeDesk$Tape" "token" "I") (by decide +kernel)
  have iX1 : ∀ w ∈ wsX10, w ∈ wsX1_read := by decide +kernel
  have iX2 : ∀ w ∈ wsX20, w ∈ wsX1_read := by decide +kernel
  have iX4 : ∀ w ∈ wsX40, w ∈ wsX1_read := by decide +kernel
  unfold mX1_read at h
  refine lv_aload_n hx hb dX1_read_0 rfl (lv_at hl 0 rfl) ?_
  refine va_get (D := D) (ci := 1) (v := .ref (ad 1)) (C := RX1) (T := TX1) (N := 8) hx hb hts iX1 hown hK hP 0 rfl rfl 0 (Nat.le_of_ble_eq_true rfl) f12 (fun _ h9 => h9) rfl dX1_read_1 ?_
  refine lv_iconst (v := 0) hx hb dX1_read_4 (by decide) ?_
  refine va_put (D := D) (ci := 2) (v := .int 0) (ty := .int) (C := RX2) (T := TX2) (N := 3) hx hb hts iX2 tyX2 tyX2_ok nmX2 hown hK hP hD hS 1 rfl rfl 2 (Nat.le_of_ble_eq_true rfl) f41 (fun _ h9 => h9) rfl (tyX2_ok 2 (Nat.le_of_ble_eq_true rfl)) rfl rfl (Nat.le_of_ble_eq_true rfl) dX1_read_5 (fun H locs hP hD hS => ?_)
  have hP : va_P D vwCl (wX1X4 cA ad ao rdr (rrow.1, rrow.2.1, 0) tape) H := hP
  have hD : va_D A (wX1X4 cA ad ao rdr (rrow.1, rrow.2.1, 0) tape) := hD
  refine lv_aload_n hx hb dX1_read_8 rfl (lv_at hl 0 rfl) ?_
  refine lv_bipush (v := 8) hx hb dX1_read_9 (by decide) ?_
  refine va_put (D := D) (ci := 1) (v := .int 8) (ty := .int) (C := RX1) (T := TX1) (N := 8) hx hb hts iX1 tyX1 tyX1_ok nmX1 hown hK hP hD hS 0 rfl rfl 1 (Nat.le_of_ble_eq_true rfl) f18 (fun _ h9 => h9) rfl (tyX1_ok 1 (Nat.le_of_ble_eq_true rfl)) rfl rfl (Nat.le_of_ble_eq_true rfl) dX1_read_11 (fun H locs hP hD hS => ?_)
  have hP : va_P D vwCl (wX1X4 cA ad ao (8, rdr.2.1, rdr.2.2.1, rdr.2.2.2.1, rdr.2.2.2.2.1, rdr.2.2.2.2.2.1, rdr.2.2.2.2.2.2) (rrow.1, rrow.2.1, 0) tape) H := hP
  have hD : va_D A (wX1X4 cA ad ao (8, rdr.2.1, rdr.2.2.1, rdr.2.2.2.1, rdr.2.2.2.2.1, rdr.2.2.2.2.2.1, rdr.2.2.2.2.2.2) (rrow.1, rrow.2.1, 0) tape) := hD
  refine lv_aload_n hx hb dX1_read_14 rfl (lv_at hl 0 rfl) ?_
  refine lv_iconst (v := 0) hx hb dX1_read_15 (by decide) ?_
  refine va_put (D := D) (ci := 1) (v := .int 0) (ty := .int) (C := RX1) (T := TX1) (N := 8) hx hb hts iX1 tyX1 tyX1_ok nmX1 hown hK hP hD hS 0 rfl rfl 2 (Nat.le_of_ble_eq_true rfl) f22 (fun _ h9 => h9) rfl (tyX1_ok 2 (Nat.le_of_ble_eq_true rfl)) rfl rfl (Nat.le_of_ble_eq_true rfl) dX1_read_16 (fun H locs hP hD hS => ?_)
  have hP : va_P D vwCl (wX1X4 cA ad ao (8, 0, rdr.2.2.1, rdr.2.2.2.1, rdr.2.2.2.2.1, rdr.2.2.2.2.2.1, rdr.2.2.2.2.2.2) (rrow.1, rrow.2.1, 0) tape) H := hP
  have hD : va_D A (wX1X4 cA ad ao (8, 0, rdr.2.2.1, rdr.2.2.2.1, rdr.2.2.2.2.1, rdr.2.2.2.2.2.1, rdr.2.2.2.2.2.2) (rrow.1, rrow.2.1, 0) tape) := hD
  refine lv_aload_n hx hb dX1_read_19 rfl (lv_at hl 0 rfl) ?_
  refine lv_iconst (v := 0) hx hb dX1_read_20 (by decide) ?_
  refine va_put (D := D) (ci := 1) (v := .int 0) (ty := .int) (C := RX1) (T := TX1) (N := 8) hx hb hts iX1 tyX1 tyX1_ok nmX1 hown hK hP hD hS 0 rfl rfl 3 (Nat.le_of_ble_eq_true rfl) f25 (fun _ h9 => h9) rfl (tyX1_ok 3 (Nat.le_of_ble_eq_true rfl)) rfl rfl (Nat.le_of_ble_eq_true rfl) dX1_read_21 (fun H locs hP hD hS => ?_)
  have hP : va_P D vwCl (wX1X4 cA ad ao (8, 0, 0, rdr.2.2.2.1, rdr.2.2.2.2.1, rdr.2.2.2.2.2.1, rdr.2.2.2.2.2.2) (rrow.1, rrow.2.1, 0) tape) H := hP
  have hD : va_D A (wX1X4 cA ad ao (8, 0, 0, rdr.2.2.2.1, rdr.2.2.2.2.1, rdr.2.2.2.2.2.1, rdr.2.2.2.2.2.2) (rrow.1, rrow.2.1, 0) tape) := hD
  refine lv_aload_n hx hb dX1_read_24 rfl (lv_at hl 0 rfl) ?_
  refine lv_iconst (v := 0) hx hb dX1_read_25 (by decide) ?_
  refine va_put (D := D) (ci := 1) (v := .int 0) (ty := .int) (C := RX1) (T := TX1) (N := 8) hx hb hts iX1 tyX1 tyX1_ok nmX1 hown hK hP hD hS 0 rfl rfl 4 (Nat.le_of_ble_eq_true rfl) f28 (fun _ h9 => h9) rfl (tyX1_ok 4 (Nat.le_of_ble_eq_true rfl)) rfl rfl (Nat.le_of_ble_eq_true rfl) dX1_read_26 (fun H locs hP hD hS => ?_)
  have hP : va_P D vwCl (wX1X4 cA ad ao (8, 0, 0, 0, rdr.2.2.2.2.1, rdr.2.2.2.2.2.1, rdr.2.2.2.2.2.2) (rrow.1, rrow.2.1, 0) tape) H := hP
  have hD : va_D A (wX1X4 cA ad ao (8, 0, 0, 0, rdr.2.2.2.2.1, rdr.2.2.2.2.2.1, rdr.2.2.2.2.2.2) (rrow.1, rrow.2.1, 0) tape) := hD
  refine lv_aload_n hx hb dX1_read_29 rfl (lv_at hl 0 rfl) ?_
  refine lv_iconst (v := (-1)) hx hb dX1_read_30 (by decide) ?_
  refine va_put (D := D) (ci := 1) (v := .int (-1)) (ty := .int) (C := RX1) (T := TX1) (N := 8) hx hb hts iX1 tyX1 tyX1_ok nmX1 hown hK hP hD hS 0 rfl rfl 5 (Nat.le_of_ble_eq_true rfl) f31 (fun _ h9 => h9) rfl (tyX1_ok 5 (Nat.le_of_ble_eq_true rfl)) rfl rfl (Nat.le_of_ble_eq_true rfl) dX1_read_31 (fun H locs hP hD hS => ?_)
  have hP : va_P D vwCl (wX1X4 cA ad ao (8, 0, 0, 0, (-1), rdr.2.2.2.2.2.1, rdr.2.2.2.2.2.2) (rrow.1, rrow.2.1, 0) tape) H := hP
  have hD : va_D A (wX1X4 cA ad ao (8, 0, 0, 0, (-1), rdr.2.2.2.2.2.1, rdr.2.2.2.2.2.2) (rrow.1, rrow.2.1, 0) tape) := hD
  refine lv_aload_n hx hb dX1_read_34 rfl (lv_at hl 0 rfl) ?_
  refine lv_iconst (v := 0) hx hb dX1_read_35 (by decide) ?_
  refine va_put (D := D) (ci := 1) (v := .int 0) (ty := .boolean) (C := RX1) (T := TX1) (N := 8) hx hb hts iX1 tyX1 tyX1_ok nmX1 hown hK hP hD hS 0 rfl rfl 6 (Nat.le_of_ble_eq_true rfl) f34 (fun _ h9 => h9) rfl (tyX1_ok 6 (Nat.le_of_ble_eq_true rfl)) rfl rfl (Nat.le_of_ble_eq_true rfl) dX1_read_36 (fun H locs hP hD hS => ?_)
  have hP : va_P D vwCl (wX1X4 cA ad ao (8, 0, 0, 0, (-1), 0, rdr.2.2.2.2.2.2) (rrow.1, rrow.2.1, 0) tape) H := hP
  have hD : va_D A (wX1X4 cA ad ao (8, 0, 0, 0, (-1), 0, rdr.2.2.2.2.2.2) (rrow.1, rrow.2.1, 0) tape) := hD
  refine lv_aload_n hx hb dX1_read_39 rfl (lv_at hl 0 rfl) ?_
  refine lv_iconst (v := 0) hx hb dX1_read_40 (by decide) ?_
  refine va_put (D := D) (ci := 1) (v := .int 0) (ty := .boolean) (C := RX1) (T := TX1) (N := 8) hx hb hts iX1 tyX1 tyX1_ok nmX1 hown hK hP hD hS 0 rfl rfl 7 (Nat.le_of_ble_eq_true rfl) f38 (fun _ h9 => h9) rfl (tyX1_ok 7 (Nat.le_of_ble_eq_true rfl)) rfl rfl (Nat.le_of_ble_eq_true rfl) dX1_read_41 (fun H locs hP hD hS => ?_)
  have hP : va_P D vwCl (wX1X4 cA ad ao (8, 0, 0, 0, (-1), 0, 0) (rrow.1, rrow.2.1, 0) tape) H := hP
  have hD : va_D A (wX1X4 cA ad ao (8, 0, 0, 0, (-1), 0, 0) (rrow.1, rrow.2.1, 0) tape) := hD
  refine lv_aload_n hx hb dX1_read_44 rfl (lv_at hl 1 rfl) ?_
  refine lv_iload_n hx hb dX1_read_45 rfl (lv_at hl 2 rfl) ?_
  obtain ⟨q1, eq1, h⟩ := e_b h
  refine xv_v (As := [.int x2]) (rest := []) (ci := 4) (b := ao 0) ⟨hx, hb, hml, hown, hts⟩ hl.1 (kX4_begin l D cA ao tape x2  _ eq1) (cwV 1 hts gX1_read_X4_begin rfl rfl rfl (by decide +kernel) ⟨Nat.le_of_ble_eq_true rfl, Nat.le_of_ble_eq_true rfl⟩) rfl hK hP hD hS hA 4 rfl rfl rfl [4, 5] rfl (by decide +kernel) rfl (Nat.le_of_ble_eq_true rfl) dX1_read_46 ⟨Nat.zero_le _, Nat.zero_le _⟩ (fun H locs hP hD hS => ?_)
  have hP : va_P D vwCl (wX1X4 cA ad ao (8, 0, 0, 0, (-1), 0, 0) (rrow.1, rrow.2.1, 0) q1) H := hP
  have hD : va_D A (wX1X4 cA ad ao (8, 0, 0, 0, (-1), 0, 0) (rrow.1, rrow.2.1, 0) q1) := hD
  refine lv_iconst (v := 0) hx hb dX1_read_49 (by decide) ?_
  refine lv_istore_n (lv' := [(3, .int 0), (0, .ref (ad 0)), (1, .ref (ao 0)), (2, .int x2)]) hx hb dX1_read_50 rfl hl (by decide) rfl (fun ls hl => ?_)
  have hL51 : ∀ (n : Nat) (x2 : Int32) (x3 : Int32) (rdr : RdrT) (rrow : RowT) (tape : TapT) (ls : Array Slot) (H : Heap) (locs : List Loc), lv_has ls 4 [(0, .ref (ad 0)), (1, .ref (ao 0)), (2, .int x2), (3, .int x3)] → va_P D vwCl (wX1X4 cA ad ao rdr rrow tape) H → va_D A (wX1X4 cA ad ao rdr rrow tape) → va_S A s.heap H locs → mX1_read_L51 x2 n x3 rdr rrow tape = some q → W p l e (headSpec wsX1_read { frames := 9, cells := 0, slots := 0, locals := 169 }).room s m args below meth c H locs 0 0 Q (F0 m 51 ls []) := by
    intro n
    induction n with
    | zero => intro x2 x3 rdr rrow tape ls H locs hl hP hD hS h; exact e_n h
    | succ n ih51 =>
      intro x2 x3 rdr rrow tape ls H locs hl hP hD hS h
      rw [mX1_read_L51.eq_2] at h
      refine lv_iload_n hx hb dX1_read_51 rfl (lv_at hl 3 rfl) ?_
      refine lv_iload_n hx hb dX1_read_52 rfl (lv_at hl 2 rfl) ?_
      refine lv_icmp_gt (tgt := 97) hx hb dX1_read_53 (by decide) (fun c3 => ?_) (fun c3 => ?_)
      · have h := e_t c3 h
        refine lv_iconst (v := 1) hx hb dX1_read_97 (by decide) ?_
        obtain rfl := e_s h
        exact hret hP hS (show narrow .boolean (.int 1) = .int 1 from rfl) dX1_read_98
      · have h := e_f c3 h
        refine lv_aload_n hx hb dX1_read_56 rfl (lv_at hl 1 rfl) ?_
        refine va_get (D := D) (ci := 4) (v := .int tape.2.2.2.2.2.1) (C := RX4) (T := TX4) (N := 7) hx hb hts iX4 hown hK hP 4 rfl rfl 5 (Nat.le_of_ble_eq_true rfl) f50 (fun _ h9 => h9) rfl dX1_read_57 ?_
        refine lv_if_eq (tgt := 97) hx hb dX1_read_60 (by decide) (fun c4 => ?_) (fun c4 => ?_)
        · have h := e_t c4 h
          refine lv_iconst (v := 1) hx hb dX1_read_97 (by decide) ?_
          obtain rfl := e_s h
          exact hret hP hS (show narrow .boolean (.int 1) = .int 1 from rfl) dX1_read_98
        · have h := e_f c4 h
          refine lv_aload_n hx hb dX1_read_63 rfl (lv_at hl 0 rfl) ?_
          refine lv_aload_n hx hb dX1_read_64 rfl (lv_at hl 1 rfl) ?_
          obtain ⟨q5, eq5, h⟩ := e_b h
          refine xv_ie (As := [.ref (ao 0)]) (rest := []) (b := ad 0) hE hR ⟨hx, hb, hml, hown, hts⟩ hl.1 (kX1_readLine l D cA adK adV ad ao rdr rrow tape   _ eq5) (cwV 1 hts gX1_read_X1_readLine rfl rfl rfl (by decide +kernel) ⟨Nat.le_of_ble_eq_true rfl, Nat.le_of_ble_eq_true rfl⟩) rfl hK hP hD hS hA (va_recv hK hP (ci := 1) (q0 := 0) rfl rfl) [0, 1, 2, 3, 4, 5] rfl (by decide +kernel) rfl (Nat.le_of_ble_eq_true rfl) dX1_read_65 ⟨Nat.zero_le _, Nat.zero_le _⟩ (fun H locs hP hD hS hnq5 => ?_)
          have hP : va_P D vwCl (wX1X4 cA ad ao q5.2.1 q5.2.2.1 q5.2.2.2) H := hP
          have hD : va_D A (wX1X4 cA ad ao q5.2.1 q5.2.2.1 q5.2.2.2) := hD
          refine lv_if_eq (tgt := 79) hx hb dX1_read_68 (by decide) (fun c6 => ?_) (fun c6 => ?_)
          · have h := e_t c6 h
            refine lv_iconst (v := 0) hx hb dX1_read_79 (by decide) ?_
            obtain rfl := e_s h
            exact hret hP hS (show narrow .boolean (.int 0) = .int 0 from rfl) dX1_read_80
          · have h := e_f c6 h
            refine lv_aload_n hx hb dX1_read_71 rfl (lv_at hl 0 rfl) ?_
            refine lv_aload_n hx hb dX1_read_72 rfl (lv_at hl 1 rfl) ?_
            obtain ⟨q7, eq7, h⟩ := e_b h
            refine xv_i0 (As := [.ref (ao 0)]) (rest := []) (ci := 1) (b := ad 0) ⟨hx, hb, hml, hown, hts⟩ hl.1 (kX1_readEnd l D cA ad ao q5.2.1 q5.2.2.1 q5.2.2.2   _ eq7) (cwV 1 hts gX1_read_X1_readEnd rfl rfl rfl (by decide +kernel) ⟨Nat.le_of_ble_eq_true rfl, Nat.le_of_ble_eq_true rfl⟩) rfl hK hP hD hS hA 0 rfl rfl rfl rfl (Nat.le_of_ble_eq_true rfl) dX1_read_73 ⟨Nat.zero_le _, Nat.zero_le _⟩ (fun H locs hP hD hS hnq7 => ?_)
            have hP : va_P D vwCl (wX1X4 cA ad ao q7.2.1 q5.2.2.1 q7.2.2) H := hP
            have hD : va_D A (wX1X4 cA ad ao q7.2.1 q5.2.2.1 q7.2.2) := hD
            refine lv_if_ne (tgt := 81) hx hb dX1_read_76 (by decide) (fun c8 => ?_) (fun c8 => ?_)
            · have h := e_t c8 h
              refine lv_aload_n hx hb dX1_read_81 rfl (lv_at hl 0 rfl) ?_
              refine lv_dup hx hb dX1_read_82 rfl ?_
              refine va_get (D := D) (ci := 1) (v := .int q7.2.1.2.2.1) (C := RX1) (T := TX1) (N := 8) hx hb hts iX1 hown hK hP 0 rfl rfl 3 (Nat.le_of_ble_eq_true rfl) f25 (fun _ h9 => h9) rfl dX1_read_83 ?_
              refine lv_iconst (v := 1) hx hb dX1_read_86 (by decide) ?_
              refine lv_iadd hx hb dX1_read_87 ?_
              refine va_put (D := D) (ci := 1) (v := .int (q7.2.1.2.2.1 + 1)) (ty := .int) (C := RX1) (T := TX1) (N := 8) hx hb hts iX1 tyX1 tyX1_ok nmX1 hown hK hP hD hS 0 rfl rfl 3 (Nat.le_of_ble_eq_true rfl) f25 (fun _ h9 => h9) rfl (tyX1_ok 3 (Nat.le_of_ble_eq_true rfl)) rfl rfl (Nat.le_of_ble_eq_true rfl) dX1_read_88 (fun H locs hP hD hS => ?_)
              have hP : va_P D vwCl (wX1X4 cA ad ao (q7.2.1.1, q7.2.1.2.1, (q7.2.1.2.2.1 + 1), q7.2.1.2.2.2.1, q7.2.1.2.2.2.2.1, q7.2.1.2.2.2.2.2.1, q7.2.1.2.2.2.2.2.2) q5.2.2.1 q7.2.2) H := hP
              have hD : va_D A (wX1X4 cA ad ao (q7.2.1.1, q7.2.1.2.1, (q7.2.1.2.2.1 + 1), q7.2.1.2.2.2.1, q7.2.1.2.2.2.2.1, q7.2.1.2.2.2.2.2.1, q7.2.1.2.2.2.2.2.2) q5.2.2.1 q7.2.2) := hD
              refine lv_iinc (v := (x3 + 1)) (lv' := [(3, .int (x3 + 1)), (0, .ref (ad 0)), (1, .ref (ao 0)), (2, .int x2)]) hx hb dX1_read_91 hl (k := 3) rfl rfl (by decide) rfl (fun ls hl => ?_)
              refine lv_goto (tgt := 51) hx hb dX1_read_94 (by decide) ?_
              exact ih51 x2 (x3 + 1) (q7.2.1.1, q7.2.1.2.1, (q7.2.1.2.2.1 + 1), q7.2.1.2.2.2.1, q7.2.1.2.2.2.2.1, q7.2.1.2.2.2.2.2.1, q7.2.1.2.2.2.2.2.2) q5.2.2.1 q7.2.2 _ _ _ (lv_sub hl [1, 2, 3, 0] rfl) hP hD hS h
            · have h := e_f (not_not_intro c8) h
              refine lv_iconst (v := 0) hx hb dX1_read_79 (by decide) ?_
              obtain rfl := e_s h
              exact hret hP hS (show narrow .boolean (.int 0) = .int 0 from rfl) dX1_read_80
  exact hL51 FU x2 0 (8, 0, 0, 0, (-1), 0, 0) (rrow.1, rrow.2.1, 0) q1 _ _ _ (lv_sub hl [1, 2, 3, 0] rfl) hP hD hS h
set_option maxHeartbeats 4000000 in
set_option maxRecDepth 100000 in
theorem kX2_hasSpan (l : Launch) (D : va_G) (cA : Nat → ClassId) (ad : Nat → Nat) (t : RowT) (x1 : Int32) (x2 : Int32) (q : Int32) (h : mX2_hasSpan t x1 x2 = some q) : MI l yX2_hasSpan wsX2_hasSpan { frames := 0, cells := 0, slots := 0, locals := 0 } D cA .boolean [.ref (ad 0), .int x1, .int x2] (wX2 cA ad t) (wX2 cA ad t) q := by
  refine MI.of (cc := cX2_hasSpan) (maxL := 3) (by decide +kernel) rfl rfl rfl (Nat.le_of_ble_eq_true rfl) ?_
  intro p e s m args below meth c A ls Q hx hb hml hts hown hK hP hD hA hS hl hret
  have hl : lv_has ls 3 [(0, .ref (ad 0)), (1, .int x1), (2, .int x2)] := hl
  have f18 := hts (.fieldLink RX2 18 "ModeDesk$Row" "size" "I") (by decide +kernel)
  have iX2 : ∀ w ∈ wsX20, w ∈ wsX2_hasSpan := by decide +kernel
  unfold mX2_hasSpan at h
  refine lv_iload_n hx hb dX2_hasSpan_0 rfl (lv_at hl 1 rfl) ?_
  refine lv_if_lt (tgt := 21) hx hb dX2_hasSpan_1 (by decide) (fun c1 => ?_) (fun c1 => ?_)
  · have h := e_t c1 h
    refine lv_iconst (v := 0) hx hb dX2_hasSpan_21 (by decide) ?_
    obtain rfl := e_s h
    exact hret hP hS (show narrow .boolean (.int 0) = .int 0 from rfl) dX2_hasSpan_22
  · have h := e_f c1 h
    refine lv_iload_n hx hb dX2_hasSpan_4 rfl (lv_at hl 1 rfl) ?_
    refine lv_iload_n hx hb dX2_hasSpan_5 rfl (lv_at hl 2 rfl) ?_
    refine lv_icmp_gt (tgt := 21) hx hb dX2_hasSpan_6 (by decide) (fun c2 => ?_) (fun c2 => ?_)
    · have h := e_t c2 h
      refine lv_iconst (v := 0) hx hb dX2_hasSpan_21 (by decide) ?_
      obtain rfl := e_s h
      exact hret hP hS (show narrow .boolean (.int 0) = .int 0 from rfl) dX2_hasSpan_22
    · have h := e_f c2 h
      refine lv_iload_n hx hb dX2_hasSpan_9 rfl (lv_at hl 2 rfl) ?_
      refine lv_aload_n hx hb dX2_hasSpan_10 rfl (lv_at hl 0 rfl) ?_
      refine va_get (D := D) (ci := 2) (v := .int t.2.2) (C := RX2) (T := TX2) (N := 3) hx hb hts iX2 hown hK hP 0 rfl rfl 2 (Nat.le_of_ble_eq_true rfl) f18 (fun _ h9 => h9) rfl dX2_hasSpan_11 ?_
      refine lv_icmp_ge (tgt := 21) hx hb dX2_hasSpan_14 (by decide) (fun c3 => ?_) (fun c3 => ?_)
      · have h := e_t c3 h
        refine lv_iconst (v := 0) hx hb dX2_hasSpan_21 (by decide) ?_
        obtain rfl := e_s h
        exact hret hP hS (show narrow .boolean (.int 0) = .int 0 from rfl) dX2_hasSpan_22
      · have h := e_f c3 h
        refine lv_iconst (v := 1) hx hb dX2_hasSpan_17 (by decide) ?_
        refine lv_goto (tgt := 22) hx hb dX2_hasSpan_18 (by decide) ?_
        obtain rfl := e_s h
        exact hret hP hS (show narrow .boolean (.int 1) = .int 1 from rfl) dX2_hasSpan_22
set_option maxHeartbeats 4000000 in
set_option maxRecDepth 100000 in
theorem kX2_isLike (l : Launch) (D : va_G) (cA : Nat → ClassId) (ad : Nat → Nat) (ao : Nat → Nat) (t : RowT) (o : RowT)  (q : Int32) (h : mX2_isLike t o  = some q) : MI l yX2_isLike wsX2_isLike { frames := 0, cells := 0, slots := 0, locals := 0 } D cA .boolean [.ref (ad 0), .ref (ao 0)] (wX2X2 cA ad ao t o) (wX2X2 cA ad ao t o) q := by
  refine MI.of (cc := cX2_isLike) (maxL := 3) (by decide +kernel) rfl rfl rfl (Nat.le_of_ble_eq_true rfl) ?_
  intro p e s m args below meth c A ls Q hx hb hml hts hown hK hP hD hA hS hl hret
  have hl : lv_has ls 3 [(0, .ref (ad 0)), (1, .ref (ao 0))] := hl
  have f15 := hts (.fieldLink RX2 15 "ModeDesk$Row" "weights" "[I") (by decide +kernel)
  have f18 := hts (.fieldLink RX2 18 "ModeDesk$Row" "size" "I") (by decide +kernel)
  have f9 := hts (.fieldLink RX2 9 "ModeDesk$Row" "values" "[I") (by decide +kernel)
  have iX2 : ∀ w ∈ wsX20, w ∈ wsX2_isLike := by decide +kernel
  unfold mX2_isLike at h
  refine lv_aload_n hx hb dX2_isLike_0 rfl (lv_at hl 0 rfl) ?_
  refine va_get (D := D) (ci := 2) (v := .int t.2.2) (C := RX2) (T := TX2) (N := 3) hx hb hts iX2 hown hK hP 0 rfl rfl 2 (Nat.le_of_ble_eq_true rfl) f18 (fun _ h9 => h9) rfl dX2_isLike_1 ?_
  refine lv_aload_n hx hb dX2_isLike_4 rfl (lv_at hl 1 rfl) ?_
  refine va_get (D := D) (ci := 2) (v := .int o.2.2) (C := RX2) (T := TX2) (N := 3) hx hb hts iX2 hown hK hP 3 rfl rfl 2 (Nat.le_of_ble_eq_true rfl) f18 (fun _ h9 => h9) rfl dX2_isLike_5 ?_
  refine lv_icmp_eq (tgt := 13) hx hb dX2_isLike_8 (by decide) (fun c1 => ?_) (fun c1 => ?_)
  · have h := e_t c1 h
    refine lv_iconst (v := 0) hx hb dX2_isLike_13 (by decide) ?_
    refine lv_istore_n (lv' := [(2, .int 0), (0, .ref (ad 0)), (1, .ref (ao 0))]) hx hb dX2_isLike_14 rfl hl (by decide) rfl (fun ls hl => ?_)
    have hL15 : ∀ (n : Nat) (x2 : Int32) (ls : Array Slot) (H : Heap) (locs : List Loc), lv_has ls 3 [(0, .ref (ad 0)), (1, .ref (ao 0)), (2, .int x2)] → va_P D vwCl (wX2X2 cA ad ao t o) H → va_D A (wX2X2 cA ad ao t o) → va_S A s.heap H locs → mX2_isLike_L15 t o n x2 = some q → W p l e (headSpec wsX2_isLike { frames := 0, cells := 0, slots := 0, locals := 0 }).room s m args below meth c H locs 0 0 Q (F0 m 15 ls []) := by
      intro n
      induction n with
      | zero => intro x2 ls H locs hl hP hD hS h; exact e_n h
      | succ n ih15 =>
        intro x2 ls H locs hl hP hD hS h
        rw [mX2_isLike_L15.eq_2] at h
        refine lv_iload_n hx hb dX2_isLike_15 rfl (lv_at hl 2 rfl) ?_
        refine lv_aload_n hx hb dX2_isLike_16 rfl (lv_at hl 0 rfl) ?_
        refine va_get (D := D) (ci := 2) (v := .int t.2.2) (C := RX2) (T := TX2) (N := 3) hx hb hts iX2 hown hK hP 0 rfl rfl 2 (Nat.le_of_ble_eq_true rfl) f18 (fun _ h9 => h9) rfl dX2_isLike_17 ?_
        refine lv_icmp_ge (tgt := 61) hx hb dX2_isLike_20 (by decide) (fun c3 => ?_) (fun c3 => ?_)
        · have h := e_t c3 h
          refine lv_iconst (v := 1) hx hb dX2_isLike_61 (by decide) ?_
          obtain rfl := e_s h
          exact hret hP hS (show narrow .boolean (.int 1) = .int 1 from rfl) dX2_isLike_62
        · have h := e_f c3 h
          refine lv_aload_n hx hb dX2_isLike_23 rfl (lv_at hl 0 rfl) ?_
          refine va_get (D := D) (ci := 2) (v := .ref (ad 1)) (C := RX2) (T := TX2) (N := 3) hx hb hts iX2 hown hK hP 0 rfl rfl 0 (Nat.le_of_ble_eq_true rfl) f9 (fun _ h9 => h9) rfl dX2_isLike_24 ?_
          refine lv_iload_n hx hb dX2_isLike_27 rfl (lv_at hl 2 rfl) ?_
          obtain ⟨v4, ev4, nv4, h⟩ := e_rd h
          refine xa_iald hx hb hK hP 1 rfl nv4 ev4 dX2_isLike_28 ?_
          refine lv_aload_n hx hb dX2_isLike_29 rfl (lv_at hl 1 rfl) ?_
          refine va_get (D := D) (ci := 2) (v := .ref (ao 1)) (C := RX2) (T := TX2) (N := 3) hx hb hts iX2 hown hK hP 3 rfl rfl 0 (Nat.le_of_ble_eq_true rfl) f9 (fun _ h9 => h9) rfl dX2_isLike_30 ?_
          refine lv_iload_n hx hb dX2_isLike_33 rfl (lv_at hl 2 rfl) ?_
          obtain ⟨v5, ev5, nv5, h⟩ := e_rd h
          refine xa_iald hx hb hK hP 4 rfl nv5 ev5 dX2_isLike_34 ?_
          refine lv_icmp_ne (tgt := 53) hx hb dX2_isLike_35 (by decide) (fun c6 => ?_) (fun c6 => ?_)
          · have h := e_t c6 h
            refine lv_iconst (v := 0) hx hb dX2_isLike_53 (by decide) ?_
            obtain rfl := e_s h
            exact hret hP hS (show narrow .boolean (.int 0) = .int 0 from rfl) dX2_isLike_54
          · have h := e_f (not_not_intro c6) h
            refine lv_aload_n hx hb dX2_isLike_38 rfl (lv_at hl 0 rfl) ?_
            refine va_get (D := D) (ci := 2) (v := .ref (ad 2)) (C := RX2) (T := TX2) (N := 3) hx hb hts iX2 hown hK hP 0 rfl rfl 1 (Nat.le_of_ble_eq_true rfl) f15 (fun _ h9 => h9) rfl dX2_isLike_39 ?_
            refine lv_iload_n hx hb dX2_isLike_42 rfl (lv_at hl 2 rfl) ?_
            obtain ⟨v7, ev7, nv7, h⟩ := e_rd h
            refine xa_iald hx hb hK hP 2 rfl nv7 ev7 dX2_isLike_43 ?_
            refine lv_aload_n hx hb dX2_isLike_44 rfl (lv_at hl 1 rfl) ?_
            refine va_get (D := D) (ci := 2) (v := .ref (ao 2)) (C := RX2) (T := TX2) (N := 3) hx hb hts iX2 hown hK hP 3 rfl rfl 1 (Nat.le_of_ble_eq_true rfl) f15 (fun _ h9 => h9) rfl dX2_isLike_45 ?_
            refine lv_iload_n hx hb dX2_isLike_48 rfl (lv_at hl 2 rfl) ?_
            obtain ⟨v8, ev8, nv8, h⟩ := e_rd h
            refine xa_iald hx hb hK hP 5 rfl nv8 ev8 dX2_isLike_49 ?_
            refine lv_icmp_eq (tgt := 55) hx hb dX2_isLike_50 (by decide) (fun c9 => ?_) (fun c9 => ?_)
            · have h := e_t c9 h
              refine lv_iinc (v := (x2 + 1)) (lv' := [(2, .int (x2 + 1)), (0, .ref (ad 0)), (1, .ref (ao 0))]) hx hb dX2_isLike_55 hl (k := 2) rfl rfl (by decide) rfl (fun ls hl => ?_)
              refine lv_goto (tgt := 15) hx hb dX2_isLike_58 (by decide) ?_
              exact ih15 (x2 + 1) _ _ _ (lv_sub hl [1, 2, 0] rfl) hP hD hS h
            · have h := e_f c9 h
              refine lv_iconst (v := 0) hx hb dX2_isLike_53 (by decide) ?_
              obtain rfl := e_s h
              exact hret hP hS (show narrow .boolean (.int 0) = .int 0 from rfl) dX2_isLike_54
    exact hL15 FU 0 _ _ _ (lv_sub hl [1, 2, 0] rfl) hP hD hS h
  · have h := e_f c1 h
    refine lv_iconst (v := 0) hx hb dX2_isLike_11 (by decide) ?_
    obtain rfl := e_s h
    exact hret hP hS (show narrow .boolean (.int 0) = .int 0 from rfl) dX2_isLike_12
set_option maxHeartbeats 4000000 in
set_option maxRecDepth 100000 in
theorem kX2_isOtherThan (l : Launch) (D : va_G) (cA : Nat → ClassId) (ad : Nat → Nat) (ao : Nat → Nat) (t : RowT) (o : RowT) (x2 : Int32) (q : Int32) (h : mX2_isOtherThan t o x2 = some q) : MI l yX2_isOtherThan wsX2_isOtherThan { frames := 0, cells := 0, slots := 0, locals := 0 } D cA .boolean [.ref (ad 0), .ref (ao 0), .int x2] (wX2X2 cA ad ao t o) (wX2X2 cA ad ao t o) q := by
  refine MI.of (cc := cX2_isOtherThan) (maxL := 3) (by decide +kernel) rfl rfl rfl (Nat.le_of_ble_eq_true rfl) ?_
  intro p e s m args below meth c A ls Q hx hb hml hts hown hK hP hD hA hS hl hret
  have hl : lv_has ls 3 [(0, .ref (ad 0)), (1, .ref (ao 0)), (2, .int x2)] := hl
  have f18 := hts (.fieldLink RX2 18 "ModeDesk$Row" "size" "I") (by decide +kernel)
  have f9 := hts (.fieldLink RX2 9 "ModeDesk$Row" "values" "[I") (by decide +kernel)
  have iX2 : ∀ w ∈ wsX20, w ∈ wsX2_isOtherThan := by decide +kernel
  unfold mX2_isOtherThan at h
  refine lv_iload_n hx hb dX2_isOtherThan_0 rfl (lv_at hl 2 rfl) ?_
  refine lv_aload_n hx hb dX2_isOtherThan_1 rfl (lv_at hl 1 rfl) ?_
  refine va_get (D := D) (ci := 2) (v := .int o.2.2) (C := RX2) (T := TX2) (N := 3) hx hb hts iX2 hown hK hP 3 rfl rfl 2 (Nat.le_of_ble_eq_true rfl) f18 (fun _ h9 => h9) rfl dX2_isOtherThan_2 ?_
  refine lv_icmp_ge (tgt := 23) hx hb dX2_isOtherThan_5 (by decide) (fun c1 => ?_) (fun c1 => ?_)
  · have h := e_t c1 h
    refine lv_iconst (v := 1) hx hb dX2_isOtherThan_23 (by decide) ?_
    refine lv_goto (tgt := 28) hx hb dX2_isOtherThan_24 (by decide) ?_
    obtain rfl := e_s h
    exact hret hP hS (show narrow .boolean (.int 1) = .int 1 from rfl) dX2_isOtherThan_28
  · have h := e_f c1 h
    refine lv_aload_n hx hb dX2_isOtherThan_8 rfl (lv_at hl 0 rfl) ?_
    refine va_get (D := D) (ci := 2) (v := .ref (ad 1)) (C := RX2) (T := TX2) (N := 3) hx hb hts iX2 hown hK hP 0 rfl rfl 0 (Nat.le_of_ble_eq_true rfl) f9 (fun _ h9 => h9) rfl dX2_isOtherThan_9 ?_
    refine lv_iload_n hx hb dX2_isOtherThan_12 rfl (lv_at hl 2 rfl) ?_
    obtain ⟨v2, ev2, nv2, h⟩ := e_rd h
    refine xa_iald hx hb hK hP 1 rfl nv2 ev2 dX2_isOtherThan_13 ?_
    refine lv_aload_n hx hb dX2_isOtherThan_14 rfl (lv_at hl 1 rfl) ?_
    refine va_get (D := D) (ci := 2) (v := .ref (ao 1)) (C := RX2) (T := TX2) (N := 3) hx hb hts iX2 hown hK hP 3 rfl rfl 0 (Nat.le_of_ble_eq_true rfl) f9 (fun _ h9 => h9) rfl dX2_isOtherThan_15 ?_
    refine lv_iload_n hx hb dX2_isOtherThan_18 rfl (lv_at hl 2 rfl) ?_
    obtain ⟨v3, ev3, nv3, h⟩ := e_rd h
    refine xa_iald hx hb hK hP 4 rfl nv3 ev3 dX2_isOtherThan_19 ?_
    refine lv_icmp_eq (tgt := 27) hx hb dX2_isOtherThan_20 (by decide) (fun c4 => ?_) (fun c4 => ?_)
    · have h := e_t c4 h
      refine lv_iconst (v := 0) hx hb dX2_isOtherThan_27 (by decide) ?_
      obtain rfl := e_s h
      exact hret hP hS (show narrow .boolean (.int 0) = .int 0 from rfl) dX2_isOtherThan_28
    · have h := e_f c4 h
      refine lv_iconst (v := 1) hx hb dX2_isOtherThan_23 (by decide) ?_
      refine lv_goto (tgt := 28) hx hb dX2_isOtherThan_24 (by decide) ?_
      obtain rfl := e_s h
      exact hret hP hS (show narrow .boolean (.int 1) = .int 1 from rfl) dX2_isOtherThan_28
set_option maxHeartbeats 4000000 in
set_option maxRecDepth 100000 in
theorem kX2_close (l : Launch) (D : va_G) (cA : Nat → ClassId) (ad : Nat → Nat) (t : RowT) (x1 : Int32) (q : RowT) (h : mX2_close t x1 = some q) : MV l yX2_close wsX2_close { frames := 0, cells := 0, slots := 0, locals := 0 } D cA [.ref (ad 0), .int x1] (wX2 cA ad t) (wX2 cA ad q) := by
  refine MV.of (cc := cX2_close) (maxL := 3) (by decide) rfl rfl rfl (Nat.le_of_ble_eq_true rfl) ?_
  intro p e s m args below meth c A ls Q hx hb hml hts hown hK hP hD hA hS hl hret
  have hl : lv_has ls 3 [(0, .ref (ad 0)), (1, .int x1)] := hl
  have f15 := hts (.fieldLink RX2 15 "ModeDesk$Row" "weights" "[I") (by decide +kernel)
  have f18 := hts (.fieldLink RX2 18 "ModeDesk$Row" "size" "I") (by decide +kernel)
  have f9 := hts (.fieldLink RX2 9 "ModeDesk$Row" "values" "[I") (by decide +kernel)
  have iX2 : ∀ w ∈ wsX20, w ∈ wsX2_close := by decide +kernel
  unfold mX2_close at h
  refine lv_aload_n hx hb dX2_close_0 rfl (lv_at hl 0 rfl) ?_
  refine lv_dup hx hb dX2_close_1 rfl ?_
  refine va_get (D := D) (ci := 2) (v := .int t.2.2) (C := RX2) (T := TX2) (N := 3) hx hb hts iX2 hown hK hP 0 rfl rfl 2 (Nat.le_of_ble_eq_true rfl) f18 (fun _ h9 => h9) rfl dX2_close_2 ?_
  refine lv_iconst (v := 1) hx hb dX2_close_5 (by decide) ?_
  refine lv_isub hx hb dX2_close_6 ?_
  refine va_put (D := D) (ci := 2) (v := .int (t.2.2 - 1)) (ty := .int) (C := RX2) (T := TX2) (N := 3) hx hb hts iX2 tyX2 tyX2_ok nmX2 hown hK hP hD hS 0 rfl rfl 2 (Nat.le_of_ble_eq_true rfl) f18 (fun _ h9 => h9) rfl (tyX2_ok 2 (Nat.le_of_ble_eq_true rfl)) rfl rfl (Nat.le_of_ble_eq_true rfl) dX2_close_7 (fun H locs hP hD hS => ?_)
  have hP : va_P D vwCl (wX2 cA ad (t.1, t.2.1, (t.2.2 - 1))) H := hP
  have hD : va_D A (wX2 cA ad (t.1, t.2.1, (t.2.2 - 1))) := hD
  refine lv_iload_n hx hb dX2_close_10 rfl (lv_at hl 1 rfl) ?_
  refine lv_istore_n (lv' := [(2, .int x1), (0, .ref (ad 0)), (1, .int x1)]) hx hb dX2_close_11 rfl hl (by decide) rfl (fun ls hl => ?_)
  have hL12 : ∀ (n : Nat) (x2 : Int32) (t : RowT) (z1 : RowT) (ls : Array Slot) (H : Heap) (locs : List Loc), lv_has ls 3 [(0, .ref (ad 0)), (2, .int x2)] → va_P D vwCl (wX2 cA ad t) H → va_D A (wX2 cA ad t) → va_S A s.heap H locs → mX2_close_L12  n x2 t = some z1 → (∀ (ls : Array Slot) (H : Heap) (locs : List Loc), lv_has ls 3 [] → va_P D vwCl (wX2 cA ad z1) H → va_D A (wX2 cA ad z1) → va_S A s.heap H locs → W p l e (headSpec wsX2_close { frames := 0, cells := 0, slots := 0, locals := 0 }).room s m args below meth c H locs 0 0 Q (F0 m 54 ls [])) → W p l e (headSpec wsX2_close { frames := 0, cells := 0, slots := 0, locals := 0 }).room s m args below meth c H locs 0 0 Q (F0 m 12 ls []) := by
    intro n
    induction n with
    | zero => intro x2 t z1 ls H locs hl hP hD hS h hk12; exact e_n h
    | succ n ih12 =>
      intro x2 t z1 ls H locs hl hP hD hS h hk12
      rw [mX2_close_L12.eq_2] at h
      refine lv_iload_n hx hb dX2_close_12 rfl (lv_at hl 1 rfl) ?_
      refine lv_aload_n hx hb dX2_close_13 rfl (lv_at hl 0 rfl) ?_
      refine va_get (D := D) (ci := 2) (v := .int t.2.2) (C := RX2) (T := TX2) (N := 3) hx hb hts iX2 hown hK hP 0 rfl rfl 2 (Nat.le_of_ble_eq_true rfl) f18 (fun _ h9 => h9) rfl dX2_close_14 ?_
      refine lv_icmp_ge (tgt := 54) hx hb dX2_close_17 (by decide) (fun c2 => ?_) (fun c2 => ?_)
      · have h := e_t c2 h
        obtain rfl := e_s h
        exact hk12 _ _ _ (lv_sub hl [] rfl) hP hD hS
      · have h := e_f c2 h
        refine lv_aload_n hx hb dX2_close_20 rfl (lv_at hl 0 rfl) ?_
        refine va_get (D := D) (ci := 2) (v := .ref (ad 1)) (C := RX2) (T := TX2) (N := 3) hx hb hts iX2 hown hK hP 0 rfl rfl 0 (Nat.le_of_ble_eq_true rfl) f9 (fun _ h9 => h9) rfl dX2_close_21 ?_
        refine lv_iload_n hx hb dX2_close_24 rfl (lv_at hl 1 rfl) ?_
        refine lv_aload_n hx hb dX2_close_25 rfl (lv_at hl 0 rfl) ?_
        refine va_get (D := D) (ci := 2) (v := .ref (ad 1)) (C := RX2) (T := TX2) (N := 3) hx hb hts iX2 hown hK hP 0 rfl rfl 0 (Nat.le_of_ble_eq_true rfl) f9 (fun _ h9 => h9) rfl dX2_close_26 ?_
        refine lv_iload_n hx hb dX2_close_29 rfl (lv_at hl 1 rfl) ?_
        refine lv_iconst (v := 1) hx hb dX2_close_30 (by decide) ?_
        refine lv_iadd hx hb dX2_close_31 ?_
        obtain ⟨v3, ev3, nv3, h⟩ := e_rd h
        refine xa_iald hx hb hK hP 1 rfl nv3 ev3 dX2_close_32 ?_
        obtain ⟨a4, ea4, na4, h⟩ := e_wr h
        refine xa_iast hx hb hK hP hD hS 1 rfl na4 ea4 dX2_close_33 (fun H locs hP hD hS => ?_)
        have hP : va_P D vwCl (wX2 cA ad (a4, t.2.1, t.2.2)) H := hP
        have hD : va_D A (wX2 cA ad (a4, t.2.1, t.2.2)) := hD
        refine lv_aload_n hx hb dX2_close_34 rfl (lv_at hl 0 rfl) ?_
        refine va_get (D := D) (ci := 2) (v := .ref (ad 2)) (C := RX2) (T := TX2) (N := 3) hx hb hts iX2 hown hK hP 0 rfl rfl 1 (Nat.le_of_ble_eq_true rfl) f15 (fun _ h9 => h9) rfl dX2_close_35 ?_
        refine lv_iload_n hx hb dX2_close_38 rfl (lv_at hl 1 rfl) ?_
        refine lv_aload_n hx hb dX2_close_39 rfl (lv_at hl 0 rfl) ?_
        refine va_get (D := D) (ci := 2) (v := .ref (ad 2)) (C := RX2) (T := TX2) (N := 3) hx hb hts iX2 hown hK hP 0 rfl rfl 1 (Nat.le_of_ble_eq_true rfl) f15 (fun _ h9 => h9) rfl dX2_close_40 ?_
        refine lv_iload_n hx hb dX2_close_43 rfl (lv_at hl 1 rfl) ?_
        refine lv_iconst (v := 1) hx hb dX2_close_44 (by decide) ?_
        refine lv_iadd hx hb dX2_close_45 ?_
        obtain ⟨v5, ev5, nv5, h⟩ := e_rd h
        refine xa_iald hx hb hK hP 2 rfl nv5 ev5 dX2_close_46 ?_
        obtain ⟨a6, ea6, na6, h⟩ := e_wr h
        refine xa_iast hx hb hK hP hD hS 2 rfl na6 ea6 dX2_close_47 (fun H locs hP hD hS => ?_)
        have hP : va_P D vwCl (wX2 cA ad (a4, a6, t.2.2)) H := hP
        have hD : va_D A (wX2 cA ad (a4, a6, t.2.2)) := hD
        refine lv_iinc (v := (x2 + 1)) (lv' := [(2, .int (x2 + 1)), (0, .ref (ad 0))]) hx hb dX2_close_48 hl (k := 1) rfl rfl (by decide) rfl (fun ls hl => ?_)
        refine lv_goto (tgt := 12) hx hb dX2_close_51 (by decide) ?_
        exact ih12 (x2 + 1) (a4, a6, t.2.2) z1 _ _ _ (lv_sub hl [1, 0] rfl) hP hD hS h hk12
  obtain ⟨z7, ez7, h⟩ := e_b h
  refine hL12 FU x1 (t.1, t.2.1, (t.2.2 - 1)) z7 _ _ _ (lv_sub hl [1, 0] rfl) hP hD hS ez7 (fun ls H locs hl hP hD hS => ?_)
  obtain rfl := e_s h
  exact hret hP hS dX2_close_54
set_option maxHeartbeats 4000000 in
set_option maxRecDepth 100000 in
theorem kX2_exchange (l : Launch) (D : va_G) (cA : Nat → ClassId) (ad : Nat → Nat) (t : RowT) (x1 : Int32) (x2 : Int32) (q : RowT) (h : mX2_exchange t x1 x2 = some q) : MV l yX2_exchange wsX2_exchange { frames := 0, cells := 0, slots := 0, locals := 0 } D cA [.ref (ad 0), .int x1, .int x2] (wX2 cA ad t) (wX2 cA ad q) := by
  refine MV.of (cc := cX2_exchange) (maxL := 5) (by decide) rfl rfl rfl (Nat.le_of_ble_eq_true rfl) ?_
  intro p e s m args below meth c A ls Q hx hb hml hts hown hK hP hD hA hS hl hret
  have hl : lv_has ls 5 [(0, .ref (ad 0)), (1, .int x1), (2, .int x2)] := hl
  have f15 := hts (.fieldLink RX2 15 "ModeDesk$Row" "weights" "[I") (by decide +kernel)
  have f9 := hts (.fieldLink RX2 9 "ModeDesk$Row" "values" "[I") (by decide +kernel)
  have iX2 : ∀ w ∈ wsX20, w ∈ wsX2_exchange := by decide +kernel
  unfold mX2_exchange at h
  refine lv_aload_n hx hb dX2_exchange_0 rfl (lv_at hl 0 rfl) ?_
  refine va_get (D := D) (ci := 2) (v := .ref (ad 1)) (C := RX2) (T := TX2) (N := 3) hx hb hts iX2 hown hK hP 0 rfl rfl 0 (Nat.le_of_ble_eq_true rfl) f9 (fun _ h9 => h9) rfl dX2_exchange_1 ?_
  refine lv_iload_n hx hb dX2_exchange_4 rfl (lv_at hl 1 rfl) ?_
  obtain ⟨v1, ev1, nv1, h⟩ := e_rd h
  refine xa_iald hx hb hK hP 1 rfl nv1 ev1 dX2_exchange_5 ?_
  refine lv_istore_n (lv' := [(3, .int v1), (0, .ref (ad 0)), (1, .int x1), (2, .int x2)]) hx hb dX2_exchange_6 rfl hl (by decide) rfl (fun ls hl => ?_)
  refine lv_aload_n hx hb dX2_exchange_7 rfl (lv_at hl 1 rfl) ?_
  refine va_get (D := D) (ci := 2) (v := .ref (ad 2)) (C := RX2) (T := TX2) (N := 3) hx hb hts iX2 hown hK hP 0 rfl rfl 1 (Nat.le_of_ble_eq_true rfl) f15 (fun _ h9 => h9) rfl dX2_exchange_8 ?_
  refine lv_iload_n hx hb dX2_exchange_11 rfl (lv_at hl 2 rfl) ?_
  obtain ⟨v2, ev2, nv2, h⟩ := e_rd h
  refine xa_iald hx hb hK hP 2 rfl nv2 ev2 dX2_exchange_12 ?_
  refine lv_istore (lv' := [(4, .int v2), (3, .int v1), (0, .ref (ad 0)), (1, .int x1), (2, .int x2)]) hx hb dX2_exchange_13 hl (by decide) rfl (fun ls hl => ?_)
  refine lv_aload_n hx hb dX2_exchange_15 rfl (lv_at hl 2 rfl) ?_
  refine va_get (D := D) (ci := 2) (v := .ref (ad 1)) (C := RX2) (T := TX2) (N := 3) hx hb hts iX2 hown hK hP 0 rfl rfl 0 (Nat.le_of_ble_eq_true rfl) f9 (fun _ h9 => h9) rfl dX2_exchange_16 ?_
  refine lv_iload_n hx hb dX2_exchange_19 rfl (lv_at hl 3 rfl) ?_
  refine lv_aload_n hx hb dX2_exchange_20 rfl (lv_at hl 2 rfl) ?_
  refine va_get (D := D) (ci := 2) (v := .ref (ad 1)) (C := RX2) (T := TX2) (N := 3) hx hb hts iX2 hown hK hP 0 rfl rfl 0 (Nat.le_of_ble_eq_true rfl) f9 (fun _ h9 => h9) rfl dX2_exchange_21 ?_
  refine lv_iload_n hx hb dX2_exchange_24 rfl (lv_at hl 4 rfl) ?_
  obtain ⟨v3, ev3, nv3, h⟩ := e_rd h
  refine xa_iald hx hb hK hP 1 rfl nv3 ev3 dX2_exchange_25 ?_
  obtain ⟨a4, ea4, na4, h⟩ := e_wr h
  refine xa_iast hx hb hK hP hD hS 1 rfl na4 ea4 dX2_exchange_26 (fun H locs hP hD hS => ?_)
  have hP : va_P D vwCl (wX2 cA ad (a4, t.2.1, t.2.2)) H := hP
  have hD : va_D A (wX2 cA ad (a4, t.2.1, t.2.2)) := hD
  refine lv_aload_n hx hb dX2_exchange_27 rfl (lv_at hl 2 rfl) ?_
  refine va_get (D := D) (ci := 2) (v := .ref (ad 2)) (C := RX2) (T := TX2) (N := 3) hx hb hts iX2 hown hK hP 0 rfl rfl 1 (Nat.le_of_ble_eq_true rfl) f15 (fun _ h9 => h9) rfl dX2_exchange_28 ?_
  refine lv_iload_n hx hb dX2_exchange_31 rfl (lv_at hl 3 rfl) ?_
  refine lv_aload_n hx hb dX2_exchange_32 rfl (lv_at hl 2 rfl) ?_
  refine va_get (D := D) (ci := 2) (v := .ref (ad 2)) (C := RX2) (T := TX2) (N := 3) hx hb hts iX2 hown hK hP 0 rfl rfl 1 (Nat.le_of_ble_eq_true rfl) f15 (fun _ h9 => h9) rfl dX2_exchange_33 ?_
  refine lv_iload_n hx hb dX2_exchange_36 rfl (lv_at hl 4 rfl) ?_
  obtain ⟨v5, ev5, nv5, h⟩ := e_rd h
  refine xa_iald hx hb hK hP 2 rfl nv5 ev5 dX2_exchange_37 ?_
  obtain ⟨a6, ea6, na6, h⟩ := e_wr h
  refine xa_iast hx hb hK hP hD hS 2 rfl na6 ea6 dX2_exchange_38 (fun H locs hP hD hS => ?_)
  have hP : va_P D vwCl (wX2 cA ad (a4, a6, t.2.2)) H := hP
  have hD : va_D A (wX2 cA ad (a4, a6, t.2.2)) := hD
  refine lv_aload_n hx hb dX2_exchange_39 rfl (lv_at hl 2 rfl) ?_
  refine va_get (D := D) (ci := 2) (v := .ref (ad 1)) (C := RX2) (T := TX2) (N := 3) hx hb hts iX2 hown hK hP 0 rfl rfl 0 (Nat.le_of_ble_eq_true rfl) f9 (fun _ h9 => h9) rfl dX2_exchange_40 ?_
  refine lv_iload_n hx hb dX2_exchange_43 rfl (lv_at hl 4 rfl) ?_
  refine lv_iload_n hx hb dX2_exchange_44 rfl (lv_at hl 1 rfl) ?_
  obtain ⟨a7, ea7, na7, h⟩ := e_wr h
  refine xa_iast hx hb hK hP hD hS 1 rfl na7 ea7 dX2_exchange_45 (fun H locs hP hD hS => ?_)
  have hP : va_P D vwCl (wX2 cA ad (a7, a6, t.2.2)) H := hP
  have hD : va_D A (wX2 cA ad (a7, a6, t.2.2)) := hD
  refine lv_aload_n hx hb dX2_exchange_46 rfl (lv_at hl 2 rfl) ?_
  refine va_get (D := D) (ci := 2) (v := .ref (ad 2)) (C := RX2) (T := TX2) (N := 3) hx hb hts iX2 hown hK hP 0 rfl rfl 1 (Nat.le_of_ble_eq_true rfl) f15 (fun _ h9 => h9) rfl dX2_exchange_47 ?_
  refine lv_iload_n hx hb dX2_exchange_50 rfl (lv_at hl 4 rfl) ?_
  refine lv_iload hx hb dX2_exchange_51 (lv_at hl 0 rfl) ?_
  obtain ⟨a8, ea8, na8, h⟩ := e_wr h
  refine xa_iast hx hb hK hP hD hS 2 rfl na8 ea8 dX2_exchange_53 (fun H locs hP hD hS => ?_)
  have hP : va_P D vwCl (wX2 cA ad (a7, a8, t.2.2)) H := hP
  have hD : va_D A (wX2 cA ad (a7, a8, t.2.2)) := hD
  obtain rfl := e_s h
  exact hret hP hS dX2_exchange_54
set_option maxHeartbeats 4000000 in
set_option maxRecDepth 100000 in
theorem kX2_turn (l : Launch) (D : va_G) (cA : Nat → ClassId) (ad : Nat → Nat) (t : RowT) (x1 : Int32) (x2 : Int32) (q : RowT) (h : mX2_turn t x1 x2 = some q) : MV l yX2_turn wsX2_turn { frames := 1, cells := 0, slots := 0, locals := 24 } D cA [.ref (ad 0), .int x1, .int x2] (wX2 cA ad t) (wX2 cA ad q) := by
  refine MV.of (cc := cX2_turn) (maxL := 4) (by decide) rfl rfl rfl (Nat.le_of_ble_eq_true rfl) ?_
  intro p e s m args below meth c A ls Q hx hb hml hts hown hK hP hD hA hS hl hret
  have hl : lv_has ls 4 [(0, .ref (ad 0)), (1, .int x1), (2, .int x2)] := hl
  unfold mX2_turn at h
  refine lv_iconst (v := 0) hx hb dX2_turn_0 (by decide) ?_
  refine lv_istore_n (lv' := [(3, .int 0), (0, .ref (ad 0)), (1, .int x1), (2, .int x2)]) hx hb dX2_turn_1 rfl hl (by decide) rfl (fun ls hl => ?_)
  have hL2 : ∀ (n : Nat) (x1 : Int32) (x2 : Int32) (x3 : Int32) (t : RowT) (z1 : RowT) (ls : Array Slot) (H : Heap) (locs : List Loc), lv_has ls 4 [(0, .ref (ad 0)), (1, .int x1), (2, .int x2), (3, .int x3)] → va_P D vwCl (wX2 cA ad t) H → va_D A (wX2 cA ad t) → va_S A s.heap H locs → mX2_turn_L2 x1 x2 n x3 t = some z1 → (∀ (ls : Array Slot) (H : Heap) (locs : List Loc), lv_has ls 4 [] → va_P D vwCl (wX2 cA ad z1) H → va_D A (wX2 cA ad z1) → va_S A s.heap H locs → W p l e (headSpec wsX2_turn { frames := 1, cells := 0, slots := 0, locals := 24 }).room s m args below meth c H locs 0 0 Q (F0 m 27 ls [])) → W p l e (headSpec wsX2_turn { frames := 1, cells := 0, slots := 0, locals := 24 }).room s m args below meth c H locs 0 0 Q (F0 m 2 ls []) := by
    intro n
    induction n with
    | zero => intro x1 x2 x3 t z1 ls H locs hl hP hD hS h hk2; exact e_n h
    | succ n ih2 =>
      intro x1 x2 x3 t z1 ls H locs hl hP hD hS h hk2
      rw [mX2_turn_L2.eq_2] at h
      refine lv_iload_n hx hb dX2_turn_2 rfl (lv_at hl 1 rfl) ?_
      refine lv_iload_n hx hb dX2_turn_3 rfl (lv_at hl 3 rfl) ?_
      refine lv_iadd hx hb dX2_turn_4 ?_
      refine lv_iload_n hx hb dX2_turn_5 rfl (lv_at hl 2 rfl) ?_
      refine lv_iload_n hx hb dX2_turn_6 rfl (lv_at hl 3 rfl) ?_
      refine lv_isub hx hb dX2_turn_7 ?_
      refine lv_icmp_ge (tgt := 27) hx hb dX2_turn_8 (by decide) (fun c2 => ?_) (fun c2 => ?_)
      · have h := e_t c2 h
        obtain rfl := e_s h
        exact hk2 _ _ _ (lv_sub hl [] rfl) hP hD hS
      · have h := e_f c2 h
        refine lv_aload_n hx hb dX2_turn_11 rfl (lv_at hl 0 rfl) ?_
        refine lv_iload_n hx hb dX2_turn_12 rfl (lv_at hl 1 rfl) ?_
        refine lv_iload_n hx hb dX2_turn_13 rfl (lv_at hl 3 rfl) ?_
        refine lv_iadd hx hb dX2_turn_14 ?_
        refine lv_iload_n hx hb dX2_turn_15 rfl (lv_at hl 2 rfl) ?_
        refine lv_iload_n hx hb dX2_turn_16 rfl (lv_at hl 3 rfl) ?_
        refine lv_isub hx hb dX2_turn_17 ?_
        obtain ⟨q3, eq3, h⟩ := e_b h
        refine xv_v0 (As := [.int (x1 + x3), .int (x2 - x3)]) (rest := []) (ci := 2) (b := ad 0) ⟨hx, hb, hml, hown, hts⟩ hl.1 (kX2_exchange l D cA ad t (x1 + x3) (x2 - x3)  _ eq3) (cwV 2 hts gX2_turn_X2_exchange rfl rfl rfl (by decide +kernel) ⟨Nat.le_of_ble_eq_true rfl, Nat.le_of_ble_eq_true rfl⟩) rfl hK hP hD hS hA 0 rfl rfl rfl rfl (Nat.le_of_ble_eq_true rfl) dX2_turn_18 ⟨Nat.zero_le _, Nat.zero_le _⟩ (fun H locs hP hD hS => ?_)
        have hP : va_P D vwCl (wX2 cA ad q3) H := hP
        have hD : va_D A (wX2 cA ad q3) := hD
        refine lv_iinc (v := (x3 + 1)) (lv' := [(3, .int (x3 + 1)), (0, .ref (ad 0)), (1, .int x1), (2, .int x2)]) hx hb dX2_turn_21 hl (k := 3) rfl rfl (by decide) rfl (fun ls hl => ?_)
        refine lv_goto (tgt := 2) hx hb dX2_turn_24 (by decide) ?_
        exact ih2 x1 x2 (x3 + 1) q3 z1 _ _ _ (lv_sub hl [1, 2, 3, 0] rfl) hP hD hS h hk2
  obtain ⟨z4, ez4, h⟩ := e_b h
  refine hL2 FU x1 x2 0 t z4 _ _ _ (lv_sub hl [1, 2, 3, 0] rfl) hP hD hS ez4 (fun ls H locs hl hP hD hS => ?_)
  obtain rfl := e_s h
  exact hret hP hS dX2_turn_27
set_option maxHeartbeats 4000000 in
set_option maxRecDepth 100000 in
theorem kX2_isWrong (l : Launch) (D : va_G) (cA : Nat → ClassId) (ad : Nat → Nat) (t : RowT) (x1 : Int32) (x2 : Int32) (x3 : Int32) (q : Int32) (h : mX2_isWrong  x1 x2 x3 = some q) : MI l yX2_isWrong wsX2_isWrong { frames := 0, cells := 0, slots := 0, locals := 0 } D cA .boolean [.ref (ad 0), .int x1, .int x2, .int x3] (wX2 cA ad t) (wX2 cA ad t) q := by
  refine MI.of (cc := cX2_isWrong) (maxL := 4) (by decide +kernel) rfl rfl rfl (Nat.le_of_ble_eq_true rfl) ?_
  intro p e s m args below meth c A ls Q hx hb hml hts hown hK hP hD hA hS hl hret
  have hl : lv_has ls 4 [(0, .ref (ad 0)), (1, .int x1), (2, .int x2), (3, .int x3)] := hl
  unfold mX2_isWrong at h
  refine lv_iload_n hx hb dX2_isWrong_0 rfl (lv_at hl 3 rfl) ?_
  refine lv_if_eq (tgt := 17) hx hb dX2_isWrong_1 (by decide) (fun c1 => ?_) (fun c1 => ?_)
  · have h := e_t c1 h
    refine lv_iload_n hx hb dX2_isWrong_17 rfl (lv_at hl 1 rfl) ?_
    refine lv_iload_n hx hb dX2_isWrong_18 rfl (lv_at hl 2 rfl) ?_
    refine lv_icmp_ge (tgt := 26) hx hb dX2_isWrong_19 (by decide) (fun c2 => ?_) (fun c2 => ?_)
    · have h := e_t c2 h
      refine lv_iconst (v := 0) hx hb dX2_isWrong_26 (by decide) ?_
      obtain rfl := e_s h
      exact hret hP hS (show narrow .boolean (.int 0) = .int 0 from rfl) dX2_isWrong_27
    · have h := e_f c2 h
      refine lv_iconst (v := 1) hx hb dX2_isWrong_22 (by decide) ?_
      refine lv_goto (tgt := 27) hx hb dX2_isWrong_23 (by decide) ?_
      obtain rfl := e_s h
      exact hret hP hS (show narrow .boolean (.int 1) = .int 1 from rfl) dX2_isWrong_27
  · have h := e_f c1 h
    refine lv_iload_n hx hb dX2_isWrong_4 rfl (lv_at hl 1 rfl) ?_
    refine lv_iload_n hx hb dX2_isWrong_5 rfl (lv_at hl 2 rfl) ?_
    refine lv_icmp_le (tgt := 13) hx hb dX2_isWrong_6 (by decide) (fun c3 => ?_) (fun c3 => ?_)
    · have h := e_t c3 h
      refine lv_iconst (v := 0) hx hb dX2_isWrong_13 (by decide) ?_
      refine lv_goto (tgt := 27) hx hb dX2_isWrong_14 (by decide) ?_
      obtain rfl := e_s h
      exact hret hP hS (show narrow .boolean (.int 0) = .int 0 from rfl) dX2_isWrong_27
    · have h := e_f c3 h
      refine lv_iconst (v := 1) hx hb dX2_isWrong_9 (by decide) ?_
      refine lv_goto (tgt := 27) hx hb dX2_isWrong_10 (by decide) ?_
      obtain rfl := e_s h
      exact hret hP hS (show narrow .boolean (.int 1) = .int 1 from rfl) dX2_isWrong_27
set_option maxHeartbeats 4000000 in
set_option maxRecDepth 100000 in
theorem kX2_order (l : Launch) (D : va_G) (cA : Nat → ClassId) (ad : Nat → Nat) (t : RowT) (x1 : Int32) (x2 : Int32) (x3 : Int32) (q : RowT) (h : mX2_order t x1 x2 x3 = some q) : MV l yX2_order wsX2_order { frames := 1, cells := 0, slots := 0, locals := 24 } D cA [.ref (ad 0), .int x1, .int x2, .int x3] (wX2 cA ad t) (wX2 cA ad q) := by
  refine MV.of (cc := cX2_order) (maxL := 6) (by decide) rfl rfl rfl (Nat.le_of_ble_eq_true rfl) ?_
  intro p e s m args below meth c A ls Q hx hb hml hts hown hK hP hD hA hS hl hret
  have hl : lv_has ls 6 [(0, .ref (ad 0)), (1, .int x1), (2, .int x2), (3, .int x3)] := hl
  have f9 := hts (.fieldLink RX2 9 "ModeDesk$Row" "values" "[I") (by decide +kernel)
  have iX2 : ∀ w ∈ wsX20, w ∈ wsX2_order := by decide +kernel
  unfold mX2_order at h
  refine lv_iload_n hx hb dX2_order_0 rfl (lv_at hl 1 rfl) ?_
  refine lv_iconst (v := 1) hx hb dX2_order_1 (by decide) ?_
  refine lv_iadd hx hb dX2_order_2 ?_
  refine lv_istore (lv' := [(4, .int (x1 + 1)), (0, .ref (ad 0)), (1, .int x1), (2, .int x2), (3, .int x3)]) hx hb dX2_order_3 hl (by decide) rfl (fun ls hl => ?_)
  have hL5 : ∀ (n : Nat) (x1 : Int32) (x2 : Int32) (x3 : Int32) (x4 : Int32) (t : RowT) (z1 : RowT) (ls : Array Slot) (H : Heap) (locs : List Loc), lv_has ls 6 [(0, .ref (ad 0)), (1, .int x1), (2, .int x2), (3, .int x3), (4, .int x4)] → va_P D vwCl (wX2 cA ad t) H → va_D A (wX2 cA ad t) → va_S A s.heap H locs → mX2_order_L5 x1 x2 x3 n x4 t = some z1 → (∀ (ls : Array Slot) (H : Heap) (locs : List Loc), lv_has ls 6 [] → va_P D vwCl (wX2 cA ad z1) H → va_D A (wX2 cA ad z1) → va_S A s.heap H locs → W p l e (headSpec wsX2_order { frames := 1, cells := 0, slots := 0, locals := 24 }).room s m args below meth c H locs 0 0 Q (F0 m 67 ls [])) → W p l e (headSpec wsX2_order { frames := 1, cells := 0, slots := 0, locals := 24 }).room s m args below meth c H locs 0 0 Q (F0 m 5 ls []) := by
    intro n
    induction n with
    | zero => intro x1 x2 x3 x4 t z1 ls H locs hl hP hD hS h hk5; exact e_n h
    | succ n ih5 =>
      intro x1 x2 x3 x4 t z1 ls H locs hl hP hD hS h hk5
      rw [mX2_order_L5.eq_2] at h
      refine lv_iload hx hb dX2_order_5 (lv_at hl 4 rfl) ?_
      refine lv_iload_n hx hb dX2_order_7 rfl (lv_at hl 2 rfl) ?_
      refine lv_icmp_gt (tgt := 67) hx hb dX2_order_8 (by decide) (fun c2 => ?_) (fun c2 => ?_)
      · have h := e_t c2 h
        obtain rfl := e_s h
        exact hk5 _ _ _ (lv_sub hl [] rfl) hP hD hS
      · have h := e_f c2 h
        refine lv_iload hx hb dX2_order_11 (lv_at hl 4 rfl) ?_
        refine lv_istore (lv' := [(5, .int x4), (0, .ref (ad 0)), (1, .int x1), (2, .int x2), (3, .int x3), (4, .int x4)]) hx hb dX2_order_13 hl (by decide) rfl (fun ls hl => ?_)
        have hL15 : ∀ (n : Nat) (x1 : Int32) (x2 : Int32) (x3 : Int32) (x4 : Int32) (x5 : Int32) (t : RowT) (z3 : RowT) (ls : Array Slot) (H : Heap) (locs : List Loc), lv_has ls 6 [(0, .ref (ad 0)), (1, .int x1), (2, .int x2), (3, .int x3), (4, .int x4), (5, .int x5)] → va_P D vwCl (wX2 cA ad t) H → va_D A (wX2 cA ad t) → va_S A s.heap H locs → mX2_order_L15 x1 x3 n x5 t = some z3 → (∀ (ls : Array Slot) (H : Heap) (locs : List Loc), lv_has ls 6 [(0, .ref (ad 0)), (1, .int x1), (2, .int x2), (3, .int x3), (4, .int x4)] → va_P D vwCl (wX2 cA ad z3) H → va_D A (wX2 cA ad z3) → va_S A s.heap H locs → W p l e (headSpec wsX2_order { frames := 1, cells := 0, slots := 0, locals := 24 }).room s m args below meth c H locs 0 0 Q (F0 m 61 ls [])) → W p l e (headSpec wsX2_order { frames := 1, cells := 0, slots := 0, locals := 24 }).room s m args below meth c H locs 0 0 Q (F0 m 15 ls []) := by
          intro n
          induction n with
          | zero => intro x1 x2 x3 x4 x5 t z3 ls H locs hl hP hD hS h hk15; exact e_n h
          | succ n ih15 =>
            intro x1 x2 x3 x4 x5 t z3 ls H locs hl hP hD hS h hk15
            rw [mX2_order_L15.eq_2] at h
            refine lv_iload hx hb dX2_order_15 (lv_at hl 5 rfl) ?_
            refine lv_iload_n hx hb dX2_order_17 rfl (lv_at hl 1 rfl) ?_
            refine lv_icmp_le (tgt := 61) hx hb dX2_order_18 (by decide) (fun c4 => ?_) (fun c4 => ?_)
            · have h := e_t c4 h
              obtain rfl := e_s h
              exact hk15 _ _ _ (lv_sub hl [0, 1, 2, 3, 4] rfl) hP hD hS
            · have h := e_f c4 h
              refine lv_aload_n hx hb dX2_order_21 rfl (lv_at hl 0 rfl) ?_
              refine lv_aload_n hx hb dX2_order_22 rfl (lv_at hl 0 rfl) ?_
              refine va_get (D := D) (ci := 2) (v := .ref (ad 1)) (C := RX2) (T := TX2) (N := 3) hx hb hts iX2 hown hK hP 0 rfl rfl 0 (Nat.le_of_ble_eq_true rfl) f9 (fun _ h9 => h9) rfl dX2_order_23 ?_
              refine lv_iload hx hb dX2_order_26 (lv_at hl 5 rfl) ?_
              refine lv_iconst (v := 1) hx hb dX2_order_28 (by decide) ?_
              refine lv_isub hx hb dX2_order_29 ?_
              obtain ⟨v5, ev5, nv5, h⟩ := e_rd h
              refine xa_iald hx hb hK hP 1 rfl nv5 ev5 dX2_order_30 ?_
              refine lv_aload_n hx hb dX2_order_31 rfl (lv_at hl 0 rfl) ?_
              refine va_get (D := D) (ci := 2) (v := .ref (ad 1)) (C := RX2) (T := TX2) (N := 3) hx hb hts iX2 hown hK hP 0 rfl rfl 0 (Nat.le_of_ble_eq_true rfl) f9 (fun _ h9 => h9) rfl dX2_order_32 ?_
              refine lv_iload hx hb dX2_order_35 (lv_at hl 5 rfl) ?_
              obtain ⟨v6, ev6, nv6, h⟩ := e_rd h
              refine xa_iald hx hb hK hP 1 rfl nv6 ev6 dX2_order_37 ?_
              refine lv_iload_n hx hb dX2_order_38 rfl (lv_at hl 3 rfl) ?_
              obtain ⟨q7, eq7, h⟩ := e_b h
              refine xv_i0 (As := [.int v5, .int v6, .int x3]) (rest := []) (ci := 2) (b := ad 0) ⟨hx, hb, hml, hown, hts⟩ hl.1 (kX2_isWrong l D cA ad t v5 v6 x3  _ eq7) (cwV 3 hts gX2_order_X2_isWrong rfl rfl rfl (by decide +kernel) ⟨Nat.le_of_ble_eq_true rfl, Nat.le_of_ble_eq_true rfl⟩) rfl hK hP hD hS hA 0 rfl rfl rfl rfl (Nat.le_of_ble_eq_true rfl) dX2_order_39 ⟨Nat.zero_le _, Nat.zero_le _⟩ (fun H locs hP hD hS hnq7 => ?_)
              have hP : va_P D vwCl (wX2 cA ad t) H := hP
              have hD : va_D A (wX2 cA ad t) := hD
              refine lv_if_eq (tgt := 61) hx hb dX2_order_42 (by decide) (fun c8 => ?_) (fun c8 => ?_)
              · have h := e_t c8 h
                obtain rfl := e_s h
                exact hk15 _ _ _ (lv_sub hl [0, 1, 2, 3, 4] rfl) hP hD hS
              · have h := e_f c8 h
                refine lv_aload_n hx hb dX2_order_45 rfl (lv_at hl 0 rfl) ?_
                refine lv_iload hx hb dX2_order_46 (lv_at hl 5 rfl) ?_
                refine lv_iconst (v := 1) hx hb dX2_order_48 (by decide) ?_
                refine lv_isub hx hb dX2_order_49 ?_
                refine lv_iload hx hb dX2_order_50 (lv_at hl 5 rfl) ?_
                obtain ⟨q9, eq9, h⟩ := e_b h
                refine xv_v0 (As := [.int (x5 - 1), .int x5]) (rest := []) (ci := 2) (b := ad 0) ⟨hx, hb, hml, hown, hts⟩ hl.1 (kX2_exchange l D cA ad t (x5 - 1) x5  _ eq9) (cwV 2 hts gX2_order_X2_exchange rfl rfl rfl (by decide +kernel) ⟨Nat.le_of_ble_eq_true rfl, Nat.le_of_ble_eq_true rfl⟩) rfl hK hP hD hS hA 0 rfl rfl rfl rfl (Nat.le_of_ble_eq_true rfl) dX2_order_52 ⟨Nat.zero_le _, Nat.zero_le _⟩ (fun H locs hP hD hS => ?_)
                have hP : va_P D vwCl (wX2 cA ad q9) H := hP
                have hD : va_D A (wX2 cA ad q9) := hD
                refine lv_iinc (v := (x5 + (-1))) (lv' := [(5, .int (x5 + (-1))), (0, .ref (ad 0)), (1, .int x1), (2, .int x2), (3, .int x3), (4, .int x4)]) hx hb dX2_order_55 hl (k := 5) rfl rfl (by decide) rfl (fun ls hl => ?_)
                refine lv_goto (tgt := 15) hx hb dX2_order_58 (by decide) ?_
                exact ih15 x1 x2 x3 x4 (x5 + (-1)) q9 z3 _ _ _ (lv_sub hl [1, 2, 3, 4, 5, 0] rfl) hP hD hS h hk15
        obtain ⟨z10, ez10, h⟩ := e_b h
        refine hL15 FU x1 x2 x3 x4 x4 t z10 _ _ _ (lv_sub hl [1, 2, 3, 4, 5, 0] rfl) hP hD hS ez10 (fun ls H locs hl hP hD hS => ?_)
        refine lv_iinc (v := (x4 + 1)) (lv' := [(4, .int (x4 + 1)), (0, .ref (ad 0)), (1, .int x1), (2, .int x2), (3, .int x3)]) hx hb dX2_order_61 hl (k := 4) rfl rfl (by decide) rfl (fun ls hl => ?_)
        refine lv_goto (tgt := 5) hx hb dX2_order_64 (by decide) ?_
        exact ih5 x1 x2 x3 (x4 + 1) z10 z1 _ _ _ (lv_sub hl [1, 2, 3, 4, 0] rfl) hP hD hS h hk5
  obtain ⟨z11, ez11, h⟩ := e_b h
  refine hL5 FU x1 x2 x3 (x1 + 1) t z11 _ _ _ (lv_sub hl [1, 2, 3, 4, 0] rfl) hP hD hS ez11 (fun ls H locs hl hP hD hS => ?_)
  obtain rfl := e_s h
  exact hret hP hS dX2_order_67
set_option maxHeartbeats 4000000 in
set_option maxRecDepth 100000 in
theorem kX2_howOften (l : Launch) (D : va_G) (cA : Nat → ClassId) (ad : Nat → Nat) (t : RowT) (x1 : Int32) (x2 : Int32) (x3 : Int32) (q : Int32) (h : mX2_howOften t x1 x2 x3 = some q) : MI l yX2_howOften wsX2_howOften { frames := 0, cells := 0, slots := 0, locals := 0 } D cA .int [.ref (ad 0), .int x1, .int x2, .int x3] (wX2 cA ad t) (wX2 cA ad t) q := by
  refine MI.of (cc := cX2_howOften) (maxL := 6) (by decide +kernel) rfl rfl rfl (Nat.le_of_ble_eq_true rfl) ?_
  intro p e s m args below meth c A ls Q hx hb hml hts hown hK hP hD hA hS hl hret
  have hl : lv_has ls 6 [(0, .ref (ad 0)), (1, .int x1), (2, .int x2), (3, .int x3)] := hl
  have f9 := hts (.fieldLink RX2 9 "ModeDesk$Row" "values" "[I") (by decide +kernel)
  have iX2 : ∀ w ∈ wsX20, w ∈ wsX2_howOften := by decide +kernel
  unfold mX2_howOften at h
  refine lv_iconst (v := 0) hx hb dX2_howOften_0 (by decide) ?_
  refine lv_istore (lv' := [(4, .int 0), (0, .ref (ad 0)), (1, .int x1), (2, .int x2), (3, .int x3)]) hx hb dX2_howOften_1 hl (by decide) rfl (fun ls hl => ?_)
  refine lv_iload_n hx hb dX2_howOften_3 rfl (lv_at hl 3 rfl) ?_
  refine lv_istore (lv' := [(5, .int x2), (4, .int 0), (0, .ref (ad 0)), (1, .int x1), (2, .int x2), (3, .int x3)]) hx hb dX2_howOften_4 hl (by decide) rfl (fun ls hl => ?_)
  have hL6 : ∀ (n : Nat) (x1 : Int32) (x3 : Int32) (x4 : Int32) (x5 : Int32) (t : RowT) (z1 : Int32) (ls : Array Slot) (H : Heap) (locs : List Loc), lv_has ls 6 [(0, .ref (ad 0)), (1, .int x1), (3, .int x3), (4, .int x4), (5, .int x5)] → va_P D vwCl (wX2 cA ad t) H → va_D A (wX2 cA ad t) → va_S A s.heap H locs → mX2_howOften_L6 t x1 x3 n x4 x5 = some z1 → (∀ (ls : Array Slot) (H : Heap) (locs : List Loc), lv_has ls 6 [(4, .int z1)] → va_P D vwCl (wX2 cA ad t) H → va_D A (wX2 cA ad t) → va_S A s.heap H locs → W p l e (headSpec wsX2_howOften { frames := 0, cells := 0, slots := 0, locals := 0 }).room s m args below meth c H locs 0 0 Q (F0 m 32 ls [])) → W p l e (headSpec wsX2_howOften { frames := 0, cells := 0, slots := 0, locals := 0 }).room s m args below meth c H locs 0 0 Q (F0 m 6 ls []) := by
    intro n
    induction n with
    | zero => intro x1 x3 x4 x5 t z1 ls H locs hl hP hD hS h hk6; exact e_n h
    | succ n ih6 =>
      intro x1 x3 x4 x5 t z1 ls H locs hl hP hD hS h hk6
      rw [mX2_howOften_L6.eq_2] at h
      refine lv_iload hx hb dX2_howOften_6 (lv_at hl 4 rfl) ?_
      refine lv_iload_n hx hb dX2_howOften_8 rfl (lv_at hl 2 rfl) ?_
      refine lv_icmp_gt (tgt := 32) hx hb dX2_howOften_9 (by decide) (fun c2 => ?_) (fun c2 => ?_)
      · have h := e_t c2 h
        obtain rfl := e_s h
        exact hk6 _ _ _ (lv_sub hl [3] rfl) hP hD hS
      · have h := e_f c2 h
        refine lv_aload_n hx hb dX2_howOften_12 rfl (lv_at hl 0 rfl) ?_
        refine va_get (D := D) (ci := 2) (v := .ref (ad 1)) (C := RX2) (T := TX2) (N := 3) hx hb hts iX2 hown hK hP 0 rfl rfl 0 (Nat.le_of_ble_eq_true rfl) f9 (fun _ h9 => h9) rfl dX2_howOften_13 ?_
        refine lv_iload hx hb dX2_howOften_16 (lv_at hl 4 rfl) ?_
        obtain ⟨v3, ev3, nv3, h⟩ := e_rd h
        refine xa_iald hx hb hK hP 1 rfl nv3 ev3 dX2_howOften_18 ?_
        refine lv_iload_n hx hb dX2_howOften_19 rfl (lv_at hl 1 rfl) ?_
        refine lv_icmp_ne (tgt := 26) hx hb dX2_howOften_20 (by decide) (fun c4 => ?_) (fun c4 => ?_)
        · have h := e_t c4 h
          refine lv_iinc (v := (x5 + 1)) (lv' := [(5, .int (x5 + 1)), (0, .ref (ad 0)), (1, .int x1), (3, .int x3), (4, .int x4)]) hx hb dX2_howOften_26 hl (k := 4) rfl rfl (by decide) rfl (fun ls hl => ?_)
          refine lv_goto (tgt := 6) hx hb dX2_howOften_29 (by decide) ?_
          exact ih6 x1 x3 x4 (x5 + 1) t z1 _ _ _ (lv_sub hl [1, 2, 3, 4, 0] rfl) hP hD hS h hk6
        · have h := e_f (not_not_intro c4) h
          refine lv_iinc (v := (x4 + 1)) (lv' := [(4, .int (x4 + 1)), (0, .ref (ad 0)), (1, .int x1), (3, .int x3), (5, .int x5)]) hx hb dX2_howOften_23 hl (k := 3) rfl rfl (by decide) rfl (fun ls hl => ?_)
          refine lv_iinc (v := (x5 + 1)) (lv' := [(5, .int (x5 + 1)), (4, .int (x4 + 1)), (0, .ref (ad 0)), (1, .int x1), (3, .int x3)]) hx hb dX2_howOften_26 hl (k := 4) rfl rfl (by decide) rfl (fun ls hl => ?_)
          refine lv_goto (tgt := 6) hx hb dX2_howOften_29 (by decide) ?_
          exact ih6 x1 x3 (x4 + 1) (x5 + 1) t z1 _ _ _ (lv_sub hl [2, 3, 4, 1, 0] rfl) hP hD hS h hk6
  obtain ⟨z5, ez5, h⟩ := e_b h
  refine hL6 FU x1 x3 0 x2 t z5 _ _ _ (lv_sub hl [2, 3, 5, 1, 0] rfl) hP hD hS ez5 (fun ls H locs hl hP hD hS => ?_)
  refine lv_iload hx hb dX2_howOften_32 (lv_at hl 0 rfl) ?_
  obtain rfl := e_s h
  exact hret hP hS rfl dX2_howOften_34
set_option maxHeartbeats 4000000 in
set_option maxRecDepth 100000 in
theorem kX2_weightOf (l : Launch) (D : va_G) (cA : Nat → ClassId) (ad : Nat → Nat) (t : RowT) (x1 : Int32) (x2 : Int32) (x3 : Int32) (q : Int32) (h : mX2_weightOf t x1 x2 x3 = some q) : MI l yX2_weightOf wsX2_weightOf { frames := 0, cells := 0, slots := 0, locals := 0 } D cA .int [.ref (ad 0), .int x1, .int x2, .int x3] (wX2 cA ad t) (wX2 cA ad t) q := by
  refine MI.of (cc := cX2_weightOf) (maxL := 6) (by decide +kernel) rfl rfl rfl (Nat.le_of_ble_eq_true rfl) ?_
  intro p e s m args below meth c A ls Q hx hb hml hts hown hK hP hD hA hS hl hret
  have hl : lv_has ls 6 [(0, .ref (ad 0)), (1, .int x1), (2, .int x2), (3, .int x3)] := hl
  have f15 := hts (.fieldLink RX2 15 "ModeDesk$Row" "weights" "[I") (by decide +kernel)
  have f9 := hts (.fieldLink RX2 9 "ModeDesk$Row" "values" "[I") (by decide +kernel)
  have iX2 : ∀ w ∈ wsX20, w ∈ wsX2_weightOf := by decide +kernel
  unfold mX2_weightOf at h
  refine lv_iconst (v := 0) hx hb dX2_weightOf_0 (by decide) ?_
  refine lv_istore (lv' := [(4, .int 0), (0, .ref (ad 0)), (1, .int x1), (2, .int x2), (3, .int x3)]) hx hb dX2_weightOf_1 hl (by decide) rfl (fun ls hl => ?_)
  refine lv_iload_n hx hb dX2_weightOf_3 rfl (lv_at hl 3 rfl) ?_
  refine lv_istore (lv' := [(5, .int x2), (4, .int 0), (0, .ref (ad 0)), (1, .int x1), (2, .int x2), (3, .int x3)]) hx hb dX2_weightOf_4 hl (by decide) rfl (fun ls hl => ?_)
  have hL6 : ∀ (n : Nat) (x1 : Int32) (x3 : Int32) (x4 : Int32) (x5 : Int32) (t : RowT) (z1 : Int32) (ls : Array Slot) (H : Heap) (locs : List Loc), lv_has ls 6 [(0, .ref (ad 0)), (1, .int x1), (3, .int x3), (4, .int x4), (5, .int x5)] → va_P D vwCl (wX2 cA ad t) H → va_D A (wX2 cA ad t) → va_S A s.heap H locs → mX2_weightOf_L6 t x1 x3 n x4 x5 = some z1 → (∀ (ls : Array Slot) (H : Heap) (locs : List Loc), lv_has ls 6 [(4, .int z1)] → va_P D vwCl (wX2 cA ad t) H → va_D A (wX2 cA ad t) → va_S A s.heap H locs → W p l e (headSpec wsX2_weightOf { frames := 0, cells := 0, slots := 0, locals := 0 }).room s m args below meth c H locs 0 0 Q (F0 m 41 ls [])) → W p l e (headSpec wsX2_weightOf { frames := 0, cells := 0, slots := 0, locals := 0 }).room s m args below meth c H locs 0 0 Q (F0 m 6 ls []) := by
    intro n
    induction n with
    | zero => intro x1 x3 x4 x5 t z1 ls H locs hl hP hD hS h hk6; exact e_n h
    | succ n ih6 =>
      intro x1 x3 x4 x5 t z1 ls H locs hl hP hD hS h hk6
      rw [mX2_weightOf_L6.eq_2] at h
      refine lv_iload hx hb dX2_weightOf_6 (lv_at hl 4 rfl) ?_
      refine lv_iload_n hx hb dX2_weightOf_8 rfl (lv_at hl 2 rfl) ?_
      refine lv_icmp_gt (tgt := 41) hx hb dX2_weightOf_9 (by decide) (fun c2 => ?_) (fun c2 => ?_)
      · have h := e_t c2 h
        obtain rfl := e_s h
        exact hk6 _ _ _ (lv_sub hl [3] rfl) hP hD hS
      · have h := e_f c2 h
        refine lv_aload_n hx hb dX2_weightOf_12 rfl (lv_at hl 0 rfl) ?_
        refine va_get (D := D) (ci := 2) (v := .ref (ad 1)) (C := RX2) (T := TX2) (N := 3) hx hb hts iX2 hown hK hP 0 rfl rfl 0 (Nat.le_of_ble_eq_true rfl) f9 (fun _ h9 => h9) rfl dX2_weightOf_13 ?_
        refine lv_iload hx hb dX2_weightOf_16 (lv_at hl 4 rfl) ?_
        obtain ⟨v3, ev3, nv3, h⟩ := e_rd h
        refine xa_iald hx hb hK hP 1 rfl nv3 ev3 dX2_weightOf_18 ?_
        refine lv_iload_n hx hb dX2_weightOf_19 rfl (lv_at hl 1 rfl) ?_
        refine lv_icmp_ne (tgt := 35) hx hb dX2_weightOf_20 (by decide) (fun c4 => ?_) (fun c4 => ?_)
        · have h := e_t c4 h
          refine lv_iinc (v := (x5 + 1)) (lv' := [(5, .int (x5 + 1)), (0, .ref (ad 0)), (1, .int x1), (3, .int x3), (4, .int x4)]) hx hb dX2_weightOf_35 hl (k := 4) rfl rfl (by decide) rfl (fun ls hl => ?_)
          refine lv_goto (tgt := 6) hx hb dX2_weightOf_38 (by decide) ?_
          exact ih6 x1 x3 x4 (x5 + 1) t z1 _ _ _ (lv_sub hl [1, 2, 3, 4, 0] rfl) hP hD hS h hk6
        · have h := e_f (not_not_intro c4) h
          refine lv_iload hx hb dX2_weightOf_23 (lv_at hl 3 rfl) ?_
          refine lv_aload_n hx hb dX2_weightOf_25 rfl (lv_at hl 0 rfl) ?_
          refine va_get (D := D) (ci := 2) (v := .ref (ad 2)) (C := RX2) (T := TX2) (N := 3) hx hb hts iX2 hown hK hP 0 rfl rfl 1 (Nat.le_of_ble_eq_true rfl) f15 (fun _ h9 => h9) rfl dX2_weightOf_26 ?_
          refine lv_iload hx hb dX2_weightOf_29 (lv_at hl 4 rfl) ?_
          obtain ⟨v5, ev5, nv5, h⟩ := e_rd h
          refine xa_iald hx hb hK hP 2 rfl nv5 ev5 dX2_weightOf_31 ?_
          refine lv_iadd hx hb dX2_weightOf_32 ?_
          refine lv_istore (lv' := [(4, .int (x4 + v5)), (0, .ref (ad 0)), (1, .int x1), (3, .int x3), (5, .int x5)]) hx hb dX2_weightOf_33 hl (by decide) rfl (fun ls hl => ?_)
          refine lv_iinc (v := (x5 + 1)) (lv' := [(5, .int (x5 + 1)), (4, .int (x4 + v5)), (0, .ref (ad 0)), (1, .int x1), (3, .int x3)]) hx hb dX2_weightOf_35 hl (k := 4) rfl rfl (by decide) rfl (fun ls hl => ?_)
          refine lv_goto (tgt := 6) hx hb dX2_weightOf_38 (by decide) ?_
          exact ih6 x1 x3 (x4 + v5) (x5 + 1) t z1 _ _ _ (lv_sub hl [2, 3, 4, 1, 0] rfl) hP hD hS h hk6
  obtain ⟨z6, ez6, h⟩ := e_b h
  refine hL6 FU x1 x3 0 x2 t z6 _ _ _ (lv_sub hl [2, 3, 5, 1, 0] rfl) hP hD hS ez6 (fun ls H locs hl hP hD hS => ?_)
  refine lv_iload hx hb dX2_weightOf_41 (lv_at hl 0 rfl) ?_
  obtain rfl := e_s h
  exact hret hP hS rfl dX2_weightOf_43
set_option maxHeartbeats 4000000 in
set_option maxRecDepth 100000 in
theorem kX2_allWeights (l : Launch) (D : va_G) (cA : Nat → ClassId) (ad : Nat → Nat) (t : RowT)  (q : Int32) (h : mX2_allWeights t  = some q) : MI l yX2_allWeights wsX2_allWeights { frames := 0, cells := 0, slots := 0, locals := 0 } D cA .int [.ref (ad 0)] (wX2 cA ad t) (wX2 cA ad t) q := by
  refine MI.of (cc := cX2_allWeights) (maxL := 3) (by decide +kernel) rfl rfl rfl (Nat.le_of_ble_eq_true rfl) ?_
  intro p e s m args below meth c A ls Q hx hb hml hts hown hK hP hD hA hS hl hret
  have hl : lv_has ls 3 [(0, .ref (ad 0))] := hl
  have f15 := hts (.fieldLink RX2 15 "ModeDesk$Row" "weights" "[I") (by decide +kernel)
  have f18 := hts (.fieldLink RX2 18 "ModeDesk$Row" "size" "I") (by decide +kernel)
  have iX2 : ∀ w ∈ wsX20, w ∈ wsX2_allWeights := by decide +kernel
  unfold mX2_allWeights at h
  refine lv_iconst (v := 0) hx hb dX2_allWeights_0 (by decide) ?_
  refine lv_istore_n (lv' := [(1, .int 0), (0, .ref (ad 0))]) hx hb dX2_allWeights_1 rfl hl (by decide) rfl (fun ls hl => ?_)
  refine lv_iconst (v := 0) hx hb dX2_allWeights_2 (by decide) ?_
  refine lv_istore_n (lv' := [(2, .int 0), (1, .int 0), (0, .ref (ad 0))]) hx hb dX2_allWeights_3 rfl hl (by decide) rfl (fun ls hl => ?_)
  have hL4 : ∀ (n : Nat) (x1 : Int32) (x2 : Int32) (t : RowT) (z1 : Int32) (ls : Array Slot) (H : Heap) (locs : List Loc), lv_has ls 3 [(0, .ref (ad 0)), (1, .int x1), (2, .int x2)] → va_P D vwCl (wX2 cA ad t) H → va_D A (wX2 cA ad t) → va_S A s.heap H locs → mX2_allWeights_L4 t n x1 x2 = some z1 → (∀ (ls : Array Slot) (H : Heap) (locs : List Loc), lv_has ls 3 [(1, .int z1)] → va_P D vwCl (wX2 cA ad t) H → va_D A (wX2 cA ad t) → va_S A s.heap H locs → W p l e (headSpec wsX2_allWeights { frames := 0, cells := 0, slots := 0, locals := 0 }).room s m args below meth c H locs 0 0 Q (F0 m 27 ls [])) → W p l e (headSpec wsX2_allWeights { frames := 0, cells := 0, slots := 0, locals := 0 }).room s m args below meth c H locs 0 0 Q (F0 m 4 ls []) := by
    intro n
    induction n with
    | zero => intro x1 x2 t z1 ls H locs hl hP hD hS h hk4; exact e_n h
    | succ n ih4 =>
      intro x1 x2 t z1 ls H locs hl hP hD hS h hk4
      rw [mX2_allWeights_L4.eq_2] at h
      refine lv_iload_n hx hb dX2_allWeights_4 rfl (lv_at hl 2 rfl) ?_
      refine lv_aload_n hx hb dX2_allWeights_5 rfl (lv_at hl 0 rfl) ?_
      refine va_get (D := D) (ci := 2) (v := .int t.2.2) (C := RX2) (T := TX2) (N := 3) hx hb hts iX2 hown hK hP 0 rfl rfl 2 (Nat.le_of_ble_eq_true rfl) f18 (fun _ h9 => h9) rfl dX2_allWeights_6 ?_
      refine lv_icmp_ge (tgt := 27) hx hb dX2_allWeights_9 (by decide) (fun c2 => ?_) (fun c2 => ?_)
      · have h := e_t c2 h
        obtain rfl := e_s h
        exact hk4 _ _ _ (lv_sub hl [1] rfl) hP hD hS
      · have h := e_f c2 h
        refine lv_iload_n hx hb dX2_allWeights_12 rfl (lv_at hl 1 rfl) ?_
        refine lv_aload_n hx hb dX2_allWeights_13 rfl (lv_at hl 0 rfl) ?_
        refine va_get (D := D) (ci := 2) (v := .ref (ad 2)) (C := RX2) (T := TX2) (N := 3) hx hb hts iX2 hown hK hP 0 rfl rfl 1 (Nat.le_of_ble_eq_true rfl) f15 (fun _ h9 => h9) rfl dX2_allWeights_14 ?_
        refine lv_iload_n hx hb dX2_allWeights_17 rfl (lv_at hl 2 rfl) ?_
        obtain ⟨v3, ev3, nv3, h⟩ := e_rd h
        refine xa_iald hx hb hK hP 2 rfl nv3 ev3 dX2_allWeights_18 ?_
        refine lv_iadd hx hb dX2_allWeights_19 ?_
        refine lv_istore_n (lv' := [(1, .int (x1 + v3)), (0, .ref (ad 0)), (2, .int x2)]) hx hb dX2_allWeights_20 rfl hl (by decide) rfl (fun ls hl => ?_)
        refine lv_iinc (v := (x2 + 1)) (lv' := [(2, .int (x2 + 1)), (1, .int (x1 + v3)), (0, .ref (ad 0))]) hx hb dX2_allWeights_21 hl (k := 2) rfl rfl (by decide) rfl (fun ls hl => ?_)
        refine lv_goto (tgt := 4) hx hb dX2_allWeights_24 (by decide) ?_
        exact ih4 (x1 + v3) (x2 + 1) t z1 _ _ _ (lv_sub hl [2, 1, 0] rfl) hP hD hS h hk4
  obtain ⟨z4, ez4, h⟩ := e_b h
  refine hL4 FU 0 0 t z4 _ _ _ (lv_sub hl [2, 1, 0] rfl) hP hD hS ez4 (fun ls H locs hl hP hD hS => ?_)
  refine lv_iload_n hx hb dX2_allWeights_27 rfl (lv_at hl 0 rfl) ?_
  obtain rfl := e_s h
  exact hret hP hS rfl dX2_allWeights_28
set_option maxHeartbeats 4000000 in
set_option maxRecDepth 100000 in
theorem kX2_nth (l : Launch) (D : va_G) (cA : Nat → ClassId) (ad : Nat → Nat) (t : RowT) (x1 : Int32) (x2 : Int32) (x3 : Int32) (q : Int32) (h : mX2_nth t x1 x2 x3 = some q) : MI l yX2_nth wsX2_nth { frames := 0, cells := 0, slots := 0, locals := 0 } D cA .int [.ref (ad 0), .int x1, .int x2, .int x3] (wX2 cA ad t) (wX2 cA ad t) q := by
  refine MI.of (cc := cX2_nth) (maxL := 6) (by decide +kernel) rfl rfl rfl (Nat.le_of_ble_eq_true rfl) ?_
  intro p e s m args below meth c A ls Q hx hb hml hts hown hK hP hD hA hS hl hret
  have hl : lv_has ls 6 [(0, .ref (ad 0)), (1, .int x1), (2, .int x2), (3, .int x3)] := hl
  have f18 := hts (.fieldLink RX2 18 "ModeDesk$Row" "size" "I") (by decide +kernel)
  have f9 := hts (.fieldLink RX2 9 "ModeDesk$Row" "values" "[I") (by decide +kernel)
  have iX2 : ∀ w ∈ wsX20, w ∈ wsX2_nth := by decide +kernel
  unfold mX2_nth at h
  refine lv_iload_n hx hb dX2_nth_0 rfl (lv_at hl 3 rfl) ?_
  refine lv_istore (lv' := [(4, .int x3), (0, .ref (ad 0)), (1, .int x1), (2, .int x2), (3, .int x3)]) hx hb dX2_nth_1 hl (by decide) rfl (fun ls hl => ?_)
  refine lv_iload_n hx hb dX2_nth_3 rfl (lv_at hl 3 rfl) ?_
  refine lv_istore (lv' := [(5, .int x2), (4, .int x3), (0, .ref (ad 0)), (1, .int x1), (2, .int x2), (3, .int x3)]) hx hb dX2_nth_4 hl (by decide) rfl (fun ls hl => ?_)
  have hL6 : ∀ (n : Nat) (x1 : Int32) (x4 : Int32) (x5 : Int32) (ls : Array Slot) (H : Heap) (locs : List Loc), lv_has ls 6 [(0, .ref (ad 0)), (1, .int x1), (4, .int x4), (5, .int x5)] → va_P D vwCl (wX2 cA ad t) H → va_D A (wX2 cA ad t) → va_S A s.heap H locs → mX2_nth_L6 t x1 n x4 x5 = some q → W p l e (headSpec wsX2_nth { frames := 0, cells := 0, slots := 0, locals := 0 }).room s m args below meth c H locs 0 0 Q (F0 m 6 ls []) := by
    intro n
    induction n with
    | zero => intro x1 x4 x5 ls H locs hl hP hD hS h; exact e_n h
    | succ n ih6 =>
      intro x1 x4 x5 ls H locs hl hP hD hS h
      rw [mX2_nth_L6.eq_2] at h
      refine lv_iload hx hb dX2_nth_6 (lv_at hl 3 rfl) ?_
      refine lv_aload_n hx hb dX2_nth_8 rfl (lv_at hl 0 rfl) ?_
      refine va_get (D := D) (ci := 2) (v := .int t.2.2) (C := RX2) (T := TX2) (N := 3) hx hb hts iX2 hown hK hP 0 rfl rfl 2 (Nat.le_of_ble_eq_true rfl) f18 (fun _ h9 => h9) rfl dX2_nth_9 ?_
      refine lv_icmp_ge (tgt := 43) hx hb dX2_nth_12 (by decide) (fun c2 => ?_) (fun c2 => ?_)
      · have h := e_t c2 h
        refine lv_bipush (v := (-2)) hx hb dX2_nth_43 (by decide) ?_
        obtain rfl := e_s h
        exact hret hP hS rfl dX2_nth_45
      · have h := e_f c2 h
        refine lv_aload_n hx hb dX2_nth_15 rfl (lv_at hl 0 rfl) ?_
        refine va_get (D := D) (ci := 2) (v := .ref (ad 1)) (C := RX2) (T := TX2) (N := 3) hx hb hts iX2 hown hK hP 0 rfl rfl 0 (Nat.le_of_ble_eq_true rfl) f9 (fun _ h9 => h9) rfl dX2_nth_16 ?_
        refine lv_iload hx hb dX2_nth_19 (lv_at hl 3 rfl) ?_
        obtain ⟨v3, ev3, nv3, h⟩ := e_rd h
        refine xa_iald hx hb hK hP 1 rfl nv3 ev3 dX2_nth_21 ?_
        refine lv_iload_n hx hb dX2_nth_22 rfl (lv_at hl 1 rfl) ?_
        refine lv_icmp_ne (tgt := 37) hx hb dX2_nth_23 (by decide) (fun c4 => ?_) (fun c4 => ?_)
        · have h := e_t c4 h
          refine lv_iinc (v := (x5 + 1)) (lv' := [(5, .int (x5 + 1)), (0, .ref (ad 0)), (1, .int x1), (4, .int x4)]) hx hb dX2_nth_37 hl (k := 3) rfl rfl (by decide) rfl (fun ls hl => ?_)
          refine lv_goto (tgt := 6) hx hb dX2_nth_40 (by decide) ?_
          exact ih6 x1 x4 (x5 + 1) _ _ _ (lv_sub hl [1, 2, 3, 0] rfl) hP hD hS h
        · have h := e_f (not_not_intro c4) h
          refine lv_iinc (v := (x4 + (-1))) (lv' := [(4, .int (x4 + (-1))), (0, .ref (ad 0)), (1, .int x1), (5, .int x5)]) hx hb dX2_nth_26 hl (k := 2) rfl rfl (by decide) rfl (fun ls hl => ?_)
          refine lv_iload hx hb dX2_nth_29 (lv_at hl 0 rfl) ?_
          refine lv_if_ne (tgt := 37) hx hb dX2_nth_31 (by decide) (fun c5 => ?_) (fun c5 => ?_)
          · have h := e_t c5 h
            refine lv_iinc (v := (x5 + 1)) (lv' := [(5, .int (x5 + 1)), (4, .int (x4 + (-1))), (0, .ref (ad 0)), (1, .int x1)]) hx hb dX2_nth_37 hl (k := 3) rfl rfl (by decide) rfl (fun ls hl => ?_)
            refine lv_goto (tgt := 6) hx hb dX2_nth_40 (by decide) ?_
            exact ih6 x1 (x4 + (-1)) (x5 + 1) _ _ _ (lv_sub hl [2, 3, 1, 0] rfl) hP hD hS h
          · have h := e_f (not_not_intro c5) h
            refine lv_iload hx hb dX2_nth_34 (lv_at hl 3 rfl) ?_
            obtain rfl := e_s h
            exact hret hP hS rfl dX2_nth_36
  exact hL6 FU x1 x3 x2 _ _ _ (lv_sub hl [2, 3, 1, 0] rfl) hP hD hS h
set_option maxHeartbeats 4000000 in
set_option maxRecDepth 100000 in
theorem kX2_from (l : Launch) (D : va_G) (cA : Nat → ClassId) (ad : Nat → Nat) (t : RowT) (x1 : Int32) (x2 : Int32) (q : Int32) (h : mX2_from t x1 x2 = some q) : MI l yX2_from wsX2_from { frames := 1, cells := 0, slots := 0, locals := 25 } D cA .int [.ref (ad 0), .int x1, .int x2] (wX2 cA ad t) (wX2 cA ad t) q := by
  refine MI.of (cc := cX2_from) (maxL := 3) (by decide +kernel) rfl rfl rfl (Nat.le_of_ble_eq_true rfl) ?_
  intro p e s m args below meth c A ls Q hx hb hml hts hown hK hP hD hA hS hl hret
  have hl : lv_has ls 3 [(0, .ref (ad 0)), (1, .int x1), (2, .int x2)] := hl
  unfold mX2_from at h
  refine lv_aload_n hx hb dX2_from_0 rfl (lv_at hl 0 rfl) ?_
  refine lv_iload_n hx hb dX2_from_1 rfl (lv_at hl 1 rfl) ?_
  refine lv_iload_n hx hb dX2_from_2 rfl (lv_at hl 2 rfl) ?_
  refine lv_iconst (v := 1) hx hb dX2_from_3 (by decide) ?_
  obtain ⟨q1, eq1, h⟩ := e_b h
  refine xv_i0 (As := [.int x1, .int x2, .int 1]) (rest := []) (ci := 2) (b := ad 0) ⟨hx, hb, hml, hown, hts⟩ hl.1 (kX2_nth l D cA ad t x1 x2 1  _ eq1) (cwV 3 hts gX2_from_X2_nth rfl rfl rfl (by decide +kernel) ⟨Nat.le_of_ble_eq_true rfl, Nat.le_of_ble_eq_true rfl⟩) rfl hK hP hD hS hA 0 rfl rfl rfl rfl (Nat.le_of_ble_eq_true rfl) dX2_from_4 ⟨Nat.zero_le _, Nat.zero_le _⟩ (fun H locs hP hD hS hnq1 => ?_)
  have hP : va_P D vwCl (wX2 cA ad t) H := hP
  have hD : va_D A (wX2 cA ad t) := hD
  obtain rfl := e_s h
  exact hret hP hS rfl dX2_from_7
set_option maxHeartbeats 4000000 in
set_option maxRecDepth 100000 in
theorem kX2_upTo (l : Launch) (D : va_G) (cA : Nat → ClassId) (ad : Nat → Nat) (t : RowT) (x1 : Int32) (x2 : Int32) (q : Int32) (h : mX2_upTo t x1 x2 = some q) : MI l yX2_upTo wsX2_upTo { frames := 0, cells := 0, slots := 0, locals := 0 } D cA .int [.ref (ad 0), .int x1, .int x2] (wX2 cA ad t) (wX2 cA ad t) q := by
  refine MI.of (cc := cX2_upTo) (maxL := 4) (by decide +kernel) rfl rfl rfl (Nat.le_of_ble_eq_true rfl) ?_
  intro p e s m args below meth c A ls Q hx hb hml hts hown hK hP hD hA hS hl hret
  have hl : lv_has ls 4 [(0, .ref (ad 0)), (1, .int x1), (2, .int x2)] := hl
  have f9 := hts (.fieldLink RX2 9 "ModeDesk$Row" "values" "[I") (by decide +kernel)
  have iX2 : ∀ w ∈ wsX20, w ∈ wsX2_upTo := by decide +kernel
  unfold mX2_upTo at h
  refine lv_iload_n hx hb dX2_upTo_0 rfl (lv_at hl 2 rfl) ?_
  refine lv_istore_n (lv' := [(3, .int x2), (0, .ref (ad 0)), (1, .int x1), (2, .int x2)]) hx hb dX2_upTo_1 rfl hl (by decide) rfl (fun ls hl => ?_)
  have hL2 : ∀ (n : Nat) (x1 : Int32) (x3 : Int32) (ls : Array Slot) (H : Heap) (locs : List Loc), lv_has ls 4 [(0, .ref (ad 0)), (1, .int x1), (3, .int x3)] → va_P D vwCl (wX2 cA ad t) H → va_D A (wX2 cA ad t) → va_S A s.heap H locs → mX2_upTo_L2 t x1 n x3 = some q → W p l e (headSpec wsX2_upTo { frames := 0, cells := 0, slots := 0, locals := 0 }).room s m args below meth c H locs 0 0 Q (F0 m 2 ls []) := by
    intro n
    induction n with
    | zero => intro x1 x3 ls H locs hl hP hD hS h; exact e_n h
    | succ n ih2 =>
      intro x1 x3 ls H locs hl hP hD hS h
      rw [mX2_upTo_L2.eq_2] at h
      refine lv_iload_n hx hb dX2_upTo_2 rfl (lv_at hl 2 rfl) ?_
      refine lv_if_lt (tgt := 24) hx hb dX2_upTo_3 (by decide) (fun c2 => ?_) (fun c2 => ?_)
      · have h := e_t c2 h
        refine lv_bipush (v := (-2)) hx hb dX2_upTo_24 (by decide) ?_
        obtain rfl := e_s h
        exact hret hP hS rfl dX2_upTo_26
      · have h := e_f c2 h
        refine lv_aload_n hx hb dX2_upTo_6 rfl (lv_at hl 0 rfl) ?_
        refine va_get (D := D) (ci := 2) (v := .ref (ad 1)) (C := RX2) (T := TX2) (N := 3) hx hb hts iX2 hown hK hP 0 rfl rfl 0 (Nat.le_of_ble_eq_true rfl) f9 (fun _ h9 => h9) rfl dX2_upTo_7 ?_
        refine lv_iload_n hx hb dX2_upTo_10 rfl (lv_at hl 2 rfl) ?_
        obtain ⟨v3, ev3, nv3, h⟩ := e_rd h
        refine xa_iald hx hb hK hP 1 rfl nv3 ev3 dX2_upTo_11 ?_
        refine lv_iload_n hx hb dX2_upTo_12 rfl (lv_at hl 1 rfl) ?_
        refine lv_icmp_ne (tgt := 18) hx hb dX2_upTo_13 (by decide) (fun c4 => ?_) (fun c4 => ?_)
        · have h := e_t c4 h
          refine lv_iinc (v := (x3 + (-1))) (lv' := [(3, .int (x3 + (-1))), (0, .ref (ad 0)), (1, .int x1)]) hx hb dX2_upTo_18 hl (k := 2) rfl rfl (by decide) rfl (fun ls hl => ?_)
          refine lv_goto (tgt := 2) hx hb dX2_upTo_21 (by decide) ?_
          exact ih2 x1 (x3 + (-1)) _ _ _ (lv_sub hl [1, 2, 0] rfl) hP hD hS h
        · have h := e_f (not_not_intro c4) h
          refine lv_iload_n hx hb dX2_upTo_16 rfl (lv_at hl 2 rfl) ?_
          obtain rfl := e_s h
          exact hret hP hS rfl dX2_upTo_17
  exact hL2 FU x1 x2 _ _ _ (lv_sub hl [1, 2, 0] rfl) hP hD hS h
set_option maxHeartbeats 4000000 in
set_option maxRecDepth 100000 in
theorem kX3_begin (l : Launch) (D : va_G) (cA : Nat → ClassId) (ad : Nat → Nat) (t : TalT) (x1 : Int32) (q : TalT) (h : mX3_begin t x1 = some q) : MV l yX3_begin wsX3_begin { frames := 0, cells := 0, slots := 0, locals := 0 } D cA [.ref (ad 0), .int x1] (wX3 cA ad t) (wX3 cA ad q) := by
  refine MV.of (cc := cX3_begin) (maxL := 3) (by decide) rfl rfl rfl (Nat.le_of_ble_eq_true rfl) ?_
  intro p e s m args below meth c A ls Q hx hb hml hts hown hK hP hD hA hS hl hret
  have hl : lv_has ls 3 [(0, .ref (ad 0)), (1, .int x1)] := hl
  have f21 := hts (.fieldLink RX3 21 "ModeDesk$Tally" "kind" "[I") (by decide +kernel)
  have f24 := hts (.fieldLink RX3 24 "ModeDesk$Tally" "kinds" "I") (by decide +kernel)
  have f28 := hts (.fieldLink RX3 28 "ModeDesk$Tally" "length" "I") (by decide +kernel)
  have f31 := hts (.fieldLink RX3 31 "ModeDesk$Tally" "best" "I") (by decide +kernel)
  have f34 := hts (.fieldLink RX3 34 "ModeDesk$Tally" "ties" "I") (by decide +kernel)
  have f9 := hts (.fieldLink RX3 9 "ModeDesk$Tally" "number" "[I") (by decide +kernel)
  have iX3 : ∀ w ∈ wsX30, w ∈ wsX3_begin := by decide +kernel
  unfold mX3_begin at h
  refine lv_iconst (v := 0) hx hb dX3_begin_0 (by decide) ?_
  refine lv_istore_n (lv' := [(2, .int 0), (0, .ref (ad 0)), (1, .int x1)]) hx hb dX3_begin_1 rfl hl (by decide) rfl (fun ls hl => ?_)
  have hL2 : ∀ (n : Nat) (x1 : Int32) (x2 : Int32) (t : TalT) (z1 : TalT) (ls : Array Slot) (H : Heap) (locs : List Loc), lv_has ls 3 [(0, .ref (ad 0)), (1, .int x1), (2, .int x2)] → va_P D vwCl (wX3 cA ad t) H → va_D A (wX3 cA ad t) → va_S A s.heap H locs → mX3_begin_L2  n x2 t = some z1 → (∀ (ls : Array Slot) (H : Heap) (locs : List Loc), lv_has ls 3 [(0, .ref (ad 0)), (1, .int x1)] → va_P D vwCl (wX3 cA ad z1) H → va_D A (wX3 cA ad z1) → va_S A s.heap H locs → W p l e (headSpec wsX3_begin { frames := 0, cells := 0, slots := 0, locals := 0 }).room s m args below meth c H locs 0 0 Q (F0 m 28 ls [])) → W p l e (headSpec wsX3_begin { frames := 0, cells := 0, slots := 0, locals := 0 }).room s m args below meth c H locs 0 0 Q (F0 m 2 ls []) := by
    intro n
    induction n with
    | zero => intro x1 x2 t z1 ls H locs hl hP hD hS h hk2; exact e_n h
    | succ n ih2 =>
      intro x1 x2 t z1 ls H locs hl hP hD hS h hk2
      rw [mX3_begin_L2.eq_2] at h
      refine lv_iload_n hx hb dX3_begin_2 rfl (lv_at hl 2 rfl) ?_
      refine lv_aload_n hx hb dX3_begin_3 rfl (lv_at hl 0 rfl) ?_
      refine va_get (D := D) (ci := 3) (v := .int t.2.2.2.2.1) (C := RX3) (T := TX3) (N := 8) hx hb hts iX3 hown hK hP 0 rfl rfl 4 (Nat.le_of_ble_eq_true rfl) f24 (fun _ h9 => h9) rfl dX3_begin_4 ?_
      refine lv_icmp_ge (tgt := 28) hx hb dX3_begin_7 (by decide) (fun c2 => ?_) (fun c2 => ?_)
      · have h := e_t c2 h
        obtain rfl := e_s h
        exact hk2 _ _ _ (lv_sub hl [0, 1] rfl) hP hD hS
      · have h := e_f c2 h
        refine lv_aload_n hx hb dX3_begin_10 rfl (lv_at hl 0 rfl) ?_
        refine va_get (D := D) (ci := 3) (v := .ref (ad 1)) (C := RX3) (T := TX3) (N := 8) hx hb hts iX3 hown hK hP 0 rfl rfl 0 (Nat.le_of_ble_eq_true rfl) f9 (fun _ h9 => h9) rfl dX3_begin_11 ?_
        refine lv_aload_n hx hb dX3_begin_14 rfl (lv_at hl 0 rfl) ?_
        refine va_get (D := D) (ci := 3) (v := .ref (ad 4)) (C := RX3) (T := TX3) (N := 8) hx hb hts iX3 hown hK hP 0 rfl rfl 3 (Nat.le_of_ble_eq_true rfl) f21 (fun _ h9 => h9) rfl dX3_begin_15 ?_
        refine lv_iload_n hx hb dX3_begin_18 rfl (lv_at hl 2 rfl) ?_
        obtain ⟨v3, ev3, nv3, h⟩ := e_rd h
        refine xa_iald hx hb hK hP 4 rfl nv3 ev3 dX3_begin_19 ?_
        refine lv_iconst (v := 0) hx hb dX3_begin_20 (by decide) ?_
        obtain ⟨a4, ea4, na4, h⟩ := e_wr h
        refine xa_iast hx hb hK hP hD hS 1 rfl na4 ea4 dX3_begin_21 (fun H locs hP hD hS => ?_)
        have hP : va_P D vwCl (wX3 cA ad (a4, t.2.1, t.2.2.1, t.2.2.2.1, t.2.2.2.2.1, t.2.2.2.2.2.1, t.2.2.2.2.2.2.1, t.2.2.2.2.2.2.2)) H := hP
        have hD : va_D A (wX3 cA ad (a4, t.2.1, t.2.2.1, t.2.2.2.1, t.2.2.2.2.1, t.2.2.2.2.2.1, t.2.2.2.2.2.2.1, t.2.2.2.2.2.2.2)) := hD
        refine lv_iinc (v := (x2 + 1)) (lv' := [(2, .int (x2 + 1)), (0, .ref (ad 0)), (1, .int x1)]) hx hb dX3_begin_22 hl (k := 2) rfl rfl (by decide) rfl (fun ls hl => ?_)
        refine lv_goto (tgt := 2) hx hb dX3_begin_25 (by decide) ?_
        exact ih2 x1 (x2 + 1) (a4, t.2.1, t.2.2.1, t.2.2.2.1, t.2.2.2.2.1, t.2.2.2.2.2.1, t.2.2.2.2.2.2.1, t.2.2.2.2.2.2.2) z1 _ _ _ (lv_sub hl [1, 2, 0] rfl) hP hD hS h hk2
  obtain ⟨z5, ez5, h⟩ := e_b h
  refine hL2 FU x1 0 t z5 _ _ _ (lv_sub hl [1, 2, 0] rfl) hP hD hS ez5 (fun ls H locs hl hP hD hS => ?_)
  refine lv_aload_n hx hb dX3_begin_28 rfl (lv_at hl 0 rfl) ?_
  refine lv_iconst (v := 0) hx hb dX3_begin_29 (by decide) ?_
  refine va_put (D := D) (ci := 3) (v := .int 0) (ty := .int) (C := RX3) (T := TX3) (N := 8) hx hb hts iX3 tyX3 tyX3_ok nmX3 hown hK hP hD hS 0 rfl rfl 4 (Nat.le_of_ble_eq_true rfl) f24 (fun _ h9 => h9) rfl (tyX3_ok 4 (Nat.le_of_ble_eq_true rfl)) rfl rfl (Nat.le_of_ble_eq_true rfl) dX3_begin_30 (fun H locs hP hD hS => ?_)
  have hP : va_P D vwCl (wX3 cA ad (z5.1, z5.2.1, z5.2.2.1, z5.2.2.2.1, 0, z5.2.2.2.2.2.1, z5.2.2.2.2.2.2.1, z5.2.2.2.2.2.2.2)) H := hP
  have hD : va_D A (wX3 cA ad (z5.1, z5.2.1, z5.2.2.1, z5.2.2.2.1, 0, z5.2.2.2.2.2.1, z5.2.2.2.2.2.2.1, z5.2.2.2.2.2.2.2)) := hD
  refine lv_aload_n hx hb dX3_begin_33 rfl (lv_at hl 0 rfl) ?_
  refine lv_iconst (v := 0) hx hb dX3_begin_34 (by decide) ?_
  refine va_put (D := D) (ci := 3) (v := .int 0) (ty := .int) (C := RX3) (T := TX3) (N := 8) hx hb hts iX3 tyX3 tyX3_ok nmX3 hown hK hP hD hS 0 rfl rfl 5 (Nat.le_of_ble_eq_true rfl) f28 (fun _ h9 => h9) rfl (tyX3_ok 5 (Nat.le_of_ble_eq_true rfl)) rfl rfl (Nat.le_of_ble_eq_true rfl) dX3_begin_35 (fun H locs hP hD hS => ?_)
  have hP : va_P D vwCl (wX3 cA ad (z5.1, z5.2.1, z5.2.2.1, z5.2.2.2.1, 0, 0, z5.2.2.2.2.2.2.1, z5.2.2.2.2.2.2.2)) H := hP
  have hD : va_D A (wX3 cA ad (z5.1, z5.2.1, z5.2.2.1, z5.2.2.2.1, 0, 0, z5.2.2.2.2.2.2.1, z5.2.2.2.2.2.2.2)) := hD
  refine lv_aload_n hx hb dX3_begin_38 rfl (lv_at hl 0 rfl) ?_
  refine lv_iconst (v := (-1)) hx hb dX3_begin_39 (by decide) ?_
  refine va_put (D := D) (ci := 3) (v := .int (-1)) (ty := .int) (C := RX3) (T := TX3) (N := 8) hx hb hts iX3 tyX3 tyX3_ok nmX3 hown hK hP hD hS 0 rfl rfl 6 (Nat.le_of_ble_eq_true rfl) f31 (fun _ h9 => h9) rfl (tyX3_ok 6 (Nat.le_of_ble_eq_true rfl)) rfl rfl (Nat.le_of_ble_eq_true rfl) dX3_begin_40 (fun H locs hP hD hS => ?_)
  have hP : va_P D vwCl (wX3 cA ad (z5.1, z5.2.1, z5.2.2.1, z5.2.2.2.1, 0, 0, (-1), z5.2.2.2.2.2.2.2)) H := hP
  have hD : va_D A (wX3 cA ad (z5.1, z5.2.1, z5.2.2.1, z5.2.2.2.1, 0, 0, (-1), z5.2.2.2.2.2.2.2)) := hD
  refine lv_aload_n hx hb dX3_begin_43 rfl (lv_at hl 0 rfl) ?_
  refine lv_iload_n hx hb dX3_begin_44 rfl (lv_at hl 1 rfl) ?_
  refine va_put (D := D) (ci := 3) (v := .int x1) (ty := .int) (C := RX3) (T := TX3) (N := 8) hx hb hts iX3 tyX3 tyX3_ok nmX3 hown hK hP hD hS 0 rfl rfl 7 (Nat.le_of_ble_eq_true rfl) f34 (fun _ h9 => h9) rfl (tyX3_ok 7 (Nat.le_of_ble_eq_true rfl)) rfl rfl (Nat.le_of_ble_eq_true rfl) dX3_begin_45 (fun H locs hP hD hS => ?_)
  have hP : va_P D vwCl (wX3 cA ad (z5.1, z5.2.1, z5.2.2.1, z5.2.2.2.1, 0, 0, (-1), x1)) H := hP
  have hD : va_D A (wX3 cA ad (z5.1, z5.2.1, z5.2.2.1, z5.2.2.2.1, 0, 0, (-1), x1)) := hD
  obtain rfl := e_s h
  exact hret hP hS dX3_begin_48
set_option maxHeartbeats 4000000 in
set_option maxRecDepth 100000 in
theorem kX3_isAhead (l : Launch) (D : va_G) (cA : Nat → ClassId) (ad : Nat → Nat) (t : TalT) (x1 : Int32) (x2 : Int32) (q : Int32) (h : mX3_isAhead t x1 x2 = some q) : MI l yX3_isAhead wsX3_isAhead { frames := 0, cells := 0, slots := 0, locals := 0 } D cA .boolean [.ref (ad 0), .int x1, .int x2] (wX3 cA ad t) (wX3 cA ad t) q := by
  refine MI.of (cc := cX3_isAhead) (maxL := 3) (by decide +kernel) rfl rfl rfl (Nat.le_of_ble_eq_true rfl) ?_
  intro p e s m args below meth c A ls Q hx hb hml hts hown hK hP hD hA hS hl hret
  have hl : lv_has ls 3 [(0, .ref (ad 0)), (1, .int x1), (2, .int x2)] := hl
  have f15 := hts (.fieldLink RX3 15 "ModeDesk$Tally" "first" "[I") (by decide +kernel)
  have f18 := hts (.fieldLink RX3 18 "ModeDesk$Tally" "last" "[I") (by decide +kernel)
  have f34 := hts (.fieldLink RX3 34 "ModeDesk$Tally" "ties" "I") (by decide +kernel)
  have f9 := hts (.fieldLink RX3 9 "ModeDesk$Tally" "number" "[I") (by decide +kernel)
  have iX3 : ∀ w ∈ wsX30, w ∈ wsX3_isAhead := by decide +kernel
  unfold mX3_isAhead at h
  refine lv_aload_n hx hb dX3_isAhead_0 rfl (lv_at hl 0 rfl) ?_
  refine va_get (D := D) (ci := 3) (v := .ref (ad 1)) (C := RX3) (T := TX3) (N := 8) hx hb hts iX3 hown hK hP 0 rfl rfl 0 (Nat.le_of_ble_eq_true rfl) f9 (fun _ h9 => h9) rfl dX3_isAhead_1 ?_
  refine lv_iload_n hx hb dX3_isAhead_4 rfl (lv_at hl 1 rfl) ?_
  obtain ⟨v1, ev1, nv1, h⟩ := e_rd h
  refine xa_iald hx hb hK hP 1 rfl nv1 ev1 dX3_isAhead_5 ?_
  refine lv_aload_n hx hb dX3_isAhead_6 rfl (lv_at hl 0 rfl) ?_
  refine va_get (D := D) (ci := 3) (v := .ref (ad 1)) (C := RX3) (T := TX3) (N := 8) hx hb hts iX3 hown hK hP 0 rfl rfl 0 (Nat.le_of_ble_eq_true rfl) f9 (fun _ h9 => h9) rfl dX3_isAhead_7 ?_
  refine lv_iload_n hx hb dX3_isAhead_10 rfl (lv_at hl 2 rfl) ?_
  obtain ⟨v2, ev2, nv2, h⟩ := e_rd h
  refine xa_iald hx hb hK hP 1 rfl nv2 ev2 dX3_isAhead_11 ?_
  refine lv_icmp_eq (tgt := 36) hx hb dX3_isAhead_12 (by decide) (fun c3 => ?_) (fun c3 => ?_)
  · have h := e_t c3 h
    refine lv_aload_n hx hb dX3_isAhead_36 rfl (lv_at hl 0 rfl) ?_
    refine va_get (D := D) (ci := 3) (v := .int t.2.2.2.2.2.2.2) (C := RX3) (T := TX3) (N := 8) hx hb hts iX3 hown hK hP 0 rfl rfl 7 (Nat.le_of_ble_eq_true rfl) f34 (fun _ h9 => h9) rfl dX3_isAhead_37 ?_
    by_cases c7 : t.2.2.2.2.2.2.2 = 0
    · have h := e_t c7 h
      refine lv_tableIn (off := 28) (tgt := 68) hx hb dX3_isAhead_40 (by rw [c7]; decide) (by rw [c7]; decide) (by rw [c7]; rfl) (by decide) ?_
      refine lv_aload_n hx hb dX3_isAhead_68 rfl (lv_at hl 0 rfl) ?_
      refine va_get (D := D) (ci := 3) (v := .ref (ad 2)) (C := RX3) (T := TX3) (N := 8) hx hb hts iX3 hown hK hP 0 rfl rfl 1 (Nat.le_of_ble_eq_true rfl) f15 (fun _ h9 => h9) rfl dX3_isAhead_69 ?_
      refine lv_iload_n hx hb dX3_isAhead_72 rfl (lv_at hl 1 rfl) ?_
      obtain ⟨v4, ev4, nv4, h⟩ := e_rd h
      refine xa_iald hx hb hK hP 2 rfl nv4 ev4 dX3_isAhead_73 ?_
      refine lv_aload_n hx hb dX3_isAhead_74 rfl (lv_at hl 0 rfl) ?_
      refine va_get (D := D) (ci := 3) (v := .ref (ad 2)) (C := RX3) (T := TX3) (N := 8) hx hb hts iX3 hown hK hP 0 rfl rfl 1 (Nat.le_of_ble_eq_true rfl) f15 (fun _ h9 => h9) rfl dX3_isAhead_75 ?_
      refine lv_iload_n hx hb dX3_isAhead_78 rfl (lv_at hl 2 rfl) ?_
      obtain ⟨v5, ev5, nv5, h⟩ := e_rd h
      refine xa_iald hx hb hK hP 2 rfl nv5 ev5 dX3_isAhead_79 ?_
      refine lv_icmp_ge (tgt := 87) hx hb dX3_isAhead_80 (by decide) (fun c6 => ?_) (fun c6 => ?_)
      · have h := e_t c6 h
        refine lv_iconst (v := 0) hx hb dX3_isAhead_87 (by decide) ?_
        obtain rfl := e_s h
        exact hret hP hS (show narrow .boolean (.int 0) = .int 0 from rfl) dX3_isAhead_88
      · have h := e_f c6 h
        refine lv_iconst (v := 1) hx hb dX3_isAhead_83 (by decide) ?_
        refine lv_goto (tgt := 88) hx hb dX3_isAhead_84 (by decide) ?_
        obtain rfl := e_s h
        exact hret hP hS (show narrow .boolean (.int 1) = .int 1 from rfl) dX3_isAhead_88
    have h := e_f c7 h
    by_cases c11 : t.2.2.2.2.2.2.2 = 1
    · have h := e_t c11 h
      refine lv_tableIn (off := 49) (tgt := 89) hx hb dX3_isAhead_40 (by rw [c11]; decide) (by rw [c11]; decide) (by rw [c11]; rfl) (by decide) ?_
      refine lv_aload_n hx hb dX3_isAhead_89 rfl (lv_at hl 0 rfl) ?_
      refine va_get (D := D) (ci := 3) (v := .ref (ad 3)) (C := RX3) (T := TX3) (N := 8) hx hb hts iX3 hown hK hP 0 rfl rfl 2 (Nat.le_of_ble_eq_true rfl) f18 (fun _ h9 => h9) rfl dX3_isAhead_90 ?_
      refine lv_iload_n hx hb dX3_isAhead_93 rfl (lv_at hl 1 rfl) ?_
      obtain ⟨v8, ev8, nv8, h⟩ := e_rd h
      refine xa_iald hx hb hK hP 3 rfl nv8 ev8 dX3_isAhead_94 ?_
      refine lv_aload_n hx hb dX3_isAhead_95 rfl (lv_at hl 0 rfl) ?_
      refine va_get (D := D) (ci := 3) (v := .ref (ad 3)) (C := RX3) (T := TX3) (N := 8) hx hb hts iX3 hown hK hP 0 rfl rfl 2 (Nat.le_of_ble_eq_true rfl) f18 (fun _ h9 => h9) rfl dX3_isAhead_96 ?_
      refine lv_iload_n hx hb dX3_isAhead_99 rfl (lv_at hl 2 rfl) ?_
      obtain ⟨v9, ev9, nv9, h⟩ := e_rd h
      refine xa_iald hx hb hK hP 3 rfl nv9 ev9 dX3_isAhead_100 ?_
      refine lv_icmp_le (tgt := 108) hx hb dX3_isAhead_101 (by decide) (fun c10 => ?_) (fun c10 => ?_)
      · have h := e_t c10 h
        refine lv_iconst (v := 0) hx hb dX3_isAhead_108 (by decide) ?_
        obtain rfl := e_s h
        exact hret hP hS (show narrow .boolean (.int 0) = .int 0 from rfl) dX3_isAhead_109
      · have h := e_f c10 h
        refine lv_iconst (v := 1) hx hb dX3_isAhead_104 (by decide) ?_
        refine lv_goto (tgt := 109) hx hb dX3_isAhead_105 (by decide) ?_
        obtain rfl := e_s h
        exact hret hP hS (show narrow .boolean (.int 1) = .int 1 from rfl) dX3_isAhead_109
    have h := e_f c11 h
    by_cases c13 : t.2.2.2.2.2.2.2 = 2
    · have h := e_t c13 h
      refine lv_tableIn (off := 70) (tgt := 110) hx hb dX3_isAhead_40 (by rw [c13]; decide) (by rw [c13]; decide) (by rw [c13]; rfl) (by decide) ?_
      refine lv_iload_n hx hb dX3_isAhead_110 rfl (lv_at hl 1 rfl) ?_
      refine lv_iload_n hx hb dX3_isAhead_111 rfl (lv_at hl 2 rfl) ?_
      refine lv_icmp_ge (tgt := 119) hx hb dX3_isAhead_112 (by decide) (fun c12 => ?_) (fun c12 => ?_)
      · have h := e_t c12 h
        refine lv_iconst (v := 0) hx hb dX3_isAhead_119 (by decide) ?_
        obtain rfl := e_s h
        exact hret hP hS (show narrow .boolean (.int 0) = .int 0 from rfl) dX3_isAhead_120
      · have h := e_f c12 h
        refine lv_iconst (v := 1) hx hb dX3_isAhead_115 (by decide) ?_
        refine lv_goto (tgt := 120) hx hb dX3_isAhead_116 (by decide) ?_
        obtain rfl := e_s h
        exact hret hP hS (show narrow .boolean (.int 1) = .int 1 from rfl) dX3_isAhead_120
    have h := e_f c13 h
    refine lv_tableOut (tgt := 121) hx hb dX3_isAhead_40 (sw_out 2 (fun k hk => by match k, hk with | 0, _ => exact c7 | 1, _ => exact c11 | 2, _ => exact c13 | (n + 3), hk => exact absurd hk (by omega)) (by decide)) (by decide) ?_
    refine lv_iload_n hx hb dX3_isAhead_121 rfl (lv_at hl 1 rfl) ?_
    refine lv_iload_n hx hb dX3_isAhead_122 rfl (lv_at hl 2 rfl) ?_
    refine lv_icmp_le (tgt := 130) hx hb dX3_isAhead_123 (by decide) (fun c14 => ?_) (fun c14 => ?_)
    · have h := e_t c14 h
      refine lv_iconst (v := 0) hx hb dX3_isAhead_130 (by decide) ?_
      obtain rfl := e_s h
      exact hret hP hS (show narrow .boolean (.int 0) = .int 0 from rfl) dX3_isAhead_131
    · have h := e_f c14 h
      refine lv_iconst (v := 1) hx hb dX3_isAhead_126 (by decide) ?_
      refine lv_goto (tgt := 131) hx hb dX3_isAhead_127 (by decide) ?_
      obtain rfl := e_s h
      exact hret hP hS (show narrow .boolean (.int 1) = .int 1 from rfl) dX3_isAhead_131
  · have h := e_f c3 h
    refine lv_aload_n hx hb dX3_isAhead_15 rfl (lv_at hl 0 rfl) ?_
    refine va_get (D := D) (ci := 3) (v := .ref (ad 1)) (C := RX3) (T := TX3) (N := 8) hx hb hts iX3 hown hK hP 0 rfl rfl 0 (Nat.le_of_ble_eq_true rfl) f9 (fun _ h9 => h9) rfl dX3_isAhead_16 ?_
    refine lv_iload_n hx hb dX3_isAhead_19 rfl (lv_at hl 1 rfl) ?_
    obtain ⟨v15, ev15, nv15, h⟩ := e_rd h
    refine xa_iald hx hb hK hP 1 rfl nv15 ev15 dX3_isAhead_20 ?_
    refine lv_aload_n hx hb dX3_isAhead_21 rfl (lv_at hl 0 rfl) ?_
    refine va_get (D := D) (ci := 3) (v := .ref (ad 1)) (C := RX3) (T := TX3) (N := 8) hx hb hts iX3 hown hK hP 0 rfl rfl 0 (Nat.le_of_ble_eq_true rfl) f9 (fun _ h9 => h9) rfl dX3_isAhead_22 ?_
    refine lv_iload_n hx hb dX3_isAhead_25 rfl (lv_at hl 2 rfl) ?_
    obtain ⟨v16, ev16, nv16, h⟩ := e_rd h
    refine xa_iald hx hb hK hP 1 rfl nv16 ev16 dX3_isAhead_26 ?_
    refine lv_icmp_le (tgt := 34) hx hb dX3_isAhead_27 (by decide) (fun c17 => ?_) (fun c17 => ?_)
    · have h := e_t c17 h
      refine lv_iconst (v := 0) hx hb dX3_isAhead_34 (by decide) ?_
      obtain rfl := e_s h
      exact hret hP hS (show narrow .boolean (.int 0) = .int 0 from rfl) dX3_isAhead_35
    · have h := e_f c17 h
      refine lv_iconst (v := 1) hx hb dX3_isAhead_30 (by decide) ?_
      refine lv_goto (tgt := 35) hx hb dX3_isAhead_31 (by decide) ?_
      obtain rfl := e_s h
      exact hret hP hS (show narrow .boolean (.int 1) = .int 1 from rfl) dX3_isAhead_35
set_option maxHeartbeats 4000000 in
set_option maxRecDepth 100000 in
theorem kX3_push (l : Launch) (D : va_G) (cA : Nat → ClassId) (ad : Nat → Nat) (t : TalT) (x1 : Int32) (q : TalT) (h : mX3_push t x1 = some q) : MV l yX3_push wsX3_push { frames := 1, cells := 0, slots := 0, locals := 22 } D cA [.ref (ad 0), .int x1] (wX3 cA ad t) (wX3 cA ad q) := by
  refine MV.of (cc := cX3_push) (maxL := 2) (by decide) rfl rfl rfl (Nat.le_of_ble_eq_true rfl) ?_
  intro p e s m args below meth c A ls Q hx hb hml hts hown hK hP hD hA hS hl hret
  have hl : lv_has ls 2 [(0, .ref (ad 0)), (1, .int x1)] := hl
  have f15 := hts (.fieldLink RX3 15 "ModeDesk$Tally" "first" "[I") (by decide +kernel)
  have f18 := hts (.fieldLink RX3 18 "ModeDesk$Tally" "last" "[I") (by decide +kernel)
  have f21 := hts (.fieldLink RX3 21 "ModeDesk$Tally" "kind" "[I") (by decide +kernel)
  have f24 := hts (.fieldLink RX3 24 "ModeDesk$Tally" "kinds" "I") (by decide +kernel)
  have f28 := hts (.fieldLink RX3 28 "ModeDesk$Tally" "length" "I") (by decide +kernel)
  have f31 := hts (.fieldLink RX3 31 "ModeDesk$Tally" "best" "I") (by decide +kernel)
  have f9 := hts (.fieldLink RX3 9 "ModeDesk$Tally" "number" "[I") (by decide +kernel)
  have iX3 : ∀ w ∈ wsX30, w ∈ wsX3_push := by decide +kernel
  unfold mX3_push at h
  refine lv_aload_n hx hb dX3_push_0 rfl (lv_at hl 0 rfl) ?_
  refine va_get (D := D) (ci := 3) (v := .ref (ad 1)) (C := RX3) (T := TX3) (N := 8) hx hb hts iX3 hown hK hP 0 rfl rfl 0 (Nat.le_of_ble_eq_true rfl) f9 (fun _ h9 => h9) rfl dX3_push_1 ?_
  refine lv_iload_n hx hb dX3_push_4 rfl (lv_at hl 1 rfl) ?_
  obtain ⟨v1, ev1, nv1, h⟩ := e_rd h
  refine xa_iald hx hb hK hP 1 rfl nv1 ev1 dX3_push_5 ?_
  obtain ⟨z2, ez2, h⟩ := e_b h
  have hJ3 : ∀ (ls : Array Slot) (H : Heap) (locs : List Loc), lv_has ls 2 [(0, .ref (ad 0)), (1, .int x1)] → va_P D vwCl (wX3 cA ad z2) H → va_D A (wX3 cA ad z2) → va_S A s.heap H locs → W p l e (headSpec wsX3_push { frames := 1, cells := 0, slots := 0, locals := 22 }).room s m args below meth c H locs 0 0 Q (F0 m 39 ls []) := by
    intro ls H locs hl hP hD hS
    refine lv_aload_n hx hb dX3_push_39 rfl (lv_at hl 0 rfl) ?_
    refine va_get (D := D) (ci := 3) (v := .ref (ad 1)) (C := RX3) (T := TX3) (N := 8) hx hb hts iX3 hown hK hP 0 rfl rfl 0 (Nat.le_of_ble_eq_true rfl) f9 (fun _ h9 => h9) rfl dX3_push_40 ?_
    refine lv_iload_n hx hb dX3_push_43 rfl (lv_at hl 1 rfl) ?_
    refine lv_dup2_11 hx hb dX3_push_44 rfl rfl ?_
    obtain ⟨v4, ev4, nv4, h⟩ := e_rd h
    refine xa_iald hx hb hK hP 1 rfl nv4 ev4 dX3_push_45 ?_
    refine lv_iconst (v := 1) hx hb dX3_push_46 (by decide) ?_
    refine lv_iadd hx hb dX3_push_47 ?_
    obtain ⟨a5, ea5, na5, h⟩ := e_wr h
    refine xa_iast hx hb hK hP hD hS 1 rfl na5 ea5 dX3_push_48 (fun H locs hP hD hS => ?_)
    have hP : va_P D vwCl (wX3 cA ad (a5, z2.2.1, z2.2.2.1, z2.2.2.2.1, z2.2.2.2.2.1, z2.2.2.2.2.2.1, z2.2.2.2.2.2.2.1, z2.2.2.2.2.2.2.2)) H := hP
    have hD : va_D A (wX3 cA ad (a5, z2.2.1, z2.2.2.1, z2.2.2.2.1, z2.2.2.2.2.1, z2.2.2.2.2.2.1, z2.2.2.2.2.2.2.1, z2.2.2.2.2.2.2.2)) := hD
    refine lv_aload_n hx hb dX3_push_49 rfl (lv_at hl 0 rfl) ?_
    refine va_get (D := D) (ci := 3) (v := .ref (ad 3)) (C := RX3) (T := TX3) (N := 8) hx hb hts iX3 hown hK hP 0 rfl rfl 2 (Nat.le_of_ble_eq_true rfl) f18 (fun _ h9 => h9) rfl dX3_push_50 ?_
    refine lv_iload_n hx hb dX3_push_53 rfl (lv_at hl 1 rfl) ?_
    refine lv_aload_n hx hb dX3_push_54 rfl (lv_at hl 0 rfl) ?_
    refine va_get (D := D) (ci := 3) (v := .int z2.2.2.2.2.2.1) (C := RX3) (T := TX3) (N := 8) hx hb hts iX3 hown hK hP 0 rfl rfl 5 (Nat.le_of_ble_eq_true rfl) f28 (fun _ h9 => h9) rfl dX3_push_55 ?_
    obtain ⟨a6, ea6, na6, h⟩ := e_wr h
    refine xa_iast hx hb hK hP hD hS 3 rfl na6 ea6 dX3_push_58 (fun H locs hP hD hS => ?_)
    have hP : va_P D vwCl (wX3 cA ad (a5, z2.2.1, a6, z2.2.2.2.1, z2.2.2.2.2.1, z2.2.2.2.2.2.1, z2.2.2.2.2.2.2.1, z2.2.2.2.2.2.2.2)) H := hP
    have hD : va_D A (wX3 cA ad (a5, z2.2.1, a6, z2.2.2.2.1, z2.2.2.2.2.1, z2.2.2.2.2.2.1, z2.2.2.2.2.2.2.1, z2.2.2.2.2.2.2.2)) := hD
    refine lv_aload_n hx hb dX3_push_59 rfl (lv_at hl 0 rfl) ?_
    refine lv_dup hx hb dX3_push_60 rfl ?_
    refine va_get (D := D) (ci := 3) (v := .int z2.2.2.2.2.2.1) (C := RX3) (T := TX3) (N := 8) hx hb hts iX3 hown hK hP 0 rfl rfl 5 (Nat.le_of_ble_eq_true rfl) f28 (fun _ h9 => h9) rfl dX3_push_61 ?_
    refine lv_iconst (v := 1) hx hb dX3_push_64 (by decide) ?_
    refine lv_iadd hx hb dX3_push_65 ?_
    refine va_put (D := D) (ci := 3) (v := .int (z2.2.2.2.2.2.1 + 1)) (ty := .int) (C := RX3) (T := TX3) (N := 8) hx hb hts iX3 tyX3 tyX3_ok nmX3 hown hK hP hD hS 0 rfl rfl 5 (Nat.le_of_ble_eq_true rfl) f28 (fun _ h9 => h9) rfl (tyX3_ok 5 (Nat.le_of_ble_eq_true rfl)) rfl rfl (Nat.le_of_ble_eq_true rfl) dX3_push_66 (fun H locs hP hD hS => ?_)
    have hP : va_P D vwCl (wX3 cA ad (a5, z2.2.1, a6, z2.2.2.2.1, z2.2.2.2.2.1, (z2.2.2.2.2.2.1 + 1), z2.2.2.2.2.2.2.1, z2.2.2.2.2.2.2.2)) H := hP
    have hD : va_D A (wX3 cA ad (a5, z2.2.1, a6, z2.2.2.2.1, z2.2.2.2.2.1, (z2.2.2.2.2.2.1 + 1), z2.2.2.2.2.2.2.1, z2.2.2.2.2.2.2.2)) := hD
    refine lv_aload_n hx hb dX3_push_69 rfl (lv_at hl 0 rfl) ?_
    refine va_get (D := D) (ci := 3) (v := .int z2.2.2.2.2.2.2.1) (C := RX3) (T := TX3) (N := 8) hx hb hts iX3 hown hK hP 0 rfl rfl 6 (Nat.le_of_ble_eq_true rfl) f31 (fun _ h9 => h9) rfl dX3_push_70 ?_
    refine lv_iconst (v := (-1)) hx hb dX3_push_73 (by decide) ?_
    refine lv_icmp_eq (tgt := 89) hx hb dX3_push_74 (by decide) (fun c7 => ?_) (fun c7 => ?_)
    · have h := e_t c7 h
      refine lv_aload_n hx hb dX3_push_89 rfl (lv_at hl 0 rfl) ?_
      refine lv_iload_n hx hb dX3_push_90 rfl (lv_at hl 1 rfl) ?_
      refine va_put (D := D) (ci := 3) (v := .int x1) (ty := .int) (C := RX3) (T := TX3) (N := 8) hx hb hts iX3 tyX3 tyX3_ok nmX3 hown hK hP hD hS 0 rfl rfl 6 (Nat.le_of_ble_eq_true rfl) f31 (fun _ h9 => h9) rfl (tyX3_ok 6 (Nat.le_of_ble_eq_true rfl)) rfl rfl (Nat.le_of_ble_eq_true rfl) dX3_push_91 (fun H locs hP hD hS => ?_)
      have hP : va_P D vwCl (wX3 cA ad (a5, z2.2.1, a6, z2.2.2.2.1, z2.2.2.2.2.1, (z2.2.2.2.2.2.1 + 1), x1, z2.2.2.2.2.2.2.2)) H := hP
      have hD : va_D A (wX3 cA ad (a5, z2.2.1, a6, z2.2.2.2.1, z2.2.2.2.2.1, (z2.2.2.2.2.2.1 + 1), x1, z2.2.2.2.2.2.2.2)) := hD
      obtain rfl := e_s h
      exact hret hP hS dX3_push_94
    · have h := e_f c7 h
      refine lv_aload_n hx hb dX3_push_77 rfl (lv_at hl 0 rfl) ?_
      refine lv_iload_n hx hb dX3_push_78 rfl (lv_at hl 1 rfl) ?_
      refine lv_aload_n hx hb dX3_push_79 rfl (lv_at hl 0 rfl) ?_
      refine va_get (D := D) (ci := 3) (v := .int z2.2.2.2.2.2.2.1) (C := RX3) (T := TX3) (N := 8) hx hb hts iX3 hown hK hP 0 rfl rfl 6 (Nat.le_of_ble_eq_true rfl) f31 (fun _ h9 => h9) rfl dX3_push_80 ?_
      obtain ⟨q8, eq8, h⟩ := e_b h
      refine xv_i0 (As := [.int x1, .int z2.2.2.2.2.2.2.1]) (rest := []) (ci := 3) (b := ad 0) ⟨hx, hb, hml, hown, hts⟩ hl.1 (kX3_isAhead l D cA ad (a5, z2.2.1, a6, z2.2.2.2.1, z2.2.2.2.2.1, (z2.2.2.2.2.2.1 + 1), z2.2.2.2.2.2.2.1, z2.2.2.2.2.2.2.2) x1 z2.2.2.2.2.2.2.1  _ eq8) (cwV 2 hts gX3_push_X3_isAhead rfl rfl rfl (by decide +kernel) ⟨Nat.le_of_ble_eq_true rfl, Nat.le_of_ble_eq_true rfl⟩) rfl hK hP hD hS hA 0 rfl rfl rfl rfl (Nat.le_of_ble_eq_true rfl) dX3_push_83 ⟨Nat.zero_le _, Nat.zero_le _⟩ (fun H locs hP hD hS hnq8 => ?_)
      have hP : va_P D vwCl (wX3 cA ad (a5, z2.2.1, a6, z2.2.2.2.1, z2.2.2.2.2.1, (z2.2.2.2.2.2.1 + 1), z2.2.2.2.2.2.2.1, z2.2.2.2.2.2.2.2)) H := hP
      have hD : va_D A (wX3 cA ad (a5, z2.2.1, a6, z2.2.2.2.1, z2.2.2.2.2.1, (z2.2.2.2.2.2.1 + 1), z2.2.2.2.2.2.2.1, z2.2.2.2.2.2.2.2)) := hD
      refine lv_if_eq (tgt := 94) hx hb dX3_push_86 (by decide) (fun c9 => ?_) (fun c9 => ?_)
      · have h := e_t c9 h
        obtain rfl := e_s h
        exact hret hP hS dX3_push_94
      · have h := e_f c9 h
        refine lv_aload_n hx hb dX3_push_89 rfl (lv_at hl 0 rfl) ?_
        refine lv_iload_n hx hb dX3_push_90 rfl (lv_at hl 1 rfl) ?_
        refine va_put (D := D) (ci := 3) (v := .int x1) (ty := .int) (C := RX3) (T := TX3) (N := 8) hx hb hts iX3 tyX3 tyX3_ok nmX3 hown hK hP hD hS 0 rfl rfl 6 (Nat.le_of_ble_eq_true rfl) f31 (fun _ h9 => h9) rfl (tyX3_ok 6 (Nat.le_of_ble_eq_true rfl)) rfl rfl (Nat.le_of_ble_eq_true rfl) dX3_push_91 (fun H locs hP hD hS => ?_)
        have hP : va_P D vwCl (wX3 cA ad (a5, z2.2.1, a6, z2.2.2.2.1, z2.2.2.2.2.1, (z2.2.2.2.2.2.1 + 1), x1, z2.2.2.2.2.2.2.2)) H := hP
        have hD : va_D A (wX3 cA ad (a5, z2.2.1, a6, z2.2.2.2.1, z2.2.2.2.2.1, (z2.2.2.2.2.2.1 + 1), x1, z2.2.2.2.2.2.2.2)) := hD
        obtain rfl := e_s h
        exact hret hP hS dX3_push_94
  have h := ez2
  refine lv_if_ne (tgt := 39) hx hb dX3_push_6 (by decide) (fun c10 => ?_) (fun c10 => ?_)
  · have h := e_t c10 h
    obtain rfl := e_s h
    exact hJ3 _ _ _ (lv_sub hl [0, 1] rfl) hP hD hS
  · have h := e_f (not_not_intro c10) h
    refine lv_aload_n hx hb dX3_push_9 rfl (lv_at hl 0 rfl) ?_
    refine va_get (D := D) (ci := 3) (v := .ref (ad 2)) (C := RX3) (T := TX3) (N := 8) hx hb hts iX3 hown hK hP 0 rfl rfl 1 (Nat.le_of_ble_eq_true rfl) f15 (fun _ h9 => h9) rfl dX3_push_10 ?_
    refine lv_iload_n hx hb dX3_push_13 rfl (lv_at hl 1 rfl) ?_
    refine lv_aload_n hx hb dX3_push_14 rfl (lv_at hl 0 rfl) ?_
    refine va_get (D := D) (ci := 3) (v := .int t.2.2.2.2.2.1) (C := RX3) (T := TX3) (N := 8) hx hb hts iX3 hown hK hP 0 rfl rfl 5 (Nat.le_of_ble_eq_true rfl) f28 (fun _ h9 => h9) rfl dX3_push_15 ?_
    obtain ⟨a11, ea11, na11, h⟩ := e_wr h
    refine xa_iast hx hb hK hP hD hS 2 rfl na11 ea11 dX3_push_18 (fun H locs hP hD hS => ?_)
    have hP : va_P D vwCl (wX3 cA ad (t.1, a11, t.2.2.1, t.2.2.2.1, t.2.2.2.2.1, t.2.2.2.2.2.1, t.2.2.2.2.2.2.1, t.2.2.2.2.2.2.2)) H := hP
    have hD : va_D A (wX3 cA ad (t.1, a11, t.2.2.1, t.2.2.2.1, t.2.2.2.2.1, t.2.2.2.2.2.1, t.2.2.2.2.2.2.1, t.2.2.2.2.2.2.2)) := hD
    refine lv_aload_n hx hb dX3_push_19 rfl (lv_at hl 0 rfl) ?_
    refine va_get (D := D) (ci := 3) (v := .ref (ad 4)) (C := RX3) (T := TX3) (N := 8) hx hb hts iX3 hown hK hP 0 rfl rfl 3 (Nat.le_of_ble_eq_true rfl) f21 (fun _ h9 => h9) rfl dX3_push_20 ?_
    refine lv_aload_n hx hb dX3_push_23 rfl (lv_at hl 0 rfl) ?_
    refine va_get (D := D) (ci := 3) (v := .int t.2.2.2.2.1) (C := RX3) (T := TX3) (N := 8) hx hb hts iX3 hown hK hP 0 rfl rfl 4 (Nat.le_of_ble_eq_true rfl) f24 (fun _ h9 => h9) rfl dX3_push_24 ?_
    refine lv_iload_n hx hb dX3_push_27 rfl (lv_at hl 1 rfl) ?_
    obtain ⟨a12, ea12, na12, h⟩ := e_wr h
    refine xa_iast hx hb hK hP hD hS 4 rfl na12 ea12 dX3_push_28 (fun H locs hP hD hS => ?_)
    have hP : va_P D vwCl (wX3 cA ad (t.1, a11, t.2.2.1, a12, t.2.2.2.2.1, t.2.2.2.2.2.1, t.2.2.2.2.2.2.1, t.2.2.2.2.2.2.2)) H := hP
    have hD : va_D A (wX3 cA ad (t.1, a11, t.2.2.1, a12, t.2.2.2.2.1, t.2.2.2.2.2.1, t.2.2.2.2.2.2.1, t.2.2.2.2.2.2.2)) := hD
    refine lv_aload_n hx hb dX3_push_29 rfl (lv_at hl 0 rfl) ?_
    refine lv_dup hx hb dX3_push_30 rfl ?_
    refine va_get (D := D) (ci := 3) (v := .int t.2.2.2.2.1) (C := RX3) (T := TX3) (N := 8) hx hb hts iX3 hown hK hP 0 rfl rfl 4 (Nat.le_of_ble_eq_true rfl) f24 (fun _ h9 => h9) rfl dX3_push_31 ?_
    refine lv_iconst (v := 1) hx hb dX3_push_34 (by decide) ?_
    refine lv_iadd hx hb dX3_push_35 ?_
    refine va_put (D := D) (ci := 3) (v := .int (t.2.2.2.2.1 + 1)) (ty := .int) (C := RX3) (T := TX3) (N := 8) hx hb hts iX3 tyX3 tyX3_ok nmX3 hown hK hP hD hS 0 rfl rfl 4 (Nat.le_of_ble_eq_true rfl) f24 (fun _ h9 => h9) rfl (tyX3_ok 4 (Nat.le_of_ble_eq_true rfl)) rfl rfl (Nat.le_of_ble_eq_true rfl) dX3_push_36 (fun H locs hP hD hS => ?_)
    have hP : va_P D vwCl (wX3 cA ad (t.1, a11, t.2.2.1, a12, (t.2.2.2.2.1 + 1), t.2.2.2.2.2.1, t.2.2.2.2.2.2.1, t.2.2.2.2.2.2.2)) H := hP
    have hD : va_D A (wX3 cA ad (t.1, a11, t.2.2.1, a12, (t.2.2.2.2.1 + 1), t.2.2.2.2.2.1, t.2.2.2.2.2.2.1, t.2.2.2.2.2.2.2)) := hD
    obtain rfl := e_s h
    exact hJ3 _ _ _ (lv_sub hl [0, 1] rfl) hP hD hS
set_option maxHeartbeats 4000000 in
set_option maxRecDepth 100000 in
theorem kX3_order (l : Launch) (D : va_G) (cA : Nat → ClassId) (ad : Nat → Nat) (t : TalT)  (q : TalT) (h : mX3_order t  = some q) : MV l yX3_order wsX3_order { frames := 1, cells := 0, slots := 0, locals := 22 } D cA [.ref (ad 0)] (wX3 cA ad t) (wX3 cA ad q) := by
  refine MV.of (cc := cX3_order) (maxL := 4) (by decide) rfl rfl rfl (Nat.le_of_ble_eq_true rfl) ?_
  intro p e s m args below meth c A ls Q hx hb hml hts hown hK hP hD hA hS hl hret
  have hl : lv_has ls 4 [(0, .ref (ad 0))] := hl
  have f21 := hts (.fieldLink RX3 21 "ModeDesk$Tally" "kind" "[I") (by decide +kernel)
  have f24 := hts (.fieldLink RX3 24 "ModeDesk$Tally" "kinds" "I") (by decide +kernel)
  have iX3 : ∀ w ∈ wsX30, w ∈ wsX3_order := by decide +kernel
  unfold mX3_order at h
  refine lv_iconst (v := 1) hx hb dX3_order_0 (by decide) ?_
  refine lv_istore_n (lv' := [(1, .int 1), (0, .ref (ad 0))]) hx hb dX3_order_1 rfl hl (by decide) rfl (fun ls hl => ?_)
  have hL2 : ∀ (n : Nat) (x1 : Int32) (t : TalT) (z1 : TalT) (ls : Array Slot) (H : Heap) (locs : List Loc), lv_has ls 4 [(0, .ref (ad 0)), (1, .int x1)] → va_P D vwCl (wX3 cA ad t) H → va_D A (wX3 cA ad t) → va_S A s.heap H locs → mX3_order_L2  n x1 t = some z1 → (∀ (ls : Array Slot) (H : Heap) (locs : List Loc), lv_has ls 4 [] → va_P D vwCl (wX3 cA ad z1) H → va_D A (wX3 cA ad z1) → va_S A s.heap H locs → W p l e (headSpec wsX3_order { frames := 1, cells := 0, slots := 0, locals := 22 }).room s m args below meth c H locs 0 0 Q (F0 m 72 ls [])) → W p l e (headSpec wsX3_order { frames := 1, cells := 0, slots := 0, locals := 22 }).room s m args below meth c H locs 0 0 Q (F0 m 2 ls []) := by
    intro n
    induction n with
    | zero => intro x1 t z1 ls H locs hl hP hD hS h hk2; exact e_n h
    | succ n ih2 =>
      intro x1 t z1 ls H locs hl hP hD hS h hk2
      rw [mX3_order_L2.eq_2] at h
      refine lv_iload_n hx hb dX3_order_2 rfl (lv_at hl 1 rfl) ?_
      refine lv_aload_n hx hb dX3_order_3 rfl (lv_at hl 0 rfl) ?_
      refine va_get (D := D) (ci := 3) (v := .int t.2.2.2.2.1) (C := RX3) (T := TX3) (N := 8) hx hb hts iX3 hown hK hP 0 rfl rfl 4 (Nat.le_of_ble_eq_true rfl) f24 (fun _ h9 => h9) rfl dX3_order_4 ?_
      refine lv_icmp_ge (tgt := 72) hx hb dX3_order_7 (by decide) (fun c2 => ?_) (fun c2 => ?_)
      · have h := e_t c2 h
        obtain rfl := e_s h
        exact hk2 _ _ _ (lv_sub hl [] rfl) hP hD hS
      · have h := e_f c2 h
        refine lv_aload_n hx hb dX3_order_10 rfl (lv_at hl 0 rfl) ?_
        refine va_get (D := D) (ci := 3) (v := .ref (ad 4)) (C := RX3) (T := TX3) (N := 8) hx hb hts iX3 hown hK hP 0 rfl rfl 3 (Nat.le_of_ble_eq_true rfl) f21 (fun _ h9 => h9) rfl dX3_order_11 ?_
        refine lv_iload_n hx hb dX3_order_14 rfl (lv_at hl 1 rfl) ?_
        obtain ⟨v3, ev3, nv3, h⟩ := e_rd h
        refine xa_iald hx hb hK hP 4 rfl nv3 ev3 dX3_order_15 ?_
        refine lv_istore_n (lv' := [(2, .int v3), (0, .ref (ad 0)), (1, .int x1)]) hx hb dX3_order_16 rfl hl (by decide) rfl (fun ls hl => ?_)
        refine lv_iload_n hx hb dX3_order_17 rfl (lv_at hl 2 rfl) ?_
        refine lv_istore_n (lv' := [(3, .int x1), (2, .int v3), (0, .ref (ad 0)), (1, .int x1)]) hx hb dX3_order_18 rfl hl (by decide) rfl (fun ls hl => ?_)
        have hL19 : ∀ (n : Nat) (x1 : Int32) (x2 : Int32) (x3 : Int32) (t : TalT) (z4 : Int32 × TalT) (ls : Array Slot) (H : Heap) (locs : List Loc), lv_has ls 4 [(0, .ref (ad 0)), (1, .int x1), (2, .int x2), (3, .int x3)] → va_P D vwCl (wX3 cA ad t) H → va_D A (wX3 cA ad t) → va_S A s.heap H locs → mX3_order_L19 x2 n x3 t = some z4 → (∀ (ls : Array Slot) (H : Heap) (locs : List Loc), lv_has ls 4 [(0, .ref (ad 0)), (1, .int x1), (2, .int x2), (3, .int z4.1)] → va_P D vwCl (wX3 cA ad z4.2) H → va_D A (wX3 cA ad z4.2) → va_S A s.heap H locs → W p l e (headSpec wsX3_order { frames := 1, cells := 0, slots := 0, locals := 22 }).room s m args below meth c H locs 0 0 Q (F0 m 59 ls [])) → W p l e (headSpec wsX3_order { frames := 1, cells := 0, slots := 0, locals := 22 }).room s m args below meth c H locs 0 0 Q (F0 m 19 ls []) := by
          intro n
          induction n with
          | zero => intro x1 x2 x3 t z4 ls H locs hl hP hD hS h hk19; exact e_n h
          | succ n ih19 =>
            intro x1 x2 x3 t z4 ls H locs hl hP hD hS h hk19
            rw [mX3_order_L19.eq_2] at h
            refine lv_iload_n hx hb dX3_order_19 rfl (lv_at hl 3 rfl) ?_
            refine lv_if_le (tgt := 59) hx hb dX3_order_20 (by decide) (fun c5 => ?_) (fun c5 => ?_)
            · have h := e_t c5 h
              obtain rfl := e_s h
              exact hk19 _ _ _ (lv_sub hl [0, 1, 2, 3] rfl) hP hD hS
            · have h := e_f c5 h
              refine lv_aload_n hx hb dX3_order_23 rfl (lv_at hl 0 rfl) ?_
              refine lv_iload_n hx hb dX3_order_24 rfl (lv_at hl 2 rfl) ?_
              refine lv_aload_n hx hb dX3_order_25 rfl (lv_at hl 0 rfl) ?_
              refine va_get (D := D) (ci := 3) (v := .ref (ad 4)) (C := RX3) (T := TX3) (N := 8) hx hb hts iX3 hown hK hP 0 rfl rfl 3 (Nat.le_of_ble_eq_true rfl) f21 (fun _ h9 => h9) rfl dX3_order_26 ?_
              refine lv_iload_n hx hb dX3_order_29 rfl (lv_at hl 3 rfl) ?_
              refine lv_iconst (v := 1) hx hb dX3_order_30 (by decide) ?_
              refine lv_isub hx hb dX3_order_31 ?_
              obtain ⟨v6, ev6, nv6, h⟩ := e_rd h
              refine xa_iald hx hb hK hP 4 rfl nv6 ev6 dX3_order_32 ?_
              obtain ⟨q7, eq7, h⟩ := e_b h
              refine xv_i0 (As := [.int x2, .int v6]) (rest := []) (ci := 3) (b := ad 0) ⟨hx, hb, hml, hown, hts⟩ hl.1 (kX3_isAhead l D cA ad t x2 v6  _ eq7) (cwV 2 hts gX3_order_X3_isAhead rfl rfl rfl (by decide +kernel) ⟨Nat.le_of_ble_eq_true rfl, Nat.le_of_ble_eq_true rfl⟩) rfl hK hP hD hS hA 0 rfl rfl rfl rfl (Nat.le_of_ble_eq_true rfl) dX3_order_33 ⟨Nat.zero_le _, Nat.zero_le _⟩ (fun H locs hP hD hS hnq7 => ?_)
              have hP : va_P D vwCl (wX3 cA ad t) H := hP
              have hD : va_D A (wX3 cA ad t) := hD
              refine lv_if_eq (tgt := 59) hx hb dX3_order_36 (by decide) (fun c8 => ?_) (fun c8 => ?_)
              · have h := e_t c8 h
                obtain rfl := e_s h
                exact hk19 _ _ _ (lv_sub hl [0, 1, 2, 3] rfl) hP hD hS
              · have h := e_f c8 h
                refine lv_aload_n hx hb dX3_order_39 rfl (lv_at hl 0 rfl) ?_
                refine va_get (D := D) (ci := 3) (v := .ref (ad 4)) (C := RX3) (T := TX3) (N := 8) hx hb hts iX3 hown hK hP 0 rfl rfl 3 (Nat.le_of_ble_eq_true rfl) f21 (fun _ h9 => h9) rfl dX3_order_40 ?_
                refine lv_iload_n hx hb dX3_order_43 rfl (lv_at hl 3 rfl) ?_
                refine lv_aload_n hx hb dX3_order_44 rfl (lv_at hl 0 rfl) ?_
                refine va_get (D := D) (ci := 3) (v := .ref (ad 4)) (C := RX3) (T := TX3) (N := 8) hx hb hts iX3 hown hK hP 0 rfl rfl 3 (Nat.le_of_ble_eq_true rfl) f21 (fun _ h9 => h9) rfl dX3_order_45 ?_
                refine lv_iload_n hx hb dX3_order_48 rfl (lv_at hl 3 rfl) ?_
                refine lv_iconst (v := 1) hx hb dX3_order_49 (by decide) ?_
                refine lv_isub hx hb dX3_order_50 ?_
                obtain ⟨v9, ev9, nv9, h⟩ := e_rd h
                refine xa_iald hx hb hK hP 4 rfl nv9 ev9 dX3_order_51 ?_
                obtain ⟨a10, ea10, na10, h⟩ := e_wr h
                refine xa_iast hx hb hK hP hD hS 4 rfl na10 ea10 dX3_order_52 (fun H locs hP hD hS => ?_)
                have hP : va_P D vwCl (wX3 cA ad (t.1, t.2.1, t.2.2.1, a10, t.2.2.2.2.1, t.2.2.2.2.2.1, t.2.2.2.2.2.2.1, t.2.2.2.2.2.2.2)) H := hP
                have hD : va_D A (wX3 cA ad (t.1, t.2.1, t.2.2.1, a10, t.2.2.2.2.1, t.2.2.2.2.2.1, t.2.2.2.2.2.2.1, t.2.2.2.2.2.2.2)) := hD
                refine lv_iinc (v := (x3 + (-1))) (lv' := [(3, .int (x3 + (-1))), (0, .ref (ad 0)), (1, .int x1), (2, .int x2)]) hx hb dX3_order_53 hl (k := 3) rfl rfl (by decide) rfl (fun ls hl => ?_)
                refine lv_goto (tgt := 19) hx hb dX3_order_56 (by decide) ?_
                exact ih19 x1 x2 (x3 + (-1)) (t.1, t.2.1, t.2.2.1, a10, t.2.2.2.2.1, t.2.2.2.2.2.1, t.2.2.2.2.2.2.1, t.2.2.2.2.2.2.2) z4 _ _ _ (lv_sub hl [1, 2, 3, 0] rfl) hP hD hS h hk19
        obtain ⟨z11, ez11, h⟩ := e_b h
        refine hL19 FU x1 v3 x1 t z11 _ _ _ (lv_sub hl [2, 3, 1, 0] rfl) hP hD hS ez11 (fun ls H locs hl hP hD hS => ?_)
        refine lv_aload_n hx hb dX3_order_59 rfl (lv_at hl 0 rfl) ?_
        refine va_get (D := D) (ci := 3) (v := .ref (ad 4)) (C := RX3) (T := TX3) (N := 8) hx hb hts iX3 hown hK hP 0 rfl rfl 3 (Nat.le_of_ble_eq_true rfl) f21 (fun _ h9 => h9) rfl dX3_order_60 ?_
        refine lv_iload_n hx hb dX3_order_63 rfl (lv_at hl 3 rfl) ?_
        refine lv_iload_n hx hb dX3_order_64 rfl (lv_at hl 2 rfl) ?_
        obtain ⟨a12, ea12, na12, h⟩ := e_wr h
        refine xa_iast hx hb hK hP hD hS 4 rfl na12 ea12 dX3_order_65 (fun H locs hP hD hS => ?_)
        have hP : va_P D vwCl (wX3 cA ad (z11.2.1, z11.2.2.1, z11.2.2.2.1, a12, z11.2.2.2.2.2.1, z11.2.2.2.2.2.2.1, z11.2.2.2.2.2.2.2.1, z11.2.2.2.2.2.2.2.2)) H := hP
        have hD : va_D A (wX3 cA ad (z11.2.1, z11.2.2.1, z11.2.2.2.1, a12, z11.2.2.2.2.2.1, z11.2.2.2.2.2.2.1, z11.2.2.2.2.2.2.2.1, z11.2.2.2.2.2.2.2.2)) := hD
        refine lv_iinc (v := (x1 + 1)) (lv' := [(1, .int (x1 + 1)), (0, .ref (ad 0)), (2, .int v3), (3, .int z11.1)]) hx hb dX3_order_66 hl (k := 1) rfl rfl (by decide) rfl (fun ls hl => ?_)
        refine lv_goto (tgt := 2) hx hb dX3_order_69 (by decide) ?_
        exact ih2 (x1 + 1) (z11.2.1, z11.2.2.1, z11.2.2.2.1, a12, z11.2.2.2.2.2.1, z11.2.2.2.2.2.2.1, z11.2.2.2.2.2.2.2.1, z11.2.2.2.2.2.2.2.2) z1 _ _ _ (lv_sub hl [1, 0] rfl) hP hD hS h hk2
  obtain ⟨z13, ez13, h⟩ := e_b h
  refine hL2 FU 1 t z13 _ _ _ (lv_sub hl [1, 0] rfl) hP hD hS ez13 (fun ls H locs hl hP hD hS => ?_)
  obtain rfl := e_s h
  exact hret hP hS dX3_order_72
set_option maxHeartbeats 4000000 in
set_option maxRecDepth 100000 in
theorem kX3_most (l : Launch) (D : va_G) (cA : Nat → ClassId) (ad : Nat → Nat) (t : TalT)  (q : Int32) (h : mX3_most t  = some q) : MI l yX3_most wsX3_most { frames := 0, cells := 0, slots := 0, locals := 0 } D cA .int [.ref (ad 0)] (wX3 cA ad t) (wX3 cA ad t) q := by
  refine MI.of (cc := cX3_most) (maxL := 1) (by decide +kernel) rfl rfl rfl (Nat.le_of_ble_eq_true rfl) ?_
  intro p e s m args below meth c A ls Q hx hb hml hts hown hK hP hD hA hS hl hret
  have hl : lv_has ls 1 [(0, .ref (ad 0))] := hl
  have f31 := hts (.fieldLink RX3 31 "ModeDesk$Tally" "best" "I") (by decide +kernel)
  have f9 := hts (.fieldLink RX3 9 "ModeDesk$Tally" "number" "[I") (by decide +kernel)
  have iX3 : ∀ w ∈ wsX30, w ∈ wsX3_most := by decide +kernel
  unfold mX3_most at h
  refine lv_aload_n hx hb dX3_most_0 rfl (lv_at hl 0 rfl) ?_
  refine va_get (D := D) (ci := 3) (v := .int t.2.2.2.2.2.2.1) (C := RX3) (T := TX3) (N := 8) hx hb hts iX3 hown hK hP 0 rfl rfl 6 (Nat.le_of_ble_eq_true rfl) f31 (fun _ h9 => h9) rfl dX3_most_1 ?_
  refine lv_iconst (v := (-1)) hx hb dX3_most_4 (by decide) ?_
  refine lv_icmp_ne (tgt := 12) hx hb dX3_most_5 (by decide) (fun c1 => ?_) (fun c1 => ?_)
  · have h := e_t c1 h
    refine lv_aload_n hx hb dX3_most_12 rfl (lv_at hl 0 rfl) ?_
    refine va_get (D := D) (ci := 3) (v := .ref (ad 1)) (C := RX3) (T := TX3) (N := 8) hx hb hts iX3 hown hK hP 0 rfl rfl 0 (Nat.le_of_ble_eq_true rfl) f9 (fun _ h9 => h9) rfl dX3_most_13 ?_
    refine lv_aload_n hx hb dX3_most_16 rfl (lv_at hl 0 rfl) ?_
    refine va_get (D := D) (ci := 3) (v := .int t.2.2.2.2.2.2.1) (C := RX3) (T := TX3) (N := 8) hx hb hts iX3 hown hK hP 0 rfl rfl 6 (Nat.le_of_ble_eq_true rfl) f31 (fun _ h9 => h9) rfl dX3_most_17 ?_
    obtain ⟨v2, ev2, nv2, h⟩ := e_rd h
    refine xa_iald hx hb hK hP 1 rfl nv2 ev2 dX3_most_20 ?_
    obtain rfl := e_s h
    exact hret hP hS rfl dX3_most_21
  · have h := e_f (not_not_intro c1) h
    refine lv_iconst (v := 0) hx hb dX3_most_8 (by decide) ?_
    refine lv_goto (tgt := 21) hx hb dX3_most_9 (by decide) ?_
    obtain rfl := e_s h
    exact hret hP hS rfl dX3_most_21
set_option maxHeartbeats 4000000 in
set_option maxRecDepth 100000 in
theorem kX3_hasMajority (l : Launch) (D : va_G) (cA : Nat → ClassId) (ad : Nat → Nat) (t : TalT)  (q : Int32) (h : mX3_hasMajority t  = some q) : MI l yX3_hasMajority wsX3_hasMajority { frames := 1, cells := 0, slots := 0, locals := 20 } D cA .boolean [.ref (ad 0)] (wX3 cA ad t) (wX3 cA ad t) q := by
  refine MI.of (cc := cX3_hasMajority) (maxL := 1) (by decide +kernel) rfl rfl rfl (Nat.le_of_ble_eq_true rfl) ?_
  intro p e s m args below meth c A ls Q hx hb hml hts hown hK hP hD hA hS hl hret
  have hl : lv_has ls 1 [(0, .ref (ad 0))] := hl
  have f28 := hts (.fieldLink RX3 28 "ModeDesk$Tally" "length" "I") (by decide +kernel)
  have iX3 : ∀ w ∈ wsX30, w ∈ wsX3_hasMajority := by decide +kernel
  unfold mX3_hasMajority at h
  refine lv_iconst (v := 2) hx hb dX3_hasMajority_0 (by decide) ?_
  refine lv_aload_n hx hb dX3_hasMajority_1 rfl (lv_at hl 0 rfl) ?_
  obtain ⟨q1, eq1, h⟩ := e_b h
  refine xv_i0 (As := []) (rest := [.int 2]) (ci := 3) (b := ad 0) ⟨hx, hb, hml, hown, hts⟩ hl.1 (kX3_most l D cA ad t   _ eq1) (cwV 0 hts gX3_hasMajority_X3_most rfl rfl rfl (by decide +kernel) ⟨Nat.le_of_ble_eq_true rfl, Nat.le_of_ble_eq_true rfl⟩) rfl hK hP hD hS hA 0 rfl rfl rfl rfl (Nat.le_of_ble_eq_true rfl) dX3_hasMajority_2 ⟨Nat.zero_le _, Nat.zero_le _⟩ (fun H locs hP hD hS hnq1 => ?_)
  have hP : va_P D vwCl (wX3 cA ad t) H := hP
  have hD : va_D A (wX3 cA ad t) := hD
  refine lv_imul hx hb dX3_hasMajority_5 ?_
  refine lv_aload_n hx hb dX3_hasMajority_6 rfl (lv_at hl 0 rfl) ?_
  refine va_get (D := D) (ci := 3) (v := .int t.2.2.2.2.2.1) (C := RX3) (T := TX3) (N := 8) hx hb hts iX3 hown hK hP 0 rfl rfl 5 (Nat.le_of_ble_eq_true rfl) f28 (fun _ h9 => h9) rfl dX3_hasMajority_7 ?_
  refine lv_icmp_le (tgt := 17) hx hb dX3_hasMajority_10 (by decide) (fun c2 => ?_) (fun c2 => ?_)
  · have h := e_t c2 h
    refine lv_iconst (v := 0) hx hb dX3_hasMajority_17 (by decide) ?_
    obtain rfl := e_s h
    exact hret hP hS (show narrow .boolean (.int 0) = .int 0 from rfl) dX3_hasMajority_18
  · have h := e_f c2 h
    refine lv_iconst (v := 1) hx hb dX3_hasMajority_13 (by decide) ?_
    refine lv_goto (tgt := 18) hx hb dX3_hasMajority_14 (by decide) ?_
    obtain rfl := e_s h
    exact hret hP hS (show narrow .boolean (.int 1) = .int 1 from rfl) dX3_hasMajority_18
set_option maxHeartbeats 4000000 in
set_option maxRecDepth 100000 in
theorem kX3_told (l : Launch) (D : va_G) (cA : Nat → ClassId) (ad : Nat → Nat) (t : TalT) (x1 : Int32) (x2 : Int32) (x3 : Int32) (q : Int32) (h : mX3_told t x1 x2 x3 = some q) : MI l yX3_told wsX3_told { frames := 0, cells := 0, slots := 0, locals := 0 } D cA .int [.ref (ad 0), .int x1, .int x2, .int x3] (wX3 cA ad t) (wX3 cA ad t) q := by
  refine MI.of (cc := cX3_told) (maxL := 4) (by decide +kernel) rfl rfl rfl (Nat.le_of_ble_eq_true rfl) ?_
  intro p e s m args below meth c A ls Q hx hb hml hts hown hK hP hD hA hS hl hret
  have hl : lv_has ls 4 [(0, .ref (ad 0)), (1, .int x1), (2, .int x2), (3, .int x3)] := hl
  have f15 := hts (.fieldLink RX3 15 "ModeDesk$Tally" "first" "[I") (by decide +kernel)
  have f18 := hts (.fieldLink RX3 18 "ModeDesk$Tally" "last" "[I") (by decide +kernel)
  have f9 := hts (.fieldLink RX3 9 "ModeDesk$Tally" "number" "[I") (by decide +kernel)
  have iX3 : ∀ w ∈ wsX30, w ∈ wsX3_told := by decide +kernel
  unfold mX3_told at h
  refine lv_iload_n hx hb dX3_told_0 rfl (lv_at hl 2 rfl) ?_
  by_cases c1 : x2 = 0
  · have h := e_t c1 h
    refine lv_tableIn (off := 27) (tgt := 28) hx hb dX3_told_1 (by rw [c1]; decide) (by rw [c1]; decide) (by rw [c1]; rfl) (by decide) ?_
    refine lv_iload_n hx hb dX3_told_28 rfl (lv_at hl 1 rfl) ?_
    obtain rfl := e_s h
    exact hret hP hS rfl dX3_told_29
  have h := e_f c1 h
  by_cases c3 : x2 = 1
  · have h := e_t c3 h
    refine lv_tableIn (off := 29) (tgt := 30) hx hb dX3_told_1 (by rw [c3]; decide) (by rw [c3]; decide) (by rw [c3]; rfl) (by decide) ?_
    refine lv_aload_n hx hb dX3_told_30 rfl (lv_at hl 0 rfl) ?_
    refine va_get (D := D) (ci := 3) (v := .ref (ad 1)) (C := RX3) (T := TX3) (N := 8) hx hb hts iX3 hown hK hP 0 rfl rfl 0 (Nat.le_of_ble_eq_true rfl) f9 (fun _ h9 => h9) rfl dX3_told_31 ?_
    refine lv_iload_n hx hb dX3_told_34 rfl (lv_at hl 1 rfl) ?_
    obtain ⟨v2, ev2, nv2, h⟩ := e_rd h
    refine xa_iald hx hb hK hP 1 rfl nv2 ev2 dX3_told_35 ?_
    obtain rfl := e_s h
    exact hret hP hS rfl dX3_told_36
  have h := e_f c3 h
  by_cases c5 : x2 = 2
  · have h := e_t c5 h
    refine lv_tableIn (off := 36) (tgt := 37) hx hb dX3_told_1 (by rw [c5]; decide) (by rw [c5]; decide) (by rw [c5]; rfl) (by decide) ?_
    refine lv_iload_n hx hb dX3_told_37 rfl (lv_at hl 3 rfl) ?_
    refine lv_aload_n hx hb dX3_told_38 rfl (lv_at hl 0 rfl) ?_
    refine va_get (D := D) (ci := 3) (v := .ref (ad 2)) (C := RX3) (T := TX3) (N := 8) hx hb hts iX3 hown hK hP 0 rfl rfl 1 (Nat.le_of_ble_eq_true rfl) f15 (fun _ h9 => h9) rfl dX3_told_39 ?_
    refine lv_iload_n hx hb dX3_told_42 rfl (lv_at hl 1 rfl) ?_
    obtain ⟨v4, ev4, nv4, h⟩ := e_rd h
    refine xa_iald hx hb hK hP 2 rfl nv4 ev4 dX3_told_43 ?_
    refine lv_iadd hx hb dX3_told_44 ?_
    obtain rfl := e_s h
    exact hret hP hS rfl dX3_told_45
  have h := e_f c5 h
  refine lv_tableOut (tgt := 46) hx hb dX3_told_1 (sw_out 2 (fun k hk => by match k, hk with | 0, _ => exact c1 | 1, _ => exact c3 | 2, _ => exact c5 | (n + 3), hk => exact absurd hk (by omega)) (by decide)) (by decide) ?_
  refine lv_iload_n hx hb dX3_told_46 rfl (lv_at hl 3 rfl) ?_
  refine lv_aload_n hx hb dX3_told_47 rfl (lv_at hl 0 rfl) ?_
  refine va_get (D := D) (ci := 3) (v := .ref (ad 3)) (C := RX3) (T := TX3) (N := 8) hx hb hts iX3 hown hK hP 0 rfl rfl 2 (Nat.le_of_ble_eq_true rfl) f18 (fun _ h9 => h9) rfl dX3_told_48 ?_
  refine lv_iload_n hx hb dX3_told_51 rfl (lv_at hl 1 rfl) ?_
  obtain ⟨v6, ev6, nv6, h⟩ := e_rd h
  refine xa_iald hx hb hK hP 3 rfl nv6 ev6 dX3_told_52 ?_
  refine lv_iadd hx hb dX3_told_53 ?_
  obtain rfl := e_s h
  exact hret hP hS rfl dX3_told_54
set_option maxHeartbeats 4000000 in
set_option maxRecDepth 100000 in
theorem kX4_put (l : Launch) (D : va_G) (cA : Nat → ClassId) (ad : Nat → Nat) (tape : TapT) (x1 : Int32) (q : TapT) (h : mX4_put tape x1 = some q) : MV l yX4_put wsX4_put { frames := 0, cells := 0, slots := 0, locals := 0 } D cA [.ref (ad 0), .int x1] (wX4 cA ad tape) (wX4 cA ad q) := by
  refine MV.of (cc := cX4_put) (maxL := 3) (by decide) rfl rfl rfl (Nat.le_of_ble_eq_true rfl) ?_
  intro p e s m args below meth c A ls Q hx hb hml hts hown hK hP hD hA hS hl hret
  have hl : lv_has ls 3 [(0, .ref (ad 0)), (1, .int x1)] := hl
  have f15 := hts (.fieldLink RX4 15 "ModeDesk$Tape" "fed" "I") (by decide +kernel)
  have f9 := hts (.fieldLink RX4 9 "ModeDesk$Tape" "bytes" "[C") (by decide +kernel)
  have iX4 : ∀ w ∈ wsX40, w ∈ wsX4_put := by decide +kernel
  unfold mX4_put at h
  refine lv_bipush (v := 24) hx hb dX4_put_0 (by decide) ?_
  refine lv_istore_n (lv' := [(2, .int 24), (0, .ref (ad 0)), (1, .int x1)]) hx hb dX4_put_2 rfl hl (by decide) rfl (fun ls hl => ?_)
  have hL3 : ∀ (n : Nat) (x1 : Int32) (x2 : Int32) (tape : TapT) (z1 : TapT) (ls : Array Slot) (H : Heap) (locs : List Loc), lv_has ls 3 [(0, .ref (ad 0)), (1, .int x1), (2, .int x2)] → va_P D vwCl (wX4 cA ad tape) H → va_D A (wX4 cA ad tape) → va_S A s.heap H locs → mX4_put_L3 x1 n x2 tape = some z1 → (∀ (ls : Array Slot) (H : Heap) (locs : List Loc), lv_has ls 3 [] → va_P D vwCl (wX4 cA ad z1) H → va_D A (wX4 cA ad z1) → va_S A s.heap H locs → W p l e (headSpec wsX4_put { frames := 0, cells := 0, slots := 0, locals := 0 }).room s m args below meth c H locs 0 0 Q (F0 m 40 ls [])) → W p l e (headSpec wsX4_put { frames := 0, cells := 0, slots := 0, locals := 0 }).room s m args below meth c H locs 0 0 Q (F0 m 3 ls []) := by
    intro n
    induction n with
    | zero => intro x1 x2 tape z1 ls H locs hl hP hD hS h hk3; exact e_n h
    | succ n ih3 =>
      intro x1 x2 tape z1 ls H locs hl hP hD hS h hk3
      rw [mX4_put_L3.eq_2] at h
      refine lv_iload_n hx hb dX4_put_3 rfl (lv_at hl 2 rfl) ?_
      refine lv_if_lt (tgt := 40) hx hb dX4_put_4 (by decide) (fun c2 => ?_) (fun c2 => ?_)
      · have h := e_t c2 h
        obtain rfl := e_s h
        exact hk3 _ _ _ (lv_sub hl [] rfl) hP hD hS
      · have h := e_f c2 h
        refine lv_aload_n hx hb dX4_put_7 rfl (lv_at hl 0 rfl) ?_
        refine va_get (D := D) (ci := 4) (v := .ref (ad 1)) (C := RX4) (T := TX4) (N := 7) hx hb hts iX4 hown hK hP 0 rfl rfl 0 (Nat.le_of_ble_eq_true rfl) f9 (fun _ h9 => h9) rfl dX4_put_8 ?_
        refine lv_aload_n hx hb dX4_put_11 rfl (lv_at hl 0 rfl) ?_
        refine va_get (D := D) (ci := 4) (v := .int tape.2.1) (C := RX4) (T := TX4) (N := 7) hx hb hts iX4 hown hK hP 0 rfl rfl 1 (Nat.le_of_ble_eq_true rfl) f15 (fun _ h9 => h9) rfl dX4_put_12 ?_
        refine lv_iload_n hx hb dX4_put_15 rfl (lv_at hl 1 rfl) ?_
        refine lv_iload_n hx hb dX4_put_16 rfl (lv_at hl 2 rfl) ?_
        refine lv_iushr (v := (Int32.toUInt32 x1 >>> (Int32.toUInt32 x2 &&& Int32.toUInt32 31)).toInt32) hx hb dX4_put_17 rfl ?_
        refine lv_sipush (v := 255) hx hb dX4_put_18 (by decide) ?_
        refine lv_iand hx hb dX4_put_21 ?_
        refine lv_i2c (v := (Int32.toUInt32 ((Int32.toUInt32 x1 >>> (Int32.toUInt32 x2 &&& Int32.toUInt32 31)).toInt32 &&& 255) % 65536).toInt32) hx hb dX4_put_22 rfl ?_
        obtain ⟨a3, ea3, na3, h⟩ := e_wr h
        refine xa_cast hx hb hK hP hD hS 1 rfl na3 ea3 dX4_put_23 (fun H locs hP hD hS => ?_)
        have hP : va_P D vwCl (wX4 cA ad (a3, tape.2.1, tape.2.2.1, tape.2.2.2.1, tape.2.2.2.2.1, tape.2.2.2.2.2.1, tape.2.2.2.2.2.2)) H := hP
        have hD : va_D A (wX4 cA ad (a3, tape.2.1, tape.2.2.1, tape.2.2.2.1, tape.2.2.2.2.1, tape.2.2.2.2.2.1, tape.2.2.2.2.2.2)) := hD
        refine lv_aload_n hx hb dX4_put_24 rfl (lv_at hl 0 rfl) ?_
        refine lv_dup hx hb dX4_put_25 rfl ?_
        refine va_get (D := D) (ci := 4) (v := .int tape.2.1) (C := RX4) (T := TX4) (N := 7) hx hb hts iX4 hown hK hP 0 rfl rfl 1 (Nat.le_of_ble_eq_true rfl) f15 (fun _ h9 => h9) rfl dX4_put_26 ?_
        refine lv_iconst (v := 1) hx hb dX4_put_29 (by decide) ?_
        refine lv_iadd hx hb dX4_put_30 ?_
        refine va_put (D := D) (ci := 4) (v := .int (tape.2.1 + 1)) (ty := .int) (C := RX4) (T := TX4) (N := 7) hx hb hts iX4 tyX4 tyX4_ok nmX4 hown hK hP hD hS 0 rfl rfl 1 (Nat.le_of_ble_eq_true rfl) f15 (fun _ h9 => h9) rfl (tyX4_ok 1 (Nat.le_of_ble_eq_true rfl)) rfl rfl (Nat.le_of_ble_eq_true rfl) dX4_put_31 (fun H locs hP hD hS => ?_)
        have hP : va_P D vwCl (wX4 cA ad (a3, (tape.2.1 + 1), tape.2.2.1, tape.2.2.2.1, tape.2.2.2.2.1, tape.2.2.2.2.2.1, tape.2.2.2.2.2.2)) H := hP
        have hD : va_D A (wX4 cA ad (a3, (tape.2.1 + 1), tape.2.2.1, tape.2.2.2.1, tape.2.2.2.2.1, tape.2.2.2.2.2.1, tape.2.2.2.2.2.2)) := hD
        refine lv_iinc (v := (x2 + (-8))) (lv' := [(2, .int (x2 + (-8))), (0, .ref (ad 0)), (1, .int x1)]) hx hb dX4_put_34 hl (k := 2) rfl rfl (by decide) rfl (fun ls hl => ?_)
        refine lv_goto (tgt := 3) hx hb dX4_put_37 (by decide) ?_
        exact ih3 x1 (x2 + (-8)) (a3, (tape.2.1 + 1), tape.2.2.1, tape.2.2.2.1, tape.2.2.2.2.1, tape.2.2.2.2.2.1, tape.2.2.2.2.2.2) z1 _ _ _ (lv_sub hl [1, 2, 0] rfl) hP hD hS h hk3
  obtain ⟨z4, ez4, h⟩ := e_b h
  refine hL3 FU x1 24 tape z4 _ _ _ (lv_sub hl [1, 2, 0] rfl) hP hD hS ez4 (fun ls H locs hl hP hD hS => ?_)
  obtain rfl := e_s h
  exact hret hP hS dX4_put_40

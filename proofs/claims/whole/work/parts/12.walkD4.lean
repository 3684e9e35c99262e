set_option maxHeartbeats 4000000 in
set_option maxRecDepth 100000 in
theorem kX5_window (l : Launch) (D : va_G) (cA : Nat → ClassId) (ad : Nat → Nat) (block : Int32) (ties : Int32) (lines : Int32) (pmn : Int32) (row : RowT) (tally : TalT) (x1 : Int32) (x2 : Int32) (q : Int32 × TalT) (h : mX5_window ties row tally x1 x2 = some q) : MI l yX5_window wsX5_window { frames := 4, cells := 0, slots := 0, locals := 88 } D cA .int [.ref (ad 0), .int x1, .int x2] (wD_row_tally cA ad block ties lines pmn row tally) (wD_row_tally cA ad block ties lines pmn row q.2) q.1 := by
  refine MI.of (cc := cX5_window) (maxL := 3) (by decide +kernel) rfl rfl rfl (Nat.le_of_ble_eq_true rfl) ?_
  intro p e s m args below meth c A ls Q hx hb hml hts hown hK hP hD hA hS hl hret
  have hl : lv_has ls 3 [(0, .ref (ad 0)), (1, .int x1), (2, .int x2)] := hl
  have f135 := hts (.fieldLink RX5 135 "ModeDesk$Row" "size" "I") (by decide +kernel)
  have f26 := hts (.fieldLink RX5 26 "ModeDesk" "row" "LModeDesk$Row;") (by decide +kernel)
  have iX2 : ∀ w ∈ wsX20, w ∈ wsX5_window := by decide +kernel
  have iX5 : ∀ w ∈ wsX50, w ∈ wsX5_window := by decide +kernel
  unfold mX5_window at h
  refine lv_iload_n hx hb dX5_window_0 rfl (lv_at hl 1 rfl) ?_
  refine lv_iconst (v := 1) hx hb dX5_window_1 (by decide) ?_
  refine lv_icmp_lt (tgt := 20) hx hb dX5_window_2 (by decide) (fun c1 => ?_) (fun c1 => ?_)
  · have h := e_t c1 h
    refine lv_iconst (v := (-1)) hx hb dX5_window_20 (by decide) ?_
    obtain rfl := e_s h
    exact hret hP hS rfl dX5_window_21
  · have h := e_f c1 h
    refine lv_iload_n hx hb dX5_window_5 rfl (lv_at hl 1 rfl) ?_
    refine lv_aload_n hx hb dX5_window_6 rfl (lv_at hl 0 rfl) ?_
    refine va_get (D := D) (ci := 5) (v := .ref (ad 7)) (C := RX5) (T := TX5) (N := 12) hx hb hts iX5 hown hK hP 0 rfl rfl 2 (Nat.le_of_ble_eq_true rfl) f26 (fun _ h9 => h9) rfl dX5_window_7 ?_
    refine va_get (D := D) (ci := 2) (v := .int row.2.2) (C := RX2) (T := TX2) (N := 3) hx hb hts iX2 hown hK hP 1 rfl rfl 2 (Nat.le_of_ble_eq_true rfl) f135 (fun _ h9 => h9) rfl dX5_window_10 ?_
    refine lv_icmp_gt (tgt := 20) hx hb dX5_window_13 (by decide) (fun c2 => ?_) (fun c2 => ?_)
    · have h := e_t c2 h
      refine lv_iconst (v := (-1)) hx hb dX5_window_20 (by decide) ?_
      obtain rfl := e_s h
      exact hret hP hS rfl dX5_window_21
    · have h := e_f c2 h
      refine lv_iload_n hx hb dX5_window_16 rfl (lv_at hl 2 rfl) ?_
      refine lv_if_ge (tgt := 22) hx hb dX5_window_17 (by decide) (fun c3 => ?_) (fun c3 => ?_)
      · have h := e_t c3 h
        refine lv_iload_n hx hb dX5_window_22 rfl (lv_at hl 2 rfl) ?_
        refine lv_aload_n hx hb dX5_window_23 rfl (lv_at hl 0 rfl) ?_
        refine va_get (D := D) (ci := 5) (v := .ref (ad 7)) (C := RX5) (T := TX5) (N := 12) hx hb hts iX5 hown hK hP 0 rfl rfl 2 (Nat.le_of_ble_eq_true rfl) f26 (fun _ h9 => h9) rfl dX5_window_24 ?_
        refine va_get (D := D) (ci := 2) (v := .int row.2.2) (C := RX2) (T := TX2) (N := 3) hx hb hts iX2 hown hK hP 1 rfl rfl 2 (Nat.le_of_ble_eq_true rfl) f135 (fun _ h9 => h9) rfl dX5_window_27 ?_
        refine lv_iload_n hx hb dX5_window_30 rfl (lv_at hl 1 rfl) ?_
        refine lv_isub hx hb dX5_window_31 ?_
        refine lv_icmp_le (tgt := 38) hx hb dX5_window_32 (by decide) (fun c4 => ?_) (fun c4 => ?_)
        · have h := e_t c4 h
          refine lv_aload_n hx hb dX5_window_38 rfl (lv_at hl 0 rfl) ?_
          refine lv_iload_n hx hb dX5_window_39 rfl (lv_at hl 2 rfl) ?_
          refine lv_iload_n hx hb dX5_window_40 rfl (lv_at hl 2 rfl) ?_
          refine lv_iload_n hx hb dX5_window_41 rfl (lv_at hl 1 rfl) ?_
          refine lv_iadd hx hb dX5_window_42 ?_
          refine lv_iconst (v := 1) hx hb dX5_window_43 (by decide) ?_
          refine lv_isub hx hb dX5_window_44 ?_
          obtain ⟨q5, eq5, h⟩ := e_b h
          refine xv_i0 (As := [.int x2, .int ((x2 + x1) - 1)]) (rest := []) (ci := 5) (b := ad 0) ⟨hx, hb, hml, hown, hts⟩ hl.1 (kX5_modeOf l D cA ad block ties lines pmn row tally x2 ((x2 + x1) - 1)  _ eq5) (cwV 2 hts gX5_window_X5_modeOf rfl rfl rfl (by decide +kernel) ⟨Nat.le_of_ble_eq_true rfl, Nat.le_of_ble_eq_true rfl⟩) rfl hK hP hD hS hA 0 rfl rfl rfl rfl (Nat.le_of_ble_eq_true rfl) dX5_window_45 ⟨Nat.zero_le _, Nat.zero_le _⟩ (fun H locs hP hD hS hnq5 => ?_)
          have hP : va_P D vwCl (wD_row_tally cA ad block ties lines pmn row q5.2) H := hP
          have hD : va_D A (wD_row_tally cA ad block ties lines pmn row q5.2) := hD
          obtain rfl := e_s h
          exact hret hP hS rfl dX5_window_48
        · have h := e_f c4 h
          refine lv_bipush (v := (-2)) hx hb dX5_window_35 (by decide) ?_
          obtain rfl := e_s h
          exact hret hP hS rfl dX5_window_37
      · have h := e_f c3 h
        refine lv_iconst (v := (-1)) hx hb dX5_window_20 (by decide) ?_
        obtain rfl := e_s h
        exact hret hP hS rfl dX5_window_21
set_option maxHeartbeats 4000000 in
set_option maxRecDepth 100000 in
theorem kX5_windows (l : Launch) (D : va_G) (cA : Nat → ClassId) (ad : Nat → Nat) (block : Int32) (ties : Int32) (lines : Int32) (pmn : Int32) (row : RowT) (tally : TalT) (aside : TalT) (x1 : Int32) (x2 : Int32) (q : Int32 × TalT × TalT) (h : mX5_windows ties row tally aside x1 x2 = some q) : MI l yX5_windows wsX5_windows { frames := 4, cells := 0, slots := 0, locals := 88 } D cA .int [.ref (ad 0), .int x1, .int x2] (wD_row_tally_aside cA ad block ties lines pmn row tally aside) (wD_row_tally_aside cA ad block ties lines pmn row q.2.1 q.2.2) q.1 := by
  refine MI.of (cc := cX5_windows) (maxL := 7) (by decide +kernel) rfl rfl rfl (Nat.le_of_ble_eq_true rfl) ?_
  intro p e s m args below meth c A ls Q hx hb hml hts hown hK hP hD hA hS hl hret
  have hl : lv_has ls 7 [(0, .ref (ad 0)), (1, .int x1), (2, .int x2)] := hl
  have f135 := hts (.fieldLink RX5 135 "ModeDesk$Row" "size" "I") (by decide +kernel)
  have f176 := hts (.fieldLink RX5 176 "ModeDesk$Tally" "best" "I") (by decide +kernel)
  have f182 := hts (.fieldLink RX5 182 "ModeDesk$Tally" "kinds" "I") (by decide +kernel)
  have f26 := hts (.fieldLink RX5 26 "ModeDesk" "row" "LModeDesk$Row;") (by decide +kernel)
  have f47 := hts (.fieldLink RX5 47 "ModeDesk" "aside" "LModeDesk$Tally;") (by decide +kernel)
  have iX2 : ∀ w ∈ wsX20, w ∈ wsX5_windows := by decide +kernel
  have iX3 : ∀ w ∈ wsX30, w ∈ wsX5_windows := by decide +kernel
  have iX5 : ∀ w ∈ wsX50, w ∈ wsX5_windows := by decide +kernel
  unfold mX5_windows at h
  refine lv_iload_n hx hb dX5_windows_0 rfl (lv_at hl 1 rfl) ?_
  refine lv_iconst (v := 1) hx hb dX5_windows_1 (by decide) ?_
  refine lv_icmp_lt (tgt := 24) hx hb dX5_windows_2 (by decide) (fun c1 => ?_) (fun c1 => ?_)
  · have h := e_t c1 h
    refine lv_iconst (v := (-1)) hx hb dX5_windows_24 (by decide) ?_
    obtain rfl := e_s h
    exact hret hP hS rfl dX5_windows_25
  · have h := e_f c1 h
    refine lv_iload_n hx hb dX5_windows_5 rfl (lv_at hl 1 rfl) ?_
    refine lv_aload_n hx hb dX5_windows_6 rfl (lv_at hl 0 rfl) ?_
    refine va_get (D := D) (ci := 5) (v := .ref (ad 7)) (C := RX5) (T := TX5) (N := 12) hx hb hts iX5 hown hK hP 0 rfl rfl 2 (Nat.le_of_ble_eq_true rfl) f26 (fun _ h9 => h9) rfl dX5_windows_7 ?_
    refine va_get (D := D) (ci := 2) (v := .int row.2.2) (C := RX2) (T := TX2) (N := 3) hx hb hts iX2 hown hK hP 1 rfl rfl 2 (Nat.le_of_ble_eq_true rfl) f135 (fun _ h9 => h9) rfl dX5_windows_10 ?_
    refine lv_icmp_gt (tgt := 24) hx hb dX5_windows_13 (by decide) (fun c2 => ?_) (fun c2 => ?_)
    · have h := e_t c2 h
      refine lv_iconst (v := (-1)) hx hb dX5_windows_24 (by decide) ?_
      obtain rfl := e_s h
      exact hret hP hS rfl dX5_windows_25
    · have h := e_f c2 h
      refine lv_iload_n hx hb dX5_windows_16 rfl (lv_at hl 2 rfl) ?_
      refine lv_iconst (v := 3) hx hb dX5_windows_17 (by decide) ?_
      obtain ⟨q3, eq3, h⟩ := e_b h
      refine xs_i (As := [.int x2, .int 3]) (rest := []) ⟨hx, hb, hml, hown, hts⟩ hl.1 (kX5_isBelow l D cA   x2 3  _ eq3) (va_cwS 2 hts gX5_windows_X5_isBelow rfl rfl rfl (by decide +kernel) ⟨Nat.le_of_ble_eq_true rfl, Nat.le_of_ble_eq_true rfl⟩) rfl hK hP hD hS hA [] rfl (by decide +kernel) rfl (Nat.le_of_ble_eq_true rfl) dX5_windows_18 ⟨Nat.zero_le _, Nat.zero_le _⟩ (fun H locs hP hD hS hnq3 => ?_)
      have hP : va_P D vwCl (wD_row_tally_aside cA ad block ties lines pmn row tally aside) H := hP
      have hD : va_D A (wD_row_tally_aside cA ad block ties lines pmn row tally aside) := hD
      refine lv_if_ne (tgt := 26) hx hb dX5_windows_21 (by decide) (fun c4 => ?_) (fun c4 => ?_)
      · have h := e_t c4 h
        refine lv_iconst (v := 0) hx hb dX5_windows_26 (by decide) ?_
        refine lv_istore_n (lv' := [(3, .int 0), (0, .ref (ad 0)), (1, .int x1), (2, .int x2)]) hx hb dX5_windows_27 rfl hl (by decide) rfl (fun ls hl => ?_)
        refine lv_iconst (v := (-1)) hx hb dX5_windows_28 (by decide) ?_
        refine lv_istore (lv' := [(4, .int (-1)), (3, .int 0), (0, .ref (ad 0)), (1, .int x1), (2, .int x2)]) hx hb dX5_windows_29 hl (by decide) rfl (fun ls hl => ?_)
        refine lv_aload_n hx hb dX5_windows_31 rfl (lv_at hl 2 rfl) ?_
        refine va_get (D := D) (ci := 5) (v := .ref (ad 56)) (C := RX5) (T := TX5) (N := 12) hx hb hts iX5 hown hK hP 0 rfl rfl 6 (Nat.le_of_ble_eq_true rfl) f47 (fun _ h9 => h9) rfl dX5_windows_32 ?_
        refine lv_iconst (v := 2) hx hb dX5_windows_35 (by decide) ?_
        obtain ⟨q5, eq5, h⟩ := e_b h
        refine xv_v (As := [.int 2]) (rest := []) (ci := 3) (b := ad 56) ⟨hx, hb, hml, hown, hts⟩ hl.1 (kX3_begin l D cA (fun i => ad (56 + i)) aside 2  _ eq5) (cwV 1 hts gX5_windows_X3_begin rfl rfl rfl (by decide +kernel) ⟨Nat.le_of_ble_eq_true rfl, Nat.le_of_ble_eq_true rfl⟩) rfl hK hP hD hS hA 9 rfl rfl rfl [9, 10, 11, 12, 13] rfl (by decide +kernel) rfl (Nat.le_of_ble_eq_true rfl) dX5_windows_36 ⟨Nat.zero_le _, Nat.zero_le _⟩ (fun H locs hP hD hS => ?_)
        have hP : va_P D vwCl (wD_row_tally_aside cA ad block ties lines pmn row tally q5) H := hP
        have hD : va_D A (wD_row_tally_aside cA ad block ties lines pmn row tally q5) := hD
        refine lv_iconst (v := 0) hx hb dX5_windows_39 (by decide) ?_
        refine lv_istore (lv' := [(5, .int 0), (4, .int (-1)), (3, .int 0), (0, .ref (ad 0)), (1, .int x1), (2, .int x2)]) hx hb dX5_windows_40 hl (by decide) rfl (fun ls hl => ?_)
        have hL42 : ∀ (n : Nat) (x1 : Int32) (x2 : Int32) (x3 : Int32) (x4 : Int32) (x5 : Int32) (block : Int32) (ties : Int32) (lines : Int32) (pmn : Int32) (row : RowT) (tally : TalT) (aside : TalT) (z6 : Int32 × TalT × TalT) (ls : Array Slot) (H : Heap) (locs : List Loc), lv_has ls 7 [(0, .ref (ad 0)), (1, .int x1), (2, .int x2), (3, .int x3), (4, .int x4), (5, .int x5)] → va_P D vwCl (wD_row_tally_aside cA ad block ties lines pmn row tally aside) H → va_D A (wD_row_tally_aside cA ad block ties lines pmn row tally aside) → va_S A s.heap H locs → mX5_windows_L42 ties row x1 n x3 x4 x5 tally aside = some z6 → (∀ (ls : Array Slot) (H : Heap) (locs : List Loc), lv_has ls 7 [(0, .ref (ad 0)), (2, .int x2), (3, .int z6.1)] → va_P D vwCl (wD_row_tally_aside cA ad block ties lines pmn row z6.2.1 z6.2.2) H → va_D A (wD_row_tally_aside cA ad block ties lines pmn row z6.2.1 z6.2.2) → va_S A s.heap H locs → W p l e (headSpec wsX5_windows { frames := 4, cells := 0, slots := 0, locals := 88 }).room s m args below meth c H locs 0 0 Q (F0 m 104 ls [])) → W p l e (headSpec wsX5_windows { frames := 4, cells := 0, slots := 0, locals := 88 }).room s m args below meth c H locs 0 0 Q (F0 m 42 ls []) := by
          intro n
          induction n with
          | zero => intro x1 x2 x3 x4 x5 block ties lines pmn row tally aside z6 ls H locs hl hP hD hS h hk42; exact e_n h
          | succ n ih42 =>
            intro x1 x2 x3 x4 x5 block ties lines pmn row tally aside z6 ls H locs hl hP hD hS h hk42
            rw [mX5_windows_L42.eq_2] at h
            refine lv_iload hx hb dX5_windows_42 (lv_at hl 5 rfl) ?_
            refine lv_aload_n hx hb dX5_windows_44 rfl (lv_at hl 0 rfl) ?_
            refine va_get (D := D) (ci := 5) (v := .ref (ad 7)) (C := RX5) (T := TX5) (N := 12) hx hb hts iX5 hown hK hP 0 rfl rfl 2 (Nat.le_of_ble_eq_true rfl) f26 (fun _ h9 => h9) rfl dX5_windows_45 ?_
            refine va_get (D := D) (ci := 2) (v := .int row.2.2) (C := RX2) (T := TX2) (N := 3) hx hb hts iX2 hown hK hP 1 rfl rfl 2 (Nat.le_of_ble_eq_true rfl) f135 (fun _ h9 => h9) rfl dX5_windows_48 ?_
            refine lv_iload_n hx hb dX5_windows_51 rfl (lv_at hl 1 rfl) ?_
            refine lv_isub hx hb dX5_windows_52 ?_
            refine lv_icmp_gt (tgt := 104) hx hb dX5_windows_53 (by decide) (fun c7 => ?_) (fun c7 => ?_)
            · have h := e_t c7 h
              obtain rfl := e_s h
              exact hk42 _ _ _ (lv_sub hl [0, 2, 3] rfl) hP hD hS
            · have h := e_f c7 h
              refine lv_aload_n hx hb dX5_windows_56 rfl (lv_at hl 0 rfl) ?_
              refine lv_iload hx hb dX5_windows_57 (lv_at hl 5 rfl) ?_
              refine lv_iload hx hb dX5_windows_59 (lv_at hl 5 rfl) ?_
              refine lv_iload_n hx hb dX5_windows_61 rfl (lv_at hl 1 rfl) ?_
              refine lv_iadd hx hb dX5_windows_62 ?_
              refine lv_iconst (v := 1) hx hb dX5_windows_63 (by decide) ?_
              refine lv_isub hx hb dX5_windows_64 ?_
              obtain ⟨q8, eq8, h⟩ := e_b h
              refine xv_i (As := [.int x5, .int ((x5 + x1) - 1)]) (rest := []) (ci := 5) (b := ad 0) ⟨hx, hb, hml, hown, hts⟩ hl.1 (kX5_modeOf l D cA ad block ties lines pmn row tally x5 ((x5 + x1) - 1)  _ eq8) (cwV 2 hts gX5_windows_X5_modeOf rfl rfl rfl (by decide +kernel) ⟨Nat.le_of_ble_eq_true rfl, Nat.le_of_ble_eq_true rfl⟩) rfl hK hP hD hS hA 0 rfl rfl rfl [0, 1, 2, 3, 4, 5, 6, 7, 8] rfl (by decide +kernel) rfl (Nat.le_of_ble_eq_true rfl) dX5_windows_65 ⟨Nat.zero_le _, Nat.zero_le _⟩ (fun H locs hP hD hS hnq8 => ?_)
              have hP : va_P D vwCl (wD_row_tally_aside cA ad block ties lines pmn row q8.2 aside) H := hP
              have hD : va_D A (wD_row_tally_aside cA ad block ties lines pmn row q8.2 aside) := hD
              refine lv_istore (lv' := [(6, .int q8.1), (0, .ref (ad 0)), (1, .int x1), (2, .int x2), (3, .int x3), (4, .int x4), (5, .int x5)]) hx hb dX5_windows_68 hl (by decide) rfl (fun ls hl => ?_)
              refine lv_iload hx hb dX5_windows_70 (lv_at hl 6 rfl) ?_
              obtain ⟨z9, ez9, h⟩ := e_b h
              have hJ10 : ∀ (ls : Array Slot) (H : Heap) (locs : List Loc), lv_has ls 7 [(0, .ref (ad 0)), (1, .int x1), (2, .int x2), (3, .int z9), (5, .int x5), (6, .int q8.1)] → va_P D vwCl (wD_row_tally_aside cA ad block ties lines pmn row q8.2 aside) H → va_D A (wD_row_tally_aside cA ad block ties lines pmn row q8.2 aside) → va_S A s.heap H locs → W p l e (headSpec wsX5_windows { frames := 4, cells := 0, slots := 0, locals := 88 }).room s m args below meth c H locs 0 0 Q (F0 m 85 ls []) := by
                intro ls H locs hl hP hD hS
                refine lv_aload_n hx hb dX5_windows_85 rfl (lv_at hl 0 rfl) ?_
                refine va_get (D := D) (ci := 5) (v := .ref (ad 56)) (C := RX5) (T := TX5) (N := 12) hx hb hts iX5 hown hK hP 0 rfl rfl 6 (Nat.le_of_ble_eq_true rfl) f47 (fun _ h9 => h9) rfl dX5_windows_86 ?_
                refine lv_iload hx hb dX5_windows_89 (lv_at hl 5 rfl) ?_
                obtain ⟨q11, eq11, h⟩ := e_b h
                refine xv_v (As := [.int q8.1]) (rest := []) (ci := 3) (b := ad 56) ⟨hx, hb, hml, hown, hts⟩ hl.1 (kX3_push l D cA (fun i => ad (56 + i)) aside q8.1  _ eq11) (cwV 1 hts gX5_windows_X3_push rfl rfl rfl (by decide +kernel) ⟨Nat.le_of_ble_eq_true rfl, Nat.le_of_ble_eq_true rfl⟩) rfl hK hP hD hS hA 9 rfl rfl rfl [9, 10, 11, 12, 13] rfl (by decide +kernel) rfl (Nat.le_of_ble_eq_true rfl) dX5_windows_91 ⟨Nat.zero_le _, Nat.zero_le _⟩ (fun H locs hP hD hS => ?_)
                have hP : va_P D vwCl (wD_row_tally_aside cA ad block ties lines pmn row q8.2 q11) H := hP
                have hD : va_D A (wD_row_tally_aside cA ad block ties lines pmn row q8.2 q11) := hD
                refine lv_iload hx hb dX5_windows_94 (lv_at hl 5 rfl) ?_
                refine lv_istore (lv' := [(4, .int q8.1), (0, .ref (ad 0)), (1, .int x1), (2, .int x2), (3, .int z9), (5, .int x5), (6, .int q8.1)]) hx hb dX5_windows_96 hl (by decide) rfl (fun ls hl => ?_)
                refine lv_iinc (v := (x5 + 1)) (lv' := [(5, .int (x5 + 1)), (4, .int q8.1), (0, .ref (ad 0)), (1, .int x1), (2, .int x2), (3, .int z9), (6, .int q8.1)]) hx hb dX5_windows_98 hl (k := 5) rfl rfl (by decide) rfl (fun ls hl => ?_)
                refine lv_goto (tgt := 42) hx hb dX5_windows_101 (by decide) ?_
                exact ih42 x1 x2 z9 q8.1 (x5 + 1) block ties lines pmn row q8.2 q11 z6 _ _ _ (lv_sub hl [2, 3, 4, 5, 1, 0] rfl) hP hD hS h hk42
              have h := ez9
              refine lv_if_le (tgt := 85) hx hb dX5_windows_72 (by decide) (fun c12 => ?_) (fun c12 => ?_)
              · have h := e_t c12 h
                obtain rfl := e_s h
                exact hJ10 _ _ _ (lv_sub hl [1, 2, 3, 4, 6, 0] rfl) hP hD hS
              · have h := e_f c12 h
                refine lv_iload hx hb dX5_windows_75 (lv_at hl 0 rfl) ?_
                refine lv_iload hx hb dX5_windows_77 (lv_at hl 5 rfl) ?_
                refine lv_icmp_eq (tgt := 85) hx hb dX5_windows_79 (by decide) (fun c13 => ?_) (fun c13 => ?_)
                · have h := e_t c13 h
                  obtain rfl := e_s h
                  exact hJ10 _ _ _ (lv_sub hl [1, 2, 3, 4, 6, 0] rfl) hP hD hS
                · have h := e_f c13 h
                  refine lv_iinc (v := (x3 + 1)) (lv' := [(3, .int (x3 + 1)), (6, .int q8.1), (0, .ref (ad 0)), (1, .int x1), (2, .int x2), (4, .int x4), (5, .int x5)]) hx hb dX5_windows_82 hl (k := 4) rfl rfl (by decide) rfl (fun ls hl => ?_)
                  obtain rfl := e_s h
                  exact hJ10 _ _ _ (lv_sub hl [2, 3, 4, 0, 6, 1] rfl) hP hD hS
        obtain ⟨z14, ez14, h⟩ := e_b h
        refine hL42 FU x1 x2 0 (-1) 0 block ties lines pmn row tally q5 z14 _ _ _ (lv_sub hl [3, 4, 5, 2, 1, 0] rfl) hP hD hS ez14 (fun ls H locs hl hP hD hS => ?_)
        refine lv_iload_n hx hb dX5_windows_104 rfl (lv_at hl 1 rfl) ?_
        refine lv_if_ne (tgt := 110) hx hb dX5_windows_105 (by decide) (fun c15 => ?_) (fun c15 => ?_)
        · have h := e_t c15 h
          refine lv_iload_n hx hb dX5_windows_110 rfl (lv_at hl 1 rfl) ?_
          refine lv_iconst (v := 1) hx hb dX5_windows_111 (by decide) ?_
          refine lv_icmp_ne (tgt := 125) hx hb dX5_windows_112 (by decide) (fun c16 => ?_) (fun c16 => ?_)
          · have h := e_t c16 h
            refine lv_aload_n hx hb dX5_windows_125 rfl (lv_at hl 0 rfl) ?_
            refine va_get (D := D) (ci := 5) (v := .ref (ad 56)) (C := RX5) (T := TX5) (N := 12) hx hb hts iX5 hown hK hP 0 rfl rfl 6 (Nat.le_of_ble_eq_true rfl) f47 (fun _ h9 => h9) rfl dX5_windows_126 ?_
            refine va_get (D := D) (ci := 3) (v := .int z14.2.2.2.2.2.2.2.2.1) (C := RX3) (T := TX3) (N := 8) hx hb hts iX3 hown hK hP 9 rfl rfl 6 (Nat.le_of_ble_eq_true rfl) f176 (fun _ h9 => h9) rfl dX5_windows_129 ?_
            obtain rfl := e_s h
            exact hret hP hS rfl dX5_windows_132
          · have h := e_f (not_not_intro c16) h
            refine lv_aload_n hx hb dX5_windows_115 rfl (lv_at hl 0 rfl) ?_
            refine va_get (D := D) (ci := 5) (v := .ref (ad 56)) (C := RX5) (T := TX5) (N := 12) hx hb hts iX5 hown hK hP 0 rfl rfl 6 (Nat.le_of_ble_eq_true rfl) f47 (fun _ h9 => h9) rfl dX5_windows_116 ?_
            refine va_get (D := D) (ci := 3) (v := .int z14.2.2.2.2.2.2.1) (C := RX3) (T := TX3) (N := 8) hx hb hts iX3 hown hK hP 9 rfl rfl 4 (Nat.le_of_ble_eq_true rfl) f182 (fun _ h9 => h9) rfl dX5_windows_119 ?_
            refine lv_goto (tgt := 132) hx hb dX5_windows_122 (by decide) ?_
            obtain rfl := e_s h
            exact hret hP hS rfl dX5_windows_132
        · have h := e_f (not_not_intro c15) h
          refine lv_iload_n hx hb dX5_windows_108 rfl (lv_at hl 2 rfl) ?_
          obtain rfl := e_s h
          exact hret hP hS rfl dX5_windows_109
      · have h := e_f (not_not_intro c4) h
        refine lv_iconst (v := (-1)) hx hb dX5_windows_24 (by decide) ?_
        obtain rfl := e_s h
        exact hret hP hS rfl dX5_windows_25
set_option maxHeartbeats 4000000 in
set_option maxRecDepth 100000 in
theorem kX5_beginnings (l : Launch) (D : va_G) (cA : Nat → ClassId) (ad : Nat → Nat) (block : Int32) (ties : Int32) (lines : Int32) (pmn : Int32) (row : RowT) (tally : TalT) (aside : TalT) (x1 : Int32) (q : Int32 × TalT × TalT) (h : mX5_beginnings ties row tally aside x1 = some q) : MI l yX5_beginnings wsX5_beginnings { frames := 2, cells := 0, slots := 0, locals := 43 } D cA .int [.ref (ad 0), .int x1] (wD_row_tally_aside cA ad block ties lines pmn row tally aside) (wD_row_tally_aside cA ad block ties lines pmn row q.2.1 q.2.2) q.1 := by
  refine MI.of (cc := cX5_beginnings) (maxL := 7) (by decide +kernel) rfl rfl rfl (Nat.le_of_ble_eq_true rfl) ?_
  intro p e s m args below meth c A ls Q hx hb hml hts hown hK hP hD hA hS hl hret
  have hl : lv_has ls 7 [(0, .ref (ad 0)), (1, .int x1)] := hl
  have f106 := hts (.fieldLink RX5 106 "ModeDesk$Row" "values" "[I") (by decide +kernel)
  have f135 := hts (.fieldLink RX5 135 "ModeDesk$Row" "size" "I") (by decide +kernel)
  have f176 := hts (.fieldLink RX5 176 "ModeDesk$Tally" "best" "I") (by decide +kernel)
  have f182 := hts (.fieldLink RX5 182 "ModeDesk$Tally" "kinds" "I") (by decide +kernel)
  have f26 := hts (.fieldLink RX5 26 "ModeDesk" "row" "LModeDesk$Row;") (by decide +kernel)
  have f43 := hts (.fieldLink RX5 43 "ModeDesk" "tally" "LModeDesk$Tally;") (by decide +kernel)
  have f47 := hts (.fieldLink RX5 47 "ModeDesk" "aside" "LModeDesk$Tally;") (by decide +kernel)
  have f58 := hts (.fieldLink RX5 58 "ModeDesk" "ties" "I") (by decide +kernel)
  have iX2 : ∀ w ∈ wsX20, w ∈ wsX5_beginnings := by decide +kernel
  have iX3 : ∀ w ∈ wsX30, w ∈ wsX5_beginnings := by decide +kernel
  have iX5 : ∀ w ∈ wsX50, w ∈ wsX5_beginnings := by decide +kernel
  unfold mX5_beginnings at h
  refine lv_iload_n hx hb dX5_beginnings_0 rfl (lv_at hl 1 rfl) ?_
  refine lv_iconst (v := 4) hx hb dX5_beginnings_1 (by decide) ?_
  obtain ⟨q1, eq1, h⟩ := e_b h
  refine xs_i (As := [.int x1, .int 4]) (rest := []) ⟨hx, hb, hml, hown, hts⟩ hl.1 (kX5_isBelow l D cA   x1 4  _ eq1) (va_cwS 2 hts gX5_beginnings_X5_isBelow rfl rfl rfl (by decide +kernel) ⟨Nat.le_of_ble_eq_true rfl, Nat.le_of_ble_eq_true rfl⟩) rfl hK hP hD hS hA [] rfl (by decide +kernel) rfl (Nat.le_of_ble_eq_true rfl) dX5_beginnings_2 ⟨Nat.zero_le _, Nat.zero_le _⟩ (fun H locs hP hD hS hnq1 => ?_)
  have hP : va_P D vwCl (wD_row_tally_aside cA ad block ties lines pmn row tally aside) H := hP
  have hD : va_D A (wD_row_tally_aside cA ad block ties lines pmn row tally aside) := hD
  refine lv_if_ne (tgt := 10) hx hb dX5_beginnings_5 (by decide) (fun c2 => ?_) (fun c2 => ?_)
  · have h := e_t c2 h
    refine lv_iconst (v := 0) hx hb dX5_beginnings_10 (by decide) ?_
    refine lv_istore_n (lv' := [(2, .int 0), (0, .ref (ad 0)), (1, .int x1)]) hx hb dX5_beginnings_11 rfl hl (by decide) rfl (fun ls hl => ?_)
    refine lv_iconst (v := 0) hx hb dX5_beginnings_12 (by decide) ?_
    refine lv_istore_n (lv' := [(3, .int 0), (2, .int 0), (0, .ref (ad 0)), (1, .int x1)]) hx hb dX5_beginnings_13 rfl hl (by decide) rfl (fun ls hl => ?_)
    refine lv_bipush (v := (-2)) hx hb dX5_beginnings_14 (by decide) ?_
    refine lv_istore (lv' := [(4, .int (-2)), (3, .int 0), (2, .int 0), (0, .ref (ad 0)), (1, .int x1)]) hx hb dX5_beginnings_16 hl (by decide) rfl (fun ls hl => ?_)
    refine lv_iconst (v := (-1)) hx hb dX5_beginnings_18 (by decide) ?_
    refine lv_istore (lv' := [(5, .int (-1)), (4, .int (-2)), (3, .int 0), (2, .int 0), (0, .ref (ad 0)), (1, .int x1)]) hx hb dX5_beginnings_19 hl (by decide) rfl (fun ls hl => ?_)
    refine lv_aload_n hx hb dX5_beginnings_21 rfl (lv_at hl 4 rfl) ?_
    refine va_get (D := D) (ci := 5) (v := .ref (ad 51)) (C := RX5) (T := TX5) (N := 12) hx hb hts iX5 hown hK hP 0 rfl rfl 5 (Nat.le_of_ble_eq_true rfl) f43 (fun _ h9 => h9) rfl dX5_beginnings_22 ?_
    refine lv_aload_n hx hb dX5_beginnings_25 rfl (lv_at hl 4 rfl) ?_
    refine va_get (D := D) (ci := 5) (v := .int ties) (C := RX5) (T := TX5) (N := 12) hx hb hts iX5 hown hK hP 0 rfl rfl 9 (Nat.le_of_ble_eq_true rfl) f58 (fun _ h9 => h9) rfl dX5_beginnings_26 ?_
    obtain ⟨q3, eq3, h⟩ := e_b h
    refine xv_v (As := [.int ties]) (rest := []) (ci := 3) (b := ad 51) ⟨hx, hb, hml, hown, hts⟩ hl.1 (kX3_begin l D cA (fun i => ad (51 + i)) tally ties  _ eq3) (cwV 1 hts gX5_beginnings_X3_begin rfl rfl rfl (by decide +kernel) ⟨Nat.le_of_ble_eq_true rfl, Nat.le_of_ble_eq_true rfl⟩) rfl hK hP hD hS hA 4 rfl rfl rfl [4, 5, 6, 7, 8] rfl (by decide +kernel) rfl (Nat.le_of_ble_eq_true rfl) dX5_beginnings_29 ⟨Nat.zero_le _, Nat.zero_le _⟩ (fun H locs hP hD hS => ?_)
    have hP : va_P D vwCl (wD_row_tally_aside cA ad block ties lines pmn row q3 aside) H := hP
    have hD : va_D A (wD_row_tally_aside cA ad block ties lines pmn row q3 aside) := hD
    refine lv_aload_n hx hb dX5_beginnings_32 rfl (lv_at hl 4 rfl) ?_
    refine va_get (D := D) (ci := 5) (v := .ref (ad 56)) (C := RX5) (T := TX5) (N := 12) hx hb hts iX5 hown hK hP 0 rfl rfl 6 (Nat.le_of_ble_eq_true rfl) f47 (fun _ h9 => h9) rfl dX5_beginnings_33 ?_
    refine lv_iconst (v := 2) hx hb dX5_beginnings_36 (by decide) ?_
    obtain ⟨q4, eq4, h⟩ := e_b h
    refine xv_v (As := [.int 2]) (rest := []) (ci := 3) (b := ad 56) ⟨hx, hb, hml, hown, hts⟩ hl.1 (kX3_begin l D cA (fun i => ad (56 + i)) aside 2  _ eq4) (cwV 1 hts gX5_beginnings_X3_begin rfl rfl rfl (by decide +kernel) ⟨Nat.le_of_ble_eq_true rfl, Nat.le_of_ble_eq_true rfl⟩) rfl hK hP hD hS hA 9 rfl rfl rfl [9, 10, 11, 12, 13] rfl (by decide +kernel) rfl (Nat.le_of_ble_eq_true rfl) dX5_beginnings_37 ⟨Nat.zero_le _, Nat.zero_le _⟩ (fun H locs hP hD hS => ?_)
    have hP : va_P D vwCl (wD_row_tally_aside cA ad block ties lines pmn row q3 q4) H := hP
    have hD : va_D A (wD_row_tally_aside cA ad block ties lines pmn row q3 q4) := hD
    refine lv_iconst (v := 0) hx hb dX5_beginnings_40 (by decide) ?_
    refine lv_istore (lv' := [(6, .int 0), (5, .int (-1)), (4, .int (-2)), (3, .int 0), (2, .int 0), (0, .ref (ad 0)), (1, .int x1)]) hx hb dX5_beginnings_41 hl (by decide) rfl (fun ls hl => ?_)
    have hL43 : ∀ (n : Nat) (x1 : Int32) (x2 : Int32) (x3 : Int32) (x4 : Int32) (x5 : Int32) (x6 : Int32) (block : Int32) (ties : Int32) (lines : Int32) (pmn : Int32) (row : RowT) (tally : TalT) (aside : TalT) (z5 : Int32 × Int32 × Int32 × TalT × TalT) (ls : Array Slot) (H : Heap) (locs : List Loc), lv_has ls 7 [(0, .ref (ad 0)), (1, .int x1), (2, .int x2), (3, .int x3), (4, .int x4), (5, .int x5), (6, .int x6)] → va_P D vwCl (wD_row_tally_aside cA ad block ties lines pmn row tally aside) H → va_D A (wD_row_tally_aside cA ad block ties lines pmn row tally aside) → va_S A s.heap H locs → mX5_beginnings_L43 row n x2 x3 x4 x5 x6 tally aside = some z5 → (∀ (ls : Array Slot) (H : Heap) (locs : List Loc), lv_has ls 7 [(0, .ref (ad 0)), (1, .int x1), (2, .int z5.1), (3, .int z5.2.1), (4, .int z5.2.2.1)] → va_P D vwCl (wD_row_tally_aside cA ad block ties lines pmn row z5.2.2.2.1 z5.2.2.2.2) H → va_D A (wD_row_tally_aside cA ad block ties lines pmn row z5.2.2.2.1 z5.2.2.2.2) → va_S A s.heap H locs → W p l e (headSpec wsX5_beginnings { frames := 2, cells := 0, slots := 0, locals := 43 }).room s m args below meth c H locs 0 0 Q (F0 m 135 ls [])) → W p l e (headSpec wsX5_beginnings { frames := 2, cells := 0, slots := 0, locals := 43 }).room s m args below meth c H locs 0 0 Q (F0 m 43 ls []) := by
      intro n
      induction n with
      | zero => intro x1 x2 x3 x4 x5 x6 block ties lines pmn row tally aside z5 ls H locs hl hP hD hS h hk43; exact e_n h
      | succ n ih43 =>
        intro x1 x2 x3 x4 x5 x6 block ties lines pmn row tally aside z5 ls H locs hl hP hD hS h hk43
        rw [mX5_beginnings_L43.eq_2] at h
        refine lv_iload hx hb dX5_beginnings_43 (lv_at hl 6 rfl) ?_
        refine lv_aload_n hx hb dX5_beginnings_45 rfl (lv_at hl 0 rfl) ?_
        refine va_get (D := D) (ci := 5) (v := .ref (ad 7)) (C := RX5) (T := TX5) (N := 12) hx hb hts iX5 hown hK hP 0 rfl rfl 2 (Nat.le_of_ble_eq_true rfl) f26 (fun _ h9 => h9) rfl dX5_beginnings_46 ?_
        refine va_get (D := D) (ci := 2) (v := .int row.2.2) (C := RX2) (T := TX2) (N := 3) hx hb hts iX2 hown hK hP 1 rfl rfl 2 (Nat.le_of_ble_eq_true rfl) f135 (fun _ h9 => h9) rfl dX5_beginnings_49 ?_
        refine lv_icmp_ge (tgt := 135) hx hb dX5_beginnings_52 (by decide) (fun c6 => ?_) (fun c6 => ?_)
        · have h := e_t c6 h
          obtain rfl := e_s h
          exact hk43 _ _ _ (lv_sub hl [0, 1, 2, 3, 4] rfl) hP hD hS
        · have h := e_f c6 h
          refine lv_aload_n hx hb dX5_beginnings_55 rfl (lv_at hl 0 rfl) ?_
          refine va_get (D := D) (ci := 5) (v := .ref (ad 51)) (C := RX5) (T := TX5) (N := 12) hx hb hts iX5 hown hK hP 0 rfl rfl 5 (Nat.le_of_ble_eq_true rfl) f43 (fun _ h9 => h9) rfl dX5_beginnings_56 ?_
          refine lv_aload_n hx hb dX5_beginnings_59 rfl (lv_at hl 0 rfl) ?_
          refine va_get (D := D) (ci := 5) (v := .ref (ad 7)) (C := RX5) (T := TX5) (N := 12) hx hb hts iX5 hown hK hP 0 rfl rfl 2 (Nat.le_of_ble_eq_true rfl) f26 (fun _ h9 => h9) rfl dX5_beginnings_60 ?_
          refine va_get (D := D) (ci := 2) (v := .ref (ad 8)) (C := RX2) (T := TX2) (N := 3) hx hb hts iX2 hown hK hP 1 rfl rfl 0 (Nat.le_of_ble_eq_true rfl) f106 (fun _ h9 => h9) rfl dX5_beginnings_63 ?_
          refine lv_iload hx hb dX5_beginnings_66 (lv_at hl 6 rfl) ?_
          obtain ⟨v7, ev7, nv7, h⟩ := e_rd h
          refine xa_iald hx hb hK hP 2 rfl nv7 ev7 dX5_beginnings_68 ?_
          obtain ⟨q8, eq8, h⟩ := e_b h
          refine xv_v (As := [.int v7]) (rest := []) (ci := 3) (b := ad 51) ⟨hx, hb, hml, hown, hts⟩ hl.1 (kX3_push l D cA (fun i => ad (51 + i)) tally v7  _ eq8) (cwV 1 hts gX5_beginnings_X3_push rfl rfl rfl (by decide +kernel) ⟨Nat.le_of_ble_eq_true rfl, Nat.le_of_ble_eq_true rfl⟩) rfl hK hP hD hS hA 4 rfl rfl rfl [4, 5, 6, 7, 8] rfl (by decide +kernel) rfl (Nat.le_of_ble_eq_true rfl) dX5_beginnings_69 ⟨Nat.zero_le _, Nat.zero_le _⟩ (fun H locs hP hD hS => ?_)
          have hP : va_P D vwCl (wD_row_tally_aside cA ad block ties lines pmn row q8 aside) H := hP
          have hD : va_D A (wD_row_tally_aside cA ad block ties lines pmn row q8 aside) := hD
          refine lv_aload_n hx hb dX5_beginnings_72 rfl (lv_at hl 0 rfl) ?_
          refine va_get (D := D) (ci := 5) (v := .ref (ad 56)) (C := RX5) (T := TX5) (N := 12) hx hb hts iX5 hown hK hP 0 rfl rfl 6 (Nat.le_of_ble_eq_true rfl) f47 (fun _ h9 => h9) rfl dX5_beginnings_73 ?_
          refine lv_aload_n hx hb dX5_beginnings_76 rfl (lv_at hl 0 rfl) ?_
          refine va_get (D := D) (ci := 5) (v := .ref (ad 51)) (C := RX5) (T := TX5) (N := 12) hx hb hts iX5 hown hK hP 0 rfl rfl 5 (Nat.le_of_ble_eq_true rfl) f43 (fun _ h9 => h9) rfl dX5_beginnings_77 ?_
          refine va_get (D := D) (ci := 3) (v := .int q8.2.2.2.2.2.2.1) (C := RX3) (T := TX3) (N := 8) hx hb hts iX3 hown hK hP 4 rfl rfl 6 (Nat.le_of_ble_eq_true rfl) f176 (fun _ h9 => h9) rfl dX5_beginnings_80 ?_
          obtain ⟨q9, eq9, h⟩ := e_b h
          refine xv_v (As := [.int q8.2.2.2.2.2.2.1]) (rest := []) (ci := 3) (b := ad 56) ⟨hx, hb, hml, hown, hts⟩ hl.1 (kX3_push l D cA (fun i => ad (56 + i)) aside q8.2.2.2.2.2.2.1  _ eq9) (cwV 1 hts gX5_beginnings_X3_push rfl rfl rfl (by decide +kernel) ⟨Nat.le_of_ble_eq_true rfl, Nat.le_of_ble_eq_true rfl⟩) rfl hK hP hD hS hA 9 rfl rfl rfl [9, 10, 11, 12, 13] rfl (by decide +kernel) rfl (Nat.le_of_ble_eq_true rfl) dX5_beginnings_83 ⟨Nat.zero_le _, Nat.zero_le _⟩ (fun H locs hP hD hS => ?_)
          have hP : va_P D vwCl (wD_row_tally_aside cA ad block ties lines pmn row q8 q9) H := hP
          have hD : va_D A (wD_row_tally_aside cA ad block ties lines pmn row q8 q9) := hD
          refine lv_iload hx hb dX5_beginnings_86 (lv_at hl 6 rfl) ?_
          obtain ⟨z10, ez10, h⟩ := e_b h
          have hJ11 : ∀ (ls : Array Slot) (H : Heap) (locs : List Loc), lv_has ls 7 [(0, .ref (ad 0)), (1, .int x1), (2, .int z10.1), (3, .int z10.2), (4, .int x4), (6, .int x6)] → va_P D vwCl (wD_row_tally_aside cA ad block ties lines pmn row q8 q9) H → va_D A (wD_row_tally_aside cA ad block ties lines pmn row q8 q9) → va_S A s.heap H locs → W p l e (headSpec wsX5_beginnings { frames := 2, cells := 0, slots := 0, locals := 43 }).room s m args below meth c H locs 0 0 Q (F0 m 109 ls []) := by
            intro ls H locs hl hP hD hS
            refine lv_iload hx hb dX5_beginnings_109 (lv_at hl 4 rfl) ?_
            refine lv_iload hx hb dX5_beginnings_111 (lv_at hl 5 rfl) ?_
            refine lv_iload_n hx hb dX5_beginnings_113 rfl (lv_at hl 3 rfl) ?_
            refine lv_isub hx hb dX5_beginnings_114 ?_
            refine va_mmax hx hb (by rw [hml, hl.1]) hown (hts (.methodLink RX5 203 Lib.Math.max.name) (by decide +kernel)) (hts (.static Lib.Math.max.name) (by decide +kernel)) (hts (.initialized "java/lang/Math") (by decide +kernel)) (hts (.code Lib.Math.max.name Lib.Math.max.code 2 (some .int)) (by decide +kernel)) (Nat.le_of_ble_eq_true rfl) (Nat.le_of_ble_eq_true rfl) (Nat.zero_le _) (Nat.zero_le _) dX5_beginnings_115 ?_
            refine lv_istore (lv' := [(4, .int (if x4 < (x6 - z10.2) then (x6 - z10.2) else x4)), (0, .ref (ad 0)), (1, .int x1), (2, .int z10.1), (3, .int z10.2), (6, .int x6)]) hx hb dX5_beginnings_118 hl (by decide) rfl (fun ls hl => ?_)
            refine lv_aload_n hx hb dX5_beginnings_120 rfl (lv_at hl 1 rfl) ?_
            refine va_get (D := D) (ci := 5) (v := .ref (ad 51)) (C := RX5) (T := TX5) (N := 12) hx hb hts iX5 hown hK hP 0 rfl rfl 5 (Nat.le_of_ble_eq_true rfl) f43 (fun _ h9 => h9) rfl dX5_beginnings_121 ?_
            refine va_get (D := D) (ci := 3) (v := .int q8.2.2.2.2.2.2.1) (C := RX3) (T := TX3) (N := 8) hx hb hts iX3 hown hK hP 4 rfl rfl 6 (Nat.le_of_ble_eq_true rfl) f176 (fun _ h9 => h9) rfl dX5_beginnings_124 ?_
            refine lv_istore (lv' := [(5, .int q8.2.2.2.2.2.2.1), (4, .int (if x4 < (x6 - z10.2) then (x6 - z10.2) else x4)), (0, .ref (ad 0)), (1, .int x1), (2, .int z10.1), (3, .int z10.2), (6, .int x6)]) hx hb dX5_beginnings_127 hl (by decide) rfl (fun ls hl => ?_)
            refine lv_iinc (v := (x6 + 1)) (lv' := [(6, .int (x6 + 1)), (5, .int q8.2.2.2.2.2.2.1), (4, .int (if x4 < (x6 - z10.2) then (x6 - z10.2) else x4)), (0, .ref (ad 0)), (1, .int x1), (2, .int z10.1), (3, .int z10.2)]) hx hb dX5_beginnings_129 hl (k := 6) rfl rfl (by decide) rfl (fun ls hl => ?_)
            refine lv_goto (tgt := 43) hx hb dX5_beginnings_132 (by decide) ?_
            exact ih43 x1 z10.1 z10.2 (if x4 < (x6 - z10.2) then (x6 - z10.2) else x4) q8.2.2.2.2.2.2.1 (x6 + 1) block ties lines pmn row q8 q9 z5 _ _ _ (lv_sub hl [3, 4, 5, 6, 2, 1, 0] rfl) hP hD hS h hk43
          have h := ez10
          refine lv_if_le (tgt := 109) hx hb dX5_beginnings_88 (by decide) (fun c12 => ?_) (fun c12 => ?_)
          · have h := e_t c12 h
            obtain rfl := e_s h
            exact hJ11 _ _ _ (lv_sub hl [0, 1, 2, 3, 4, 6] rfl) hP hD hS
          · have h := e_f c12 h
            refine lv_aload_n hx hb dX5_beginnings_91 rfl (lv_at hl 0 rfl) ?_
            refine va_get (D := D) (ci := 5) (v := .ref (ad 51)) (C := RX5) (T := TX5) (N := 12) hx hb hts iX5 hown hK hP 0 rfl rfl 5 (Nat.le_of_ble_eq_true rfl) f43 (fun _ h9 => h9) rfl dX5_beginnings_92 ?_
            refine va_get (D := D) (ci := 3) (v := .int q8.2.2.2.2.2.2.1) (C := RX3) (T := TX3) (N := 8) hx hb hts iX3 hown hK hP 4 rfl rfl 6 (Nat.le_of_ble_eq_true rfl) f176 (fun _ h9 => h9) rfl dX5_beginnings_95 ?_
            refine lv_iload hx hb dX5_beginnings_98 (lv_at hl 5 rfl) ?_
            refine lv_icmp_eq (tgt := 109) hx hb dX5_beginnings_100 (by decide) (fun c13 => ?_) (fun c13 => ?_)
            · have h := e_t c13 h
              obtain rfl := e_s h
              exact hJ11 _ _ _ (lv_sub hl [0, 1, 2, 3, 4, 6] rfl) hP hD hS
            · have h := e_f c13 h
              refine lv_iinc (v := (x2 + 1)) (lv' := [(2, .int (x2 + 1)), (0, .ref (ad 0)), (1, .int x1), (3, .int x3), (4, .int x4), (5, .int x5), (6, .int x6)]) hx hb dX5_beginnings_103 hl (k := 2) rfl rfl (by decide) rfl (fun ls hl => ?_)
              refine lv_iload hx hb dX5_beginnings_106 (lv_at hl 6 rfl) ?_
              refine lv_istore_n (lv' := [(3, .int x6), (2, .int (x2 + 1)), (0, .ref (ad 0)), (1, .int x1), (4, .int x4), (5, .int x5), (6, .int x6)]) hx hb dX5_beginnings_108 rfl hl (by decide) rfl (fun ls hl => ?_)
              obtain rfl := e_s h
              exact hJ11 _ _ _ (lv_sub hl [2, 3, 1, 0, 4, 6] rfl) hP hD hS
    obtain ⟨z14, ez14, h⟩ := e_b h
    refine hL43 FU x1 0 0 (-2) (-1) 0 block ties lines pmn row q3 q4 z14 _ _ _ (lv_sub hl [5, 6, 4, 3, 2, 1, 0] rfl) hP hD hS ez14 (fun ls H locs hl hP hD hS => ?_)
    refine lv_iload_n hx hb dX5_beginnings_135 rfl (lv_at hl 1 rfl) ?_
    by_cases c15 : x1 = 0
    · have h := e_t c15 h
      refine lv_tableIn (off := 28) (tgt := 164) hx hb dX5_beginnings_136 (by rw [c15]; decide) (by rw [c15]; decide) (by rw [c15]; rfl) (by decide) ?_
      refine lv_iload_n hx hb dX5_beginnings_164 rfl (lv_at hl 2 rfl) ?_
      obtain rfl := e_s h
      exact hret hP hS rfl dX5_beginnings_165
    have h := e_f c15 h
    by_cases c17 : x1 = 1
    · have h := e_t c17 h
      refine lv_tableIn (off := 30) (tgt := 166) hx hb dX5_beginnings_136 (by rw [c17]; decide) (by rw [c17]; decide) (by rw [c17]; rfl) (by decide) ?_
      refine lv_iload_n hx hb dX5_beginnings_166 rfl (lv_at hl 2 rfl) ?_
      refine lv_if_ne (tgt := 175) hx hb dX5_beginnings_167 (by decide) (fun c16 => ?_) (fun c16 => ?_)
      · have h := e_t c16 h
        refine lv_iload_n hx hb dX5_beginnings_175 rfl (lv_at hl 3 rfl) ?_
        obtain rfl := e_s h
        exact hret hP hS rfl dX5_beginnings_176
      · have h := e_f (not_not_intro c16) h
        refine lv_bipush (v := (-2)) hx hb dX5_beginnings_170 (by decide) ?_
        refine lv_goto (tgt := 176) hx hb dX5_beginnings_172 (by decide) ?_
        obtain rfl := e_s h
        exact hret hP hS rfl dX5_beginnings_176
    have h := e_f c17 h
    by_cases c18 : x1 = 2
    · have h := e_t c18 h
      refine lv_tableIn (off := 41) (tgt := 177) hx hb dX5_beginnings_136 (by rw [c18]; decide) (by rw [c18]; decide) (by rw [c18]; rfl) (by decide) ?_
      refine lv_aload_n hx hb dX5_beginnings_177 rfl (lv_at hl 0 rfl) ?_
      refine va_get (D := D) (ci := 5) (v := .ref (ad 56)) (C := RX5) (T := TX5) (N := 12) hx hb hts iX5 hown hK hP 0 rfl rfl 6 (Nat.le_of_ble_eq_true rfl) f47 (fun _ h9 => h9) rfl dX5_beginnings_178 ?_
      refine va_get (D := D) (ci := 3) (v := .int z14.2.2.2.2.2.2.2.2.1) (C := RX3) (T := TX3) (N := 8) hx hb hts iX3 hown hK hP 9 rfl rfl 4 (Nat.le_of_ble_eq_true rfl) f182 (fun _ h9 => h9) rfl dX5_beginnings_181 ?_
      obtain rfl := e_s h
      exact hret hP hS rfl dX5_beginnings_184
    have h := e_f c18 h
    refine lv_tableOut (tgt := 185) hx hb dX5_beginnings_136 (sw_out 2 (fun k hk => by match k, hk with | 0, _ => exact c15 | 1, _ => exact c17 | 2, _ => exact c18 | (n + 3), hk => exact absurd hk (by omega)) (by decide)) (by decide) ?_
    refine lv_iload hx hb dX5_beginnings_185 (lv_at hl 4 rfl) ?_
    obtain rfl := e_s h
    exact hret hP hS rfl dX5_beginnings_187
  · have h := e_f (not_not_intro c2) h
    refine lv_iconst (v := (-1)) hx hb dX5_beginnings_8 (by decide) ?_
    obtain rfl := e_s h
    exact hret hP hS rfl dX5_beginnings_9
set_option maxHeartbeats 4000000 in
set_option maxRecDepth 100000 in
theorem kX5_spans (l : Launch) (D : va_G) (cA : Nat → ClassId) (ad : Nat → Nat) (block : Int32) (ties : Int32) (lines : Int32) (pmn : Int32) (row : RowT) (tally : TalT) (x1 : Int32) (q : Int32 × TalT) (h : mX5_spans ties row tally x1 = some q) : MI l yX5_spans wsX5_spans { frames := 2, cells := 0, slots := 0, locals := 43 } D cA .int [.ref (ad 0), .int x1] (wD_row_tally cA ad block ties lines pmn row tally) (wD_row_tally cA ad block ties lines pmn row q.2) q.1 := by
  refine MI.of (cc := cX5_spans) (maxL := 5) (by decide +kernel) rfl rfl rfl (Nat.le_of_ble_eq_true rfl) ?_
  intro p e s m args below meth c A ls Q hx hb hml hts hown hK hP hD hA hS hl hret
  have hl : lv_has ls 5 [(0, .ref (ad 0)), (1, .int x1)] := hl
  have f106 := hts (.fieldLink RX5 106 "ModeDesk$Row" "values" "[I") (by decide +kernel)
  have f135 := hts (.fieldLink RX5 135 "ModeDesk$Row" "size" "I") (by decide +kernel)
  have f176 := hts (.fieldLink RX5 176 "ModeDesk$Tally" "best" "I") (by decide +kernel)
  have f26 := hts (.fieldLink RX5 26 "ModeDesk" "row" "LModeDesk$Row;") (by decide +kernel)
  have f43 := hts (.fieldLink RX5 43 "ModeDesk" "tally" "LModeDesk$Tally;") (by decide +kernel)
  have f58 := hts (.fieldLink RX5 58 "ModeDesk" "ties" "I") (by decide +kernel)
  have iX2 : ∀ w ∈ wsX20, w ∈ wsX5_spans := by decide +kernel
  have iX3 : ∀ w ∈ wsX30, w ∈ wsX5_spans := by decide +kernel
  have iX5 : ∀ w ∈ wsX50, w ∈ wsX5_spans := by decide +kernel
  unfold mX5_spans at h
  refine lv_iload_n hx hb dX5_spans_0 rfl (lv_at hl 1 rfl) ?_
  obtain ⟨q1, eq1, h⟩ := e_b h
  refine xs_i (As := [.int x1]) (rest := []) ⟨hx, hb, hml, hown, hts⟩ hl.1 (kX5_isValue l D cA   x1  _ eq1) (va_cwS 1 hts gX5_spans_X5_isValue rfl rfl rfl (by decide +kernel) ⟨Nat.le_of_ble_eq_true rfl, Nat.le_of_ble_eq_true rfl⟩) rfl hK hP hD hS hA [] rfl (by decide +kernel) rfl (Nat.le_of_ble_eq_true rfl) dX5_spans_1 ⟨Nat.zero_le _, Nat.zero_le _⟩ (fun H locs hP hD hS hnq1 => ?_)
  have hP : va_P D vwCl (wD_row_tally cA ad block ties lines pmn row tally) H := hP
  have hD : va_D A (wD_row_tally cA ad block ties lines pmn row tally) := hD
  refine lv_if_ne (tgt := 9) hx hb dX5_spans_4 (by decide) (fun c2 => ?_) (fun c2 => ?_)
  · have h := e_t c2 h
    refine lv_iconst (v := 0) hx hb dX5_spans_9 (by decide) ?_
    refine lv_istore_n (lv' := [(2, .int 0), (0, .ref (ad 0)), (1, .int x1)]) hx hb dX5_spans_10 rfl hl (by decide) rfl (fun ls hl => ?_)
    refine lv_iconst (v := 0) hx hb dX5_spans_11 (by decide) ?_
    refine lv_istore_n (lv' := [(3, .int 0), (2, .int 0), (0, .ref (ad 0)), (1, .int x1)]) hx hb dX5_spans_12 rfl hl (by decide) rfl (fun ls hl => ?_)
    have hL13 : ∀ (n : Nat) (x1 : Int32) (x2 : Int32) (x3 : Int32) (block : Int32) (ties : Int32) (lines : Int32) (pmn : Int32) (row : RowT) (tally : TalT) (z3 : Int32 × TalT) (ls : Array Slot) (H : Heap) (locs : List Loc), lv_has ls 5 [(0, .ref (ad 0)), (1, .int x1), (2, .int x2), (3, .int x3)] → va_P D vwCl (wD_row_tally cA ad block ties lines pmn row tally) H → va_D A (wD_row_tally cA ad block ties lines pmn row tally) → va_S A s.heap H locs → mX5_spans_L13 ties row x1 n x2 x3 tally = some z3 → (∀ (ls : Array Slot) (H : Heap) (locs : List Loc), lv_has ls 5 [(2, .int z3.1)] → va_P D vwCl (wD_row_tally cA ad block ties lines pmn row z3.2) H → va_D A (wD_row_tally cA ad block ties lines pmn row z3.2) → va_S A s.heap H locs → W p l e (headSpec wsX5_spans { frames := 2, cells := 0, slots := 0, locals := 43 }).room s m args below meth c H locs 0 0 Q (F0 m 93 ls [])) → W p l e (headSpec wsX5_spans { frames := 2, cells := 0, slots := 0, locals := 43 }).room s m args below meth c H locs 0 0 Q (F0 m 13 ls []) := by
      intro n
      induction n with
      | zero => intro x1 x2 x3 block ties lines pmn row tally z3 ls H locs hl hP hD hS h hk13; exact e_n h
      | succ n ih13 =>
        intro x1 x2 x3 block ties lines pmn row tally z3 ls H locs hl hP hD hS h hk13
        rw [mX5_spans_L13.eq_2] at h
        refine lv_iload_n hx hb dX5_spans_13 rfl (lv_at hl 3 rfl) ?_
        refine lv_aload_n hx hb dX5_spans_14 rfl (lv_at hl 0 rfl) ?_
        refine va_get (D := D) (ci := 5) (v := .ref (ad 7)) (C := RX5) (T := TX5) (N := 12) hx hb hts iX5 hown hK hP 0 rfl rfl 2 (Nat.le_of_ble_eq_true rfl) f26 (fun _ h9 => h9) rfl dX5_spans_15 ?_
        refine va_get (D := D) (ci := 2) (v := .int row.2.2) (C := RX2) (T := TX2) (N := 3) hx hb hts iX2 hown hK hP 1 rfl rfl 2 (Nat.le_of_ble_eq_true rfl) f135 (fun _ h9 => h9) rfl dX5_spans_18 ?_
        refine lv_icmp_ge (tgt := 93) hx hb dX5_spans_21 (by decide) (fun c4 => ?_) (fun c4 => ?_)
        · have h := e_t c4 h
          obtain rfl := e_s h
          exact hk13 _ _ _ (lv_sub hl [2] rfl) hP hD hS
        · have h := e_f c4 h
          refine lv_aload_n hx hb dX5_spans_24 rfl (lv_at hl 0 rfl) ?_
          refine va_get (D := D) (ci := 5) (v := .ref (ad 51)) (C := RX5) (T := TX5) (N := 12) hx hb hts iX5 hown hK hP 0 rfl rfl 5 (Nat.le_of_ble_eq_true rfl) f43 (fun _ h9 => h9) rfl dX5_spans_25 ?_
          refine lv_aload_n hx hb dX5_spans_28 rfl (lv_at hl 0 rfl) ?_
          refine va_get (D := D) (ci := 5) (v := .int ties) (C := RX5) (T := TX5) (N := 12) hx hb hts iX5 hown hK hP 0 rfl rfl 9 (Nat.le_of_ble_eq_true rfl) f58 (fun _ h9 => h9) rfl dX5_spans_29 ?_
          obtain ⟨q5, eq5, h⟩ := e_b h
          refine xv_v (As := [.int ties]) (rest := []) (ci := 3) (b := ad 51) ⟨hx, hb, hml, hown, hts⟩ hl.1 (kX3_begin l D cA (fun i => ad (51 + i)) tally ties  _ eq5) (cwV 1 hts gX5_spans_X3_begin rfl rfl rfl (by decide +kernel) ⟨Nat.le_of_ble_eq_true rfl, Nat.le_of_ble_eq_true rfl⟩) rfl hK hP hD hS hA 4 rfl rfl rfl [4, 5, 6, 7, 8] rfl (by decide +kernel) rfl (Nat.le_of_ble_eq_true rfl) dX5_spans_32 ⟨Nat.zero_le _, Nat.zero_le _⟩ (fun H locs hP hD hS => ?_)
          have hP : va_P D vwCl (wD_row_tally cA ad block ties lines pmn row q5) H := hP
          have hD : va_D A (wD_row_tally cA ad block ties lines pmn row q5) := hD
          refine lv_iload_n hx hb dX5_spans_35 rfl (lv_at hl 3 rfl) ?_
          refine lv_istore (lv' := [(4, .int x3), (0, .ref (ad 0)), (1, .int x1), (2, .int x2), (3, .int x3)]) hx hb dX5_spans_36 hl (by decide) rfl (fun ls hl => ?_)
          have hL38 : ∀ (n : Nat) (x1 : Int32) (x2 : Int32) (x3 : Int32) (x4 : Int32) (block : Int32) (ties : Int32) (lines : Int32) (pmn : Int32) (row : RowT) (tally : TalT) (z6 : Int32 × TalT) (ls : Array Slot) (H : Heap) (locs : List Loc), lv_has ls 5 [(0, .ref (ad 0)), (1, .int x1), (2, .int x2), (3, .int x3), (4, .int x4)] → va_P D vwCl (wD_row_tally cA ad block ties lines pmn row tally) H → va_D A (wD_row_tally cA ad block ties lines pmn row tally) → va_S A s.heap H locs → mX5_spans_L38 row x1 n x2 x4 tally = some z6 → (∀ (ls : Array Slot) (H : Heap) (locs : List Loc), lv_has ls 5 [(0, .ref (ad 0)), (1, .int x1), (2, .int z6.1), (3, .int x3)] → va_P D vwCl (wD_row_tally cA ad block ties lines pmn row z6.2) H → va_D A (wD_row_tally cA ad block ties lines pmn row z6.2) → va_S A s.heap H locs → W p l e (headSpec wsX5_spans { frames := 2, cells := 0, slots := 0, locals := 43 }).room s m args below meth c H locs 0 0 Q (F0 m 87 ls [])) → W p l e (headSpec wsX5_spans { frames := 2, cells := 0, slots := 0, locals := 43 }).room s m args below meth c H locs 0 0 Q (F0 m 38 ls []) := by
            intro n
            induction n with
            | zero => intro x1 x2 x3 x4 block ties lines pmn row tally z6 ls H locs hl hP hD hS h hk38; exact e_n h
            | succ n ih38 =>
              intro x1 x2 x3 x4 block ties lines pmn row tally z6 ls H locs hl hP hD hS h hk38
              rw [mX5_spans_L38.eq_2] at h
              refine lv_iload hx hb dX5_spans_38 (lv_at hl 4 rfl) ?_
              refine lv_aload_n hx hb dX5_spans_40 rfl (lv_at hl 0 rfl) ?_
              refine va_get (D := D) (ci := 5) (v := .ref (ad 7)) (C := RX5) (T := TX5) (N := 12) hx hb hts iX5 hown hK hP 0 rfl rfl 2 (Nat.le_of_ble_eq_true rfl) f26 (fun _ h9 => h9) rfl dX5_spans_41 ?_
              refine va_get (D := D) (ci := 2) (v := .int row.2.2) (C := RX2) (T := TX2) (N := 3) hx hb hts iX2 hown hK hP 1 rfl rfl 2 (Nat.le_of_ble_eq_true rfl) f135 (fun _ h9 => h9) rfl dX5_spans_44 ?_
              refine lv_icmp_ge (tgt := 87) hx hb dX5_spans_47 (by decide) (fun c7 => ?_) (fun c7 => ?_)
              · have h := e_t c7 h
                obtain rfl := e_s h
                exact hk38 _ _ _ (lv_sub hl [0, 1, 2, 3] rfl) hP hD hS
              · have h := e_f c7 h
                refine lv_aload_n hx hb dX5_spans_50 rfl (lv_at hl 0 rfl) ?_
                refine va_get (D := D) (ci := 5) (v := .ref (ad 51)) (C := RX5) (T := TX5) (N := 12) hx hb hts iX5 hown hK hP 0 rfl rfl 5 (Nat.le_of_ble_eq_true rfl) f43 (fun _ h9 => h9) rfl dX5_spans_51 ?_
                refine lv_aload_n hx hb dX5_spans_54 rfl (lv_at hl 0 rfl) ?_
                refine va_get (D := D) (ci := 5) (v := .ref (ad 7)) (C := RX5) (T := TX5) (N := 12) hx hb hts iX5 hown hK hP 0 rfl rfl 2 (Nat.le_of_ble_eq_true rfl) f26 (fun _ h9 => h9) rfl dX5_spans_55 ?_
                refine va_get (D := D) (ci := 2) (v := .ref (ad 8)) (C := RX2) (T := TX2) (N := 3) hx hb hts iX2 hown hK hP 1 rfl rfl 0 (Nat.le_of_ble_eq_true rfl) f106 (fun _ h9 => h9) rfl dX5_spans_58 ?_
                refine lv_iload hx hb dX5_spans_61 (lv_at hl 4 rfl) ?_
                obtain ⟨v8, ev8, nv8, h⟩ := e_rd h
                refine xa_iald hx hb hK hP 2 rfl nv8 ev8 dX5_spans_63 ?_
                obtain ⟨q9, eq9, h⟩ := e_b h
                refine xv_v (As := [.int v8]) (rest := []) (ci := 3) (b := ad 51) ⟨hx, hb, hml, hown, hts⟩ hl.1 (kX3_push l D cA (fun i => ad (51 + i)) tally v8  _ eq9) (cwV 1 hts gX5_spans_X3_push rfl rfl rfl (by decide +kernel) ⟨Nat.le_of_ble_eq_true rfl, Nat.le_of_ble_eq_true rfl⟩) rfl hK hP hD hS hA 4 rfl rfl rfl [4, 5, 6, 7, 8] rfl (by decide +kernel) rfl (Nat.le_of_ble_eq_true rfl) dX5_spans_64 ⟨Nat.zero_le _, Nat.zero_le _⟩ (fun H locs hP hD hS => ?_)
                have hP : va_P D vwCl (wD_row_tally cA ad block ties lines pmn row q9) H := hP
                have hD : va_D A (wD_row_tally cA ad block ties lines pmn row q9) := hD
                refine lv_aload_n hx hb dX5_spans_67 rfl (lv_at hl 0 rfl) ?_
                refine va_get (D := D) (ci := 5) (v := .ref (ad 51)) (C := RX5) (T := TX5) (N := 12) hx hb hts iX5 hown hK hP 0 rfl rfl 5 (Nat.le_of_ble_eq_true rfl) f43 (fun _ h9 => h9) rfl dX5_spans_68 ?_
                refine va_get (D := D) (ci := 3) (v := .int q9.2.2.2.2.2.2.1) (C := RX3) (T := TX3) (N := 8) hx hb hts iX3 hown hK hP 4 rfl rfl 6 (Nat.le_of_ble_eq_true rfl) f176 (fun _ h9 => h9) rfl dX5_spans_71 ?_
                refine lv_iload_n hx hb dX5_spans_74 rfl (lv_at hl 1 rfl) ?_
                refine lv_icmp_ne (tgt := 81) hx hb dX5_spans_75 (by decide) (fun c10 => ?_) (fun c10 => ?_)
                · have h := e_t c10 h
                  refine lv_iinc (v := (x4 + 1)) (lv' := [(4, .int (x4 + 1)), (0, .ref (ad 0)), (1, .int x1), (2, .int x2), (3, .int x3)]) hx hb dX5_spans_81 hl (k := 4) rfl rfl (by decide) rfl (fun ls hl => ?_)
                  refine lv_goto (tgt := 38) hx hb dX5_spans_84 (by decide) ?_
                  exact ih38 x1 x2 x3 (x4 + 1) block ties lines pmn row q9 z6 _ _ _ (lv_sub hl [1, 2, 3, 4, 0] rfl) hP hD hS h hk38
                · have h := e_f (not_not_intro c10) h
                  refine lv_iinc (v := (x2 + 1)) (lv' := [(2, .int (x2 + 1)), (0, .ref (ad 0)), (1, .int x1), (3, .int x3), (4, .int x4)]) hx hb dX5_spans_78 hl (k := 2) rfl rfl (by decide) rfl (fun ls hl => ?_)
                  refine lv_iinc (v := (x4 + 1)) (lv' := [(4, .int (x4 + 1)), (2, .int (x2 + 1)), (0, .ref (ad 0)), (1, .int x1), (3, .int x3)]) hx hb dX5_spans_81 hl (k := 4) rfl rfl (by decide) rfl (fun ls hl => ?_)
                  refine lv_goto (tgt := 38) hx hb dX5_spans_84 (by decide) ?_
                  exact ih38 x1 (x2 + 1) x3 (x4 + 1) block ties lines pmn row q9 z6 _ _ _ (lv_sub hl [2, 3, 1, 4, 0] rfl) hP hD hS h hk38
          obtain ⟨z11, ez11, h⟩ := e_b h
          refine hL38 FU x1 x2 x3 x3 block ties lines pmn row q5 z11 _ _ _ (lv_sub hl [1, 2, 3, 4, 0] rfl) hP hD hS ez11 (fun ls H locs hl hP hD hS => ?_)
          refine lv_iinc (v := (x3 + 1)) (lv' := [(3, .int (x3 + 1)), (0, .ref (ad 0)), (1, .int x1), (2, .int z11.1)]) hx hb dX5_spans_87 hl (k := 3) rfl rfl (by decide) rfl (fun ls hl => ?_)
          refine lv_goto (tgt := 13) hx hb dX5_spans_90 (by decide) ?_
          exact ih13 x1 z11.1 (x3 + 1) block ties lines pmn row z11.2 z3 _ _ _ (lv_sub hl [1, 2, 3, 0] rfl) hP hD hS h hk13
    obtain ⟨z12, ez12, h⟩ := e_b h
    refine hL13 FU x1 0 0 block ties lines pmn row tally z12 _ _ _ (lv_sub hl [2, 3, 1, 0] rfl) hP hD hS ez12 (fun ls H locs hl hP hD hS => ?_)
    refine lv_iload_n hx hb dX5_spans_93 rfl (lv_at hl 0 rfl) ?_
    obtain rfl := e_s h
    exact hret hP hS rfl dX5_spans_94
  · have h := e_f (not_not_intro c2) h
    refine lv_iconst (v := (-1)) hx hb dX5_spans_7 (by decide) ?_
    obtain rfl := e_s h
    exact hret hP hS rfl dX5_spans_8
set_option maxHeartbeats 4000000 in
set_option maxRecDepth 100000 in
theorem kX5_longest (l : Launch) (D : va_G) (cA : Nat → ClassId) (ad : Nat → Nat) (block : Int32) (ties : Int32) (lines : Int32) (pmn : Int32) (row : RowT) (tally : TalT) (x1 : Int32) (x2 : Int32) (q : Int32 × TalT) (h : mX5_longest ties row tally x1 x2 = some q) : MI l yX5_longest wsX5_longest { frames := 2, cells := 0, slots := 0, locals := 43 } D cA .int [.ref (ad 0), .int x1, .int x2] (wD_row_tally cA ad block ties lines pmn row tally) (wD_row_tally cA ad block ties lines pmn row q.2) q.1 := by
  refine MI.of (cc := cX5_longest) (maxL := 7) (by decide +kernel) rfl rfl rfl (Nat.le_of_ble_eq_true rfl) ?_
  intro p e s m args below meth c A ls Q hx hb hml hts hown hK hP hD hA hS hl hret
  have hl : lv_has ls 7 [(0, .ref (ad 0)), (1, .int x1), (2, .int x2)] := hl
  have f106 := hts (.fieldLink RX5 106 "ModeDesk$Row" "values" "[I") (by decide +kernel)
  have f135 := hts (.fieldLink RX5 135 "ModeDesk$Row" "size" "I") (by decide +kernel)
  have f176 := hts (.fieldLink RX5 176 "ModeDesk$Tally" "best" "I") (by decide +kernel)
  have f26 := hts (.fieldLink RX5 26 "ModeDesk" "row" "LModeDesk$Row;") (by decide +kernel)
  have f43 := hts (.fieldLink RX5 43 "ModeDesk" "tally" "LModeDesk$Tally;") (by decide +kernel)
  have f58 := hts (.fieldLink RX5 58 "ModeDesk" "ties" "I") (by decide +kernel)
  have iX2 : ∀ w ∈ wsX20, w ∈ wsX5_longest := by decide +kernel
  have iX3 : ∀ w ∈ wsX30, w ∈ wsX5_longest := by decide +kernel
  have iX5 : ∀ w ∈ wsX50, w ∈ wsX5_longest := by decide +kernel
  unfold mX5_longest at h
  refine lv_iload_n hx hb dX5_longest_0 rfl (lv_at hl 1 rfl) ?_
  obtain ⟨q1, eq1, h⟩ := e_b h
  refine xs_i (As := [.int x1]) (rest := []) ⟨hx, hb, hml, hown, hts⟩ hl.1 (kX5_isValue l D cA   x1  _ eq1) (va_cwS 1 hts gX5_longest_X5_isValue rfl rfl rfl (by decide +kernel) ⟨Nat.le_of_ble_eq_true rfl, Nat.le_of_ble_eq_true rfl⟩) rfl hK hP hD hS hA [] rfl (by decide +kernel) rfl (Nat.le_of_ble_eq_true rfl) dX5_longest_1 ⟨Nat.zero_le _, Nat.zero_le _⟩ (fun H locs hP hD hS hnq1 => ?_)
  have hP : va_P D vwCl (wD_row_tally cA ad block ties lines pmn row tally) H := hP
  have hD : va_D A (wD_row_tally cA ad block ties lines pmn row tally) := hD
  refine lv_if_eq (tgt := 15) hx hb dX5_longest_4 (by decide) (fun c2 => ?_) (fun c2 => ?_)
  · have h := e_t c2 h
    refine lv_iconst (v := (-1)) hx hb dX5_longest_15 (by decide) ?_
    obtain rfl := e_s h
    exact hret hP hS rfl dX5_longest_16
  · have h := e_f c2 h
    refine lv_iload_n hx hb dX5_longest_7 rfl (lv_at hl 2 rfl) ?_
    refine lv_iconst (v := 2) hx hb dX5_longest_8 (by decide) ?_
    obtain ⟨q3, eq3, h⟩ := e_b h
    refine xs_i (As := [.int x2, .int 2]) (rest := []) ⟨hx, hb, hml, hown, hts⟩ hl.1 (kX5_isBelow l D cA   x2 2  _ eq3) (va_cwS 2 hts gX5_longest_X5_isBelow rfl rfl rfl (by decide +kernel) ⟨Nat.le_of_ble_eq_true rfl, Nat.le_of_ble_eq_true rfl⟩) rfl hK hP hD hS hA [] rfl (by decide +kernel) rfl (Nat.le_of_ble_eq_true rfl) dX5_longest_9 ⟨Nat.zero_le _, Nat.zero_le _⟩ (fun H locs hP hD hS hnq3 => ?_)
    have hP : va_P D vwCl (wD_row_tally cA ad block ties lines pmn row tally) H := hP
    have hD : va_D A (wD_row_tally cA ad block ties lines pmn row tally) := hD
    refine lv_if_ne (tgt := 17) hx hb dX5_longest_12 (by decide) (fun c4 => ?_) (fun c4 => ?_)
    · have h := e_t c4 h
      refine lv_iconst (v := 0) hx hb dX5_longest_17 (by decide) ?_
      refine lv_istore_n (lv' := [(3, .int 0), (0, .ref (ad 0)), (1, .int x1), (2, .int x2)]) hx hb dX5_longest_18 rfl hl (by decide) rfl (fun ls hl => ?_)
      refine lv_iconst (v := 0) hx hb dX5_longest_19 (by decide) ?_
      refine lv_istore (lv' := [(4, .int 0), (3, .int 0), (0, .ref (ad 0)), (1, .int x1), (2, .int x2)]) hx hb dX5_longest_20 hl (by decide) rfl (fun ls hl => ?_)
      refine lv_iconst (v := 0) hx hb dX5_longest_22 (by decide) ?_
      refine lv_istore (lv' := [(5, .int 0), (4, .int 0), (3, .int 0), (0, .ref (ad 0)), (1, .int x1), (2, .int x2)]) hx hb dX5_longest_23 hl (by decide) rfl (fun ls hl => ?_)
      have hL25 : ∀ (n : Nat) (x1 : Int32) (x2 : Int32) (x3 : Int32) (x4 : Int32) (x5 : Int32) (block : Int32) (ties : Int32) (lines : Int32) (pmn : Int32) (row : RowT) (tally : TalT) (z5 : Int32 × Int32 × TalT) (ls : Array Slot) (H : Heap) (locs : List Loc), lv_has ls 7 [(0, .ref (ad 0)), (1, .int x1), (2, .int x2), (3, .int x3), (4, .int x4), (5, .int x5)] → va_P D vwCl (wD_row_tally cA ad block ties lines pmn row tally) H → va_D A (wD_row_tally cA ad block ties lines pmn row tally) → va_S A s.heap H locs → mX5_longest_L25 ties row x1 n x3 x4 x5 tally = some z5 → (∀ (ls : Array Slot) (H : Heap) (locs : List Loc), lv_has ls 7 [(0, .ref (ad 0)), (2, .int x2), (3, .int z5.1), (4, .int z5.2.1)] → va_P D vwCl (wD_row_tally cA ad block ties lines pmn row z5.2.2) H → va_D A (wD_row_tally cA ad block ties lines pmn row z5.2.2) → va_S A s.heap H locs → W p l e (headSpec wsX5_longest { frames := 2, cells := 0, slots := 0, locals := 43 }).room s m args below meth c H locs 0 0 Q (F0 m 131 ls [])) → W p l e (headSpec wsX5_longest { frames := 2, cells := 0, slots := 0, locals := 43 }).room s m args below meth c H locs 0 0 Q (F0 m 25 ls []) := by
        intro n
        induction n with
        | zero => intro x1 x2 x3 x4 x5 block ties lines pmn row tally z5 ls H locs hl hP hD hS h hk25; exact e_n h
        | succ n ih25 =>
          intro x1 x2 x3 x4 x5 block ties lines pmn row tally z5 ls H locs hl hP hD hS h hk25
          rw [mX5_longest_L25.eq_2] at h
          refine lv_iload hx hb dX5_longest_25 (lv_at hl 5 rfl) ?_
          refine lv_aload_n hx hb dX5_longest_27 rfl (lv_at hl 0 rfl) ?_
          refine va_get (D := D) (ci := 5) (v := .ref (ad 7)) (C := RX5) (T := TX5) (N := 12) hx hb hts iX5 hown hK hP 0 rfl rfl 2 (Nat.le_of_ble_eq_true rfl) f26 (fun _ h9 => h9) rfl dX5_longest_28 ?_
          refine va_get (D := D) (ci := 2) (v := .int row.2.2) (C := RX2) (T := TX2) (N := 3) hx hb hts iX2 hown hK hP 1 rfl rfl 2 (Nat.le_of_ble_eq_true rfl) f135 (fun _ h9 => h9) rfl dX5_longest_31 ?_
          refine lv_iload hx hb dX5_longest_34 (lv_at hl 4 rfl) ?_
          refine lv_isub hx hb dX5_longest_36 ?_
          refine lv_icmp_ge (tgt := 131) hx hb dX5_longest_37 (by decide) (fun c6 => ?_) (fun c6 => ?_)
          · have h := e_t c6 h
            obtain rfl := e_s h
            exact hk25 _ _ _ (lv_sub hl [0, 2, 3, 4] rfl) hP hD hS
          · have h := e_f c6 h
            refine lv_aload_n hx hb dX5_longest_40 rfl (lv_at hl 0 rfl) ?_
            refine va_get (D := D) (ci := 5) (v := .ref (ad 51)) (C := RX5) (T := TX5) (N := 12) hx hb hts iX5 hown hK hP 0 rfl rfl 5 (Nat.le_of_ble_eq_true rfl) f43 (fun _ h9 => h9) rfl dX5_longest_41 ?_
            refine lv_aload_n hx hb dX5_longest_44 rfl (lv_at hl 0 rfl) ?_
            refine va_get (D := D) (ci := 5) (v := .int ties) (C := RX5) (T := TX5) (N := 12) hx hb hts iX5 hown hK hP 0 rfl rfl 9 (Nat.le_of_ble_eq_true rfl) f58 (fun _ h9 => h9) rfl dX5_longest_45 ?_
            obtain ⟨q7, eq7, h⟩ := e_b h
            refine xv_v (As := [.int ties]) (rest := []) (ci := 3) (b := ad 51) ⟨hx, hb, hml, hown, hts⟩ hl.1 (kX3_begin l D cA (fun i => ad (51 + i)) tally ties  _ eq7) (cwV 1 hts gX5_longest_X3_begin rfl rfl rfl (by decide +kernel) ⟨Nat.le_of_ble_eq_true rfl, Nat.le_of_ble_eq_true rfl⟩) rfl hK hP hD hS hA 4 rfl rfl rfl [4, 5, 6, 7, 8] rfl (by decide +kernel) rfl (Nat.le_of_ble_eq_true rfl) dX5_longest_48 ⟨Nat.zero_le _, Nat.zero_le _⟩ (fun H locs hP hD hS => ?_)
            have hP : va_P D vwCl (wD_row_tally cA ad block ties lines pmn row q7) H := hP
            have hD : va_D A (wD_row_tally cA ad block ties lines pmn row q7) := hD
            refine lv_iload hx hb dX5_longest_51 (lv_at hl 5 rfl) ?_
            refine lv_istore (lv' := [(6, .int x5), (0, .ref (ad 0)), (1, .int x1), (2, .int x2), (3, .int x3), (4, .int x4), (5, .int x5)]) hx hb dX5_longest_53 hl (by decide) rfl (fun ls hl => ?_)
            have hL55 : ∀ (n : Nat) (x1 : Int32) (x2 : Int32) (x3 : Int32) (x4 : Int32) (x5 : Int32) (x6 : Int32) (block : Int32) (ties : Int32) (lines : Int32) (pmn : Int32) (row : RowT) (tally : TalT) (z8 : Int32 × Int32 × TalT) (ls : Array Slot) (H : Heap) (locs : List Loc), lv_has ls 7 [(0, .ref (ad 0)), (1, .int x1), (2, .int x2), (3, .int x3), (4, .int x4), (5, .int x5), (6, .int x6)] → va_P D vwCl (wD_row_tally cA ad block ties lines pmn row tally) H → va_D A (wD_row_tally cA ad block ties lines pmn row tally) → va_S A s.heap H locs → mX5_longest_L55 row x1 x5 n x3 x4 x6 tally = some z8 → (∀ (ls : Array Slot) (H : Heap) (locs : List Loc), lv_has ls 7 [(0, .ref (ad 0)), (1, .int x1), (2, .int x2), (3, .int z8.1), (4, .int z8.2.1), (5, .int x5)] → va_P D vwCl (wD_row_tally cA ad block ties lines pmn row z8.2.2) H → va_D A (wD_row_tally cA ad block ties lines pmn row z8.2.2) → va_S A s.heap H locs → W p l e (headSpec wsX5_longest { frames := 2, cells := 0, slots := 0, locals := 43 }).room s m args below meth c H locs 0 0 Q (F0 m 125 ls [])) → W p l e (headSpec wsX5_longest { frames := 2, cells := 0, slots := 0, locals := 43 }).room s m args below meth c H locs 0 0 Q (F0 m 55 ls []) := by
              intro n
              induction n with
              | zero => intro x1 x2 x3 x4 x5 x6 block ties lines pmn row tally z8 ls H locs hl hP hD hS h hk55; exact e_n h
              | succ n ih55 =>
                intro x1 x2 x3 x4 x5 x6 block ties lines pmn row tally z8 ls H locs hl hP hD hS h hk55
                rw [mX5_longest_L55.eq_2] at h
                refine lv_iload hx hb dX5_longest_55 (lv_at hl 6 rfl) ?_
                refine lv_aload_n hx hb dX5_longest_57 rfl (lv_at hl 0 rfl) ?_
                refine va_get (D := D) (ci := 5) (v := .ref (ad 7)) (C := RX5) (T := TX5) (N := 12) hx hb hts iX5 hown hK hP 0 rfl rfl 2 (Nat.le_of_ble_eq_true rfl) f26 (fun _ h9 => h9) rfl dX5_longest_58 ?_
                refine va_get (D := D) (ci := 2) (v := .int row.2.2) (C := RX2) (T := TX2) (N := 3) hx hb hts iX2 hown hK hP 1 rfl rfl 2 (Nat.le_of_ble_eq_true rfl) f135 (fun _ h9 => h9) rfl dX5_longest_61 ?_
                refine lv_icmp_ge (tgt := 125) hx hb dX5_longest_64 (by decide) (fun c9 => ?_) (fun c9 => ?_)
                · have h := e_t c9 h
                  obtain rfl := e_s h
                  exact hk55 _ _ _ (lv_sub hl [0, 1, 2, 3, 4, 5] rfl) hP hD hS
                · have h := e_f c9 h
                  refine lv_aload_n hx hb dX5_longest_67 rfl (lv_at hl 0 rfl) ?_
                  refine va_get (D := D) (ci := 5) (v := .ref (ad 51)) (C := RX5) (T := TX5) (N := 12) hx hb hts iX5 hown hK hP 0 rfl rfl 5 (Nat.le_of_ble_eq_true rfl) f43 (fun _ h9 => h9) rfl dX5_longest_68 ?_
                  refine lv_aload_n hx hb dX5_longest_71 rfl (lv_at hl 0 rfl) ?_
                  refine va_get (D := D) (ci := 5) (v := .ref (ad 7)) (C := RX5) (T := TX5) (N := 12) hx hb hts iX5 hown hK hP 0 rfl rfl 2 (Nat.le_of_ble_eq_true rfl) f26 (fun _ h9 => h9) rfl dX5_longest_72 ?_
                  refine va_get (D := D) (ci := 2) (v := .ref (ad 8)) (C := RX2) (T := TX2) (N := 3) hx hb hts iX2 hown hK hP 1 rfl rfl 0 (Nat.le_of_ble_eq_true rfl) f106 (fun _ h9 => h9) rfl dX5_longest_75 ?_
                  refine lv_iload hx hb dX5_longest_78 (lv_at hl 6 rfl) ?_
                  obtain ⟨v10, ev10, nv10, h⟩ := e_rd h
                  refine xa_iald hx hb hK hP 2 rfl nv10 ev10 dX5_longest_80 ?_
                  obtain ⟨q11, eq11, h⟩ := e_b h
                  refine xv_v (As := [.int v10]) (rest := []) (ci := 3) (b := ad 51) ⟨hx, hb, hml, hown, hts⟩ hl.1 (kX3_push l D cA (fun i => ad (51 + i)) tally v10  _ eq11) (cwV 1 hts gX5_longest_X3_push rfl rfl rfl (by decide +kernel) ⟨Nat.le_of_ble_eq_true rfl, Nat.le_of_ble_eq_true rfl⟩) rfl hK hP hD hS hA 4 rfl rfl rfl [4, 5, 6, 7, 8] rfl (by decide +kernel) rfl (Nat.le_of_ble_eq_true rfl) dX5_longest_81 ⟨Nat.zero_le _, Nat.zero_le _⟩ (fun H locs hP hD hS => ?_)
                  have hP : va_P D vwCl (wD_row_tally cA ad block ties lines pmn row q11) H := hP
                  have hD : va_D A (wD_row_tally cA ad block ties lines pmn row q11) := hD
                  refine lv_aload_n hx hb dX5_longest_84 rfl (lv_at hl 0 rfl) ?_
                  refine va_get (D := D) (ci := 5) (v := .ref (ad 51)) (C := RX5) (T := TX5) (N := 12) hx hb hts iX5 hown hK hP 0 rfl rfl 5 (Nat.le_of_ble_eq_true rfl) f43 (fun _ h9 => h9) rfl dX5_longest_85 ?_
                  refine va_get (D := D) (ci := 3) (v := .int q11.2.2.2.2.2.2.1) (C := RX3) (T := TX3) (N := 8) hx hb hts iX3 hown hK hP 4 rfl rfl 6 (Nat.le_of_ble_eq_true rfl) f176 (fun _ h9 => h9) rfl dX5_longest_88 ?_
                  refine lv_iload_n hx hb dX5_longest_91 rfl (lv_at hl 1 rfl) ?_
                  refine lv_icmp_ne (tgt := 119) hx hb dX5_longest_92 (by decide) (fun c12 => ?_) (fun c12 => ?_)
                  · have h := e_t c12 h
                    refine lv_iinc (v := (x6 + 1)) (lv' := [(6, .int (x6 + 1)), (0, .ref (ad 0)), (1, .int x1), (2, .int x2), (3, .int x3), (4, .int x4), (5, .int x5)]) hx hb dX5_longest_119 hl (k := 6) rfl rfl (by decide) rfl (fun ls hl => ?_)
                    refine lv_goto (tgt := 55) hx hb dX5_longest_122 (by decide) ?_
                    exact ih55 x1 x2 x3 x4 x5 (x6 + 1) block ties lines pmn row q11 z8 _ _ _ (lv_sub hl [1, 2, 3, 4, 5, 6, 0] rfl) hP hD hS h hk55
                  · have h := e_f (not_not_intro c12) h
                    refine lv_iload hx hb dX5_longest_95 (lv_at hl 6 rfl) ?_
                    refine lv_iload hx hb dX5_longest_97 (lv_at hl 5 rfl) ?_
                    refine lv_isub hx hb dX5_longest_99 ?_
                    refine lv_iconst (v := 1) hx hb dX5_longest_100 (by decide) ?_
                    refine lv_iadd hx hb dX5_longest_101 ?_
                    refine lv_iload hx hb dX5_longest_102 (lv_at hl 4 rfl) ?_
                    refine lv_icmp_le (tgt := 119) hx hb dX5_longest_104 (by decide) (fun c13 => ?_) (fun c13 => ?_)
                    · have h := e_t c13 h
                      refine lv_iinc (v := (x6 + 1)) (lv' := [(6, .int (x6 + 1)), (0, .ref (ad 0)), (1, .int x1), (2, .int x2), (3, .int x3), (4, .int x4), (5, .int x5)]) hx hb dX5_longest_119 hl (k := 6) rfl rfl (by decide) rfl (fun ls hl => ?_)
                      refine lv_goto (tgt := 55) hx hb dX5_longest_122 (by decide) ?_
                      exact ih55 x1 x2 x3 x4 x5 (x6 + 1) block ties lines pmn row q11 z8 _ _ _ (lv_sub hl [1, 2, 3, 4, 5, 6, 0] rfl) hP hD hS h hk55
                    · have h := e_f c13 h
                      refine lv_iload hx hb dX5_longest_107 (lv_at hl 5 rfl) ?_
                      refine lv_istore_n (lv' := [(3, .int x5), (0, .ref (ad 0)), (1, .int x1), (2, .int x2), (4, .int x4), (5, .int x5), (6, .int x6)]) hx hb dX5_longest_109 rfl hl (by decide) rfl (fun ls hl => ?_)
                      refine lv_iload hx hb dX5_longest_110 (lv_at hl 6 rfl) ?_
                      refine lv_iload hx hb dX5_longest_112 (lv_at hl 5 rfl) ?_
                      refine lv_isub hx hb dX5_longest_114 ?_
                      refine lv_iconst (v := 1) hx hb dX5_longest_115 (by decide) ?_
                      refine lv_iadd hx hb dX5_longest_116 ?_
                      refine lv_istore (lv' := [(4, .int ((x6 - x5) + 1)), (3, .int x5), (0, .ref (ad 0)), (1, .int x1), (2, .int x2), (5, .int x5), (6, .int x6)]) hx hb dX5_longest_117 hl (by decide) rfl (fun ls hl => ?_)
                      refine lv_iinc (v := (x6 + 1)) (lv' := [(6, .int (x6 + 1)), (4, .int ((x6 - x5) + 1)), (3, .int x5), (0, .ref (ad 0)), (1, .int x1), (2, .int x2), (5, .int x5)]) hx hb dX5_longest_119 hl (k := 6) rfl rfl (by decide) rfl (fun ls hl => ?_)
                      refine lv_goto (tgt := 55) hx hb dX5_longest_122 (by decide) ?_
                      exact ih55 x1 x2 x5 ((x6 - x5) + 1) x5 (x6 + 1) block ties lines pmn row q11 z8 _ _ _ (lv_sub hl [3, 4, 5, 2, 1, 6, 0] rfl) hP hD hS h hk55
            obtain ⟨z14, ez14, h⟩ := e_b h
            refine hL55 FU x1 x2 x3 x4 x5 x5 block ties lines pmn row q7 z14 _ _ _ (lv_sub hl [1, 2, 3, 4, 5, 6, 0] rfl) hP hD hS ez14 (fun ls H locs hl hP hD hS => ?_)
            refine lv_iinc (v := (x5 + 1)) (lv' := [(5, .int (x5 + 1)), (0, .ref (ad 0)), (1, .int x1), (2, .int x2), (3, .int z14.1), (4, .int z14.2.1)]) hx hb dX5_longest_125 hl (k := 5) rfl rfl (by decide) rfl (fun ls hl => ?_)
            refine lv_goto (tgt := 25) hx hb dX5_longest_128 (by decide) ?_
            exact ih25 x1 x2 z14.1 z14.2.1 (x5 + 1) block ties lines pmn row z14.2.2 z5 _ _ _ (lv_sub hl [1, 2, 3, 4, 5, 0] rfl) hP hD hS h hk25
      obtain ⟨z15, ez15, h⟩ := e_b h
      refine hL25 FU x1 x2 0 0 0 block ties lines pmn row tally z15 _ _ _ (lv_sub hl [3, 4, 5, 2, 1, 0] rfl) hP hD hS ez15 (fun ls H locs hl hP hD hS => ?_)
      refine lv_aload_n hx hb dX5_longest_131 rfl (lv_at hl 0 rfl) ?_
      refine lv_iload_n hx hb dX5_longest_132 rfl (lv_at hl 2 rfl) ?_
      refine lv_iload hx hb dX5_longest_133 (lv_at hl 3 rfl) ?_
      refine lv_iload_n hx hb dX5_longest_135 rfl (lv_at hl 1 rfl) ?_
      obtain ⟨q16, eq16, h⟩ := e_b h
      refine xv_i (As := [.int z15.1, .int z15.2.1, .int x2]) (rest := []) (ci := 5) (b := ad 0) ⟨hx, hb, hml, hown, hts⟩ hl.1 (kX5_spanTold l D cA ad block ties lines pmn row z15.1 z15.2.1 x2  _ eq16) (cwV 3 hts gX5_longest_X5_spanTold rfl rfl rfl (by decide +kernel) ⟨Nat.le_of_ble_eq_true rfl, Nat.le_of_ble_eq_true rfl⟩) rfl hK hP hD hS hA 0 rfl rfl rfl [0, 1, 2, 3] rfl (by decide +kernel) rfl (Nat.le_of_ble_eq_true rfl) dX5_longest_136 ⟨Nat.zero_le _, Nat.zero_le _⟩ (fun H locs hP hD hS hnq16 => ?_)
      have hP : va_P D vwCl (wD_row_tally cA ad block ties lines pmn row z15.2.2) H := hP
      have hD : va_D A (wD_row_tally cA ad block ties lines pmn row z15.2.2) := hD
      obtain rfl := e_s h
      exact hret hP hS rfl dX5_longest_139
    · have h := e_f (not_not_intro c4) h
      refine lv_iconst (v := (-1)) hx hb dX5_longest_15 (by decide) ?_
      obtain rfl := e_s h
      exact hret hP hS rfl dX5_longest_16
set_option maxHeartbeats 4000000 in
set_option maxRecDepth 100000 in
theorem kX5_reign (l : Launch) (D : va_G) (cA : Nat → ClassId) (ad : Nat → Nat) (block : Int32) (ties : Int32) (lines : Int32) (pmn : Int32) (row : RowT) (x1 : Int32) (x2 : Int32) (q : Int32) (h : mX5_reign row x1 x2 = some q) : MI l yX5_reign wsX5_reign { frames := 1, cells := 0, slots := 0, locals := 23 } D cA .int [.ref (ad 0), .int x1, .int x2] (wD_row cA ad block ties lines pmn row) (wD_row cA ad block ties lines pmn row) q := by
  refine MI.of (cc := cX5_reign) (maxL := 8) (by decide +kernel) rfl rfl rfl (Nat.le_of_ble_eq_true rfl) ?_
  intro p e s m args below meth c A ls Q hx hb hml hts hown hK hP hD hA hS hl hret
  have hl : lv_has ls 8 [(0, .ref (ad 0)), (1, .int x1), (2, .int x2)] := hl
  have f106 := hts (.fieldLink RX5 106 "ModeDesk$Row" "values" "[I") (by decide +kernel)
  have f135 := hts (.fieldLink RX5 135 "ModeDesk$Row" "size" "I") (by decide +kernel)
  have f26 := hts (.fieldLink RX5 26 "ModeDesk" "row" "LModeDesk$Row;") (by decide +kernel)
  have iX2 : ∀ w ∈ wsX20, w ∈ wsX5_reign := by decide +kernel
  have iX5 : ∀ w ∈ wsX50, w ∈ wsX5_reign := by decide +kernel
  unfold mX5_reign at h
  refine lv_iload_n hx hb dX5_reign_0 rfl (lv_at hl 1 rfl) ?_
  obtain ⟨q1, eq1, h⟩ := e_b h
  refine xs_i (As := [.int x1]) (rest := []) ⟨hx, hb, hml, hown, hts⟩ hl.1 (kX5_isValue l D cA   x1  _ eq1) (va_cwS 1 hts gX5_reign_X5_isValue rfl rfl rfl (by decide +kernel) ⟨Nat.le_of_ble_eq_true rfl, Nat.le_of_ble_eq_true rfl⟩) rfl hK hP hD hS hA [] rfl (by decide +kernel) rfl (Nat.le_of_ble_eq_true rfl) dX5_reign_1 ⟨Nat.zero_le _, Nat.zero_le _⟩ (fun H locs hP hD hS hnq1 => ?_)
  have hP : va_P D vwCl (wD_row cA ad block ties lines pmn row) H := hP
  have hD : va_D A (wD_row cA ad block ties lines pmn row) := hD
  refine lv_if_eq (tgt := 15) hx hb dX5_reign_4 (by decide) (fun c2 => ?_) (fun c2 => ?_)
  · have h := e_t c2 h
    refine lv_iconst (v := (-1)) hx hb dX5_reign_15 (by decide) ?_
    obtain rfl := e_s h
    exact hret hP hS rfl dX5_reign_16
  · have h := e_f c2 h
    refine lv_iload_n hx hb dX5_reign_7 rfl (lv_at hl 2 rfl) ?_
    refine lv_iconst (v := 2) hx hb dX5_reign_8 (by decide) ?_
    obtain ⟨q3, eq3, h⟩ := e_b h
    refine xs_i (As := [.int x2, .int 2]) (rest := []) ⟨hx, hb, hml, hown, hts⟩ hl.1 (kX5_isBelow l D cA   x2 2  _ eq3) (va_cwS 2 hts gX5_reign_X5_isBelow rfl rfl rfl (by decide +kernel) ⟨Nat.le_of_ble_eq_true rfl, Nat.le_of_ble_eq_true rfl⟩) rfl hK hP hD hS hA [] rfl (by decide +kernel) rfl (Nat.le_of_ble_eq_true rfl) dX5_reign_9 ⟨Nat.zero_le _, Nat.zero_le _⟩ (fun H locs hP hD hS hnq3 => ?_)
    have hP : va_P D vwCl (wD_row cA ad block ties lines pmn row) H := hP
    have hD : va_D A (wD_row cA ad block ties lines pmn row) := hD
    refine lv_if_ne (tgt := 17) hx hb dX5_reign_12 (by decide) (fun c4 => ?_) (fun c4 => ?_)
    · have h := e_t c4 h
      refine lv_iconst (v := 0) hx hb dX5_reign_17 (by decide) ?_
      refine lv_istore_n (lv' := [(3, .int 0), (0, .ref (ad 0)), (1, .int x1), (2, .int x2)]) hx hb dX5_reign_18 rfl hl (by decide) rfl (fun ls hl => ?_)
      refine lv_iconst (v := 0) hx hb dX5_reign_19 (by decide) ?_
      refine lv_istore (lv' := [(4, .int 0), (3, .int 0), (0, .ref (ad 0)), (1, .int x1), (2, .int x2)]) hx hb dX5_reign_20 hl (by decide) rfl (fun ls hl => ?_)
      refine lv_iconst (v := 0) hx hb dX5_reign_22 (by decide) ?_
      refine lv_istore (lv' := [(5, .int 0), (4, .int 0), (3, .int 0), (0, .ref (ad 0)), (1, .int x1), (2, .int x2)]) hx hb dX5_reign_23 hl (by decide) rfl (fun ls hl => ?_)
      have hL25 : ∀ (n : Nat) (x1 : Int32) (x2 : Int32) (x3 : Int32) (x4 : Int32) (x5 : Int32) (block : Int32) (ties : Int32) (lines : Int32) (pmn : Int32) (row : RowT) (z5 : Int32 × Int32) (ls : Array Slot) (H : Heap) (locs : List Loc), lv_has ls 8 [(0, .ref (ad 0)), (1, .int x1), (2, .int x2), (3, .int x3), (4, .int x4), (5, .int x5)] → va_P D vwCl (wD_row cA ad block ties lines pmn row) H → va_D A (wD_row cA ad block ties lines pmn row) → va_S A s.heap H locs → mX5_reign_L25 row x1 n x3 x4 x5 = some z5 → (∀ (ls : Array Slot) (H : Heap) (locs : List Loc), lv_has ls 8 [(0, .ref (ad 0)), (2, .int x2), (3, .int z5.1), (4, .int z5.2)] → va_P D vwCl (wD_row cA ad block ties lines pmn row) H → va_D A (wD_row cA ad block ties lines pmn row) → va_S A s.heap H locs → W p l e (headSpec wsX5_reign { frames := 1, cells := 0, slots := 0, locals := 23 }).room s m args below meth c H locs 0 0 Q (F0 m 126 ls [])) → W p l e (headSpec wsX5_reign { frames := 1, cells := 0, slots := 0, locals := 23 }).room s m args below meth c H locs 0 0 Q (F0 m 25 ls []) := by
        intro n
        induction n with
        | zero => intro x1 x2 x3 x4 x5 block ties lines pmn row z5 ls H locs hl hP hD hS h hk25; exact e_n h
        | succ n ih25 =>
          intro x1 x2 x3 x4 x5 block ties lines pmn row z5 ls H locs hl hP hD hS h hk25
          rw [mX5_reign_L25.eq_2] at h
          refine lv_iload hx hb dX5_reign_25 (lv_at hl 5 rfl) ?_
          refine lv_aload_n hx hb dX5_reign_27 rfl (lv_at hl 0 rfl) ?_
          refine va_get (D := D) (ci := 5) (v := .ref (ad 7)) (C := RX5) (T := TX5) (N := 12) hx hb hts iX5 hown hK hP 0 rfl rfl 2 (Nat.le_of_ble_eq_true rfl) f26 (fun _ h9 => h9) rfl dX5_reign_28 ?_
          refine va_get (D := D) (ci := 2) (v := .int row.2.2) (C := RX2) (T := TX2) (N := 3) hx hb hts iX2 hown hK hP 1 rfl rfl 2 (Nat.le_of_ble_eq_true rfl) f135 (fun _ h9 => h9) rfl dX5_reign_31 ?_
          refine lv_iload hx hb dX5_reign_34 (lv_at hl 4 rfl) ?_
          refine lv_isub hx hb dX5_reign_36 ?_
          refine lv_icmp_ge (tgt := 126) hx hb dX5_reign_37 (by decide) (fun c6 => ?_) (fun c6 => ?_)
          · have h := e_t c6 h
            obtain rfl := e_s h
            exact hk25 _ _ _ (lv_sub hl [0, 2, 3, 4] rfl) hP hD hS
          · have h := e_f c6 h
            refine lv_iconst (v := 0) hx hb dX5_reign_40 (by decide) ?_
            refine lv_istore (lv' := [(6, .int 0), (0, .ref (ad 0)), (1, .int x1), (2, .int x2), (3, .int x3), (4, .int x4), (5, .int x5)]) hx hb dX5_reign_41 hl (by decide) rfl (fun ls hl => ?_)
            refine lv_iload hx hb dX5_reign_43 (lv_at hl 6 rfl) ?_
            refine lv_istore (lv' := [(7, .int x5), (6, .int 0), (0, .ref (ad 0)), (1, .int x1), (2, .int x2), (3, .int x3), (4, .int x4), (5, .int x5)]) hx hb dX5_reign_45 hl (by decide) rfl (fun ls hl => ?_)
            have hL47 : ∀ (n : Nat) (x1 : Int32) (x2 : Int32) (x3 : Int32) (x4 : Int32) (x5 : Int32) (x6 : Int32) (x7 : Int32) (block : Int32) (ties : Int32) (lines : Int32) (pmn : Int32) (row : RowT) (z7 : Int32 × Int32) (ls : Array Slot) (H : Heap) (locs : List Loc), lv_has ls 8 [(0, .ref (ad 0)), (1, .int x1), (2, .int x2), (3, .int x3), (4, .int x4), (5, .int x5), (6, .int x6), (7, .int x7)] → va_P D vwCl (wD_row cA ad block ties lines pmn row) H → va_D A (wD_row cA ad block ties lines pmn row) → va_S A s.heap H locs → mX5_reign_L47 row x1 x5 n x3 x4 x6 x7 = some z7 → (∀ (ls : Array Slot) (H : Heap) (locs : List Loc), lv_has ls 8 [(0, .ref (ad 0)), (1, .int x1), (2, .int x2), (3, .int z7.1), (4, .int z7.2), (5, .int x5)] → va_P D vwCl (wD_row cA ad block ties lines pmn row) H → va_D A (wD_row cA ad block ties lines pmn row) → va_S A s.heap H locs → W p l e (headSpec wsX5_reign { frames := 1, cells := 0, slots := 0, locals := 23 }).room s m args below meth c H locs 0 0 Q (F0 m 120 ls [])) → W p l e (headSpec wsX5_reign { frames := 1, cells := 0, slots := 0, locals := 23 }).room s m args below meth c H locs 0 0 Q (F0 m 47 ls []) := by
              intro n
              induction n with
              | zero => intro x1 x2 x3 x4 x5 x6 x7 block ties lines pmn row z7 ls H locs hl hP hD hS h hk47; exact e_n h
              | succ n ih47 =>
                intro x1 x2 x3 x4 x5 x6 x7 block ties lines pmn row z7 ls H locs hl hP hD hS h hk47
                rw [mX5_reign_L47.eq_2] at h
                refine lv_iload hx hb dX5_reign_47 (lv_at hl 7 rfl) ?_
                refine lv_aload_n hx hb dX5_reign_49 rfl (lv_at hl 0 rfl) ?_
                refine va_get (D := D) (ci := 5) (v := .ref (ad 7)) (C := RX5) (T := TX5) (N := 12) hx hb hts iX5 hown hK hP 0 rfl rfl 2 (Nat.le_of_ble_eq_true rfl) f26 (fun _ h9 => h9) rfl dX5_reign_50 ?_
                refine va_get (D := D) (ci := 2) (v := .int row.2.2) (C := RX2) (T := TX2) (N := 3) hx hb hts iX2 hown hK hP 1 rfl rfl 2 (Nat.le_of_ble_eq_true rfl) f135 (fun _ h9 => h9) rfl dX5_reign_53 ?_
                refine lv_icmp_ge (tgt := 120) hx hb dX5_reign_56 (by decide) (fun c8 => ?_) (fun c8 => ?_)
                · have h := e_t c8 h
                  obtain rfl := e_s h
                  exact hk47 _ _ _ (lv_sub hl [0, 1, 2, 3, 4, 5] rfl) hP hD hS
                · have h := e_f c8 h
                  refine lv_aload_n hx hb dX5_reign_59 rfl (lv_at hl 0 rfl) ?_
                  refine va_get (D := D) (ci := 5) (v := .ref (ad 7)) (C := RX5) (T := TX5) (N := 12) hx hb hts iX5 hown hK hP 0 rfl rfl 2 (Nat.le_of_ble_eq_true rfl) f26 (fun _ h9 => h9) rfl dX5_reign_60 ?_
                  refine va_get (D := D) (ci := 2) (v := .ref (ad 8)) (C := RX2) (T := TX2) (N := 3) hx hb hts iX2 hown hK hP 1 rfl rfl 0 (Nat.le_of_ble_eq_true rfl) f106 (fun _ h9 => h9) rfl dX5_reign_63 ?_
                  refine lv_iload hx hb dX5_reign_66 (lv_at hl 7 rfl) ?_
                  obtain ⟨v9, ev9, nv9, h⟩ := e_rd h
                  refine xa_iald hx hb hK hP 2 rfl nv9 ev9 dX5_reign_68 ?_
                  refine lv_iload_n hx hb dX5_reign_69 rfl (lv_at hl 1 rfl) ?_
                  obtain ⟨z10, ez10, h⟩ := e_b h
                  have hJ11 : ∀ (ls : Array Slot) (H : Heap) (locs : List Loc), lv_has ls 8 [(0, .ref (ad 0)), (1, .int x1), (2, .int x2), (3, .int x3), (4, .int x4), (5, .int x5), (6, .int z10), (7, .int x7)] → va_P D vwCl (wD_row cA ad block ties lines pmn row) H → va_D A (wD_row cA ad block ties lines pmn row) → va_S A s.heap H locs → W p l e (headSpec wsX5_reign { frames := 1, cells := 0, slots := 0, locals := 23 }).room s m args below meth c H locs 0 0 Q (F0 m 76 ls []) := by
                    intro ls H locs hl hP hD hS
                    refine lv_iconst (v := 2) hx hb dX5_reign_76 (by decide) ?_
                    refine lv_iload hx hb dX5_reign_77 (lv_at hl 6 rfl) ?_
                    refine lv_imul hx hb dX5_reign_79 ?_
                    refine lv_iload hx hb dX5_reign_80 (lv_at hl 7 rfl) ?_
                    refine lv_iload hx hb dX5_reign_82 (lv_at hl 5 rfl) ?_
                    refine lv_isub hx hb dX5_reign_84 ?_
                    refine lv_iconst (v := 1) hx hb dX5_reign_85 (by decide) ?_
                    refine lv_iadd hx hb dX5_reign_86 ?_
                    refine lv_icmp_le (tgt := 114) hx hb dX5_reign_87 (by decide) (fun c12 => ?_) (fun c12 => ?_)
                    · have h := e_t c12 h
                      refine lv_iinc (v := (x7 + 1)) (lv' := [(7, .int (x7 + 1)), (0, .ref (ad 0)), (1, .int x1), (2, .int x2), (3, .int x3), (4, .int x4), (5, .int x5), (6, .int z10)]) hx hb dX5_reign_114 hl (k := 7) rfl rfl (by decide) rfl (fun ls hl => ?_)
                      refine lv_goto (tgt := 47) hx hb dX5_reign_117 (by decide) ?_
                      exact ih47 x1 x2 x3 x4 x5 z10 (x7 + 1) block ties lines pmn row z7 _ _ _ (lv_sub hl [1, 2, 3, 4, 5, 6, 7, 0] rfl) hP hD hS h hk47
                    · have h := e_f c12 h
                      refine lv_iload hx hb dX5_reign_90 (lv_at hl 7 rfl) ?_
                      refine lv_iload hx hb dX5_reign_92 (lv_at hl 5 rfl) ?_
                      refine lv_isub hx hb dX5_reign_94 ?_
                      refine lv_iconst (v := 1) hx hb dX5_reign_95 (by decide) ?_
                      refine lv_iadd hx hb dX5_reign_96 ?_
                      refine lv_iload hx hb dX5_reign_97 (lv_at hl 4 rfl) ?_
                      refine lv_icmp_le (tgt := 114) hx hb dX5_reign_99 (by decide) (fun c13 => ?_) (fun c13 => ?_)
                      · have h := e_t c13 h
                        refine lv_iinc (v := (x7 + 1)) (lv' := [(7, .int (x7 + 1)), (0, .ref (ad 0)), (1, .int x1), (2, .int x2), (3, .int x3), (4, .int x4), (5, .int x5), (6, .int z10)]) hx hb dX5_reign_114 hl (k := 7) rfl rfl (by decide) rfl (fun ls hl => ?_)
                        refine lv_goto (tgt := 47) hx hb dX5_reign_117 (by decide) ?_
                        exact ih47 x1 x2 x3 x4 x5 z10 (x7 + 1) block ties lines pmn row z7 _ _ _ (lv_sub hl [1, 2, 3, 4, 5, 6, 7, 0] rfl) hP hD hS h hk47
                      · have h := e_f c13 h
                        refine lv_iload hx hb dX5_reign_102 (lv_at hl 5 rfl) ?_
                        refine lv_istore_n (lv' := [(3, .int x5), (0, .ref (ad 0)), (1, .int x1), (2, .int x2), (4, .int x4), (5, .int x5), (6, .int z10), (7, .int x7)]) hx hb dX5_reign_104 rfl hl (by decide) rfl (fun ls hl => ?_)
                        refine lv_iload hx hb dX5_reign_105 (lv_at hl 7 rfl) ?_
                        refine lv_iload hx hb dX5_reign_107 (lv_at hl 5 rfl) ?_
                        refine lv_isub hx hb dX5_reign_109 ?_
                        refine lv_iconst (v := 1) hx hb dX5_reign_110 (by decide) ?_
                        refine lv_iadd hx hb dX5_reign_111 ?_
                        refine lv_istore (lv' := [(4, .int ((x7 - x5) + 1)), (3, .int x5), (0, .ref (ad 0)), (1, .int x1), (2, .int x2), (5, .int x5), (6, .int z10), (7, .int x7)]) hx hb dX5_reign_112 hl (by decide) rfl (fun ls hl => ?_)
                        refine lv_iinc (v := (x7 + 1)) (lv' := [(7, .int (x7 + 1)), (4, .int ((x7 - x5) + 1)), (3, .int x5), (0, .ref (ad 0)), (1, .int x1), (2, .int x2), (5, .int x5), (6, .int z10)]) hx hb dX5_reign_114 hl (k := 7) rfl rfl (by decide) rfl (fun ls hl => ?_)
                        refine lv_goto (tgt := 47) hx hb dX5_reign_117 (by decide) ?_
                        exact ih47 x1 x2 x5 ((x7 - x5) + 1) x5 z10 (x7 + 1) block ties lines pmn row z7 _ _ _ (lv_sub hl [3, 4, 5, 2, 1, 6, 7, 0] rfl) hP hD hS h hk47
                  have h := ez10
                  refine lv_icmp_ne (tgt := 76) hx hb dX5_reign_70 (by decide) (fun c14 => ?_) (fun c14 => ?_)
                  · have h := e_t c14 h
                    obtain rfl := e_s h
                    exact hJ11 _ _ _ (lv_sub hl [0, 1, 2, 3, 4, 5, 6, 7] rfl) hP hD hS
                  · have h := e_f (not_not_intro c14) h
                    refine lv_iinc (v := (x6 + 1)) (lv' := [(6, .int (x6 + 1)), (0, .ref (ad 0)), (1, .int x1), (2, .int x2), (3, .int x3), (4, .int x4), (5, .int x5), (7, .int x7)]) hx hb dX5_reign_73 hl (k := 6) rfl rfl (by decide) rfl (fun ls hl => ?_)
                    obtain rfl := e_s h
                    exact hJ11 _ _ _ (lv_sub hl [1, 2, 3, 4, 5, 6, 0, 7] rfl) hP hD hS
            obtain ⟨z15, ez15, h⟩ := e_b h
            refine hL47 FU x1 x2 x3 x4 x5 0 x5 block ties lines pmn row z15 _ _ _ (lv_sub hl [2, 3, 4, 5, 6, 7, 1, 0] rfl) hP hD hS ez15 (fun ls H locs hl hP hD hS => ?_)
            refine lv_iinc (v := (x5 + 1)) (lv' := [(5, .int (x5 + 1)), (0, .ref (ad 0)), (1, .int x1), (2, .int x2), (3, .int z15.1), (4, .int z15.2)]) hx hb dX5_reign_120 hl (k := 5) rfl rfl (by decide) rfl (fun ls hl => ?_)
            refine lv_goto (tgt := 25) hx hb dX5_reign_123 (by decide) ?_
            exact ih25 x1 x2 z15.1 z15.2 (x5 + 1) block ties lines pmn row z5 _ _ _ (lv_sub hl [1, 2, 3, 4, 5, 0] rfl) hP hD hS h hk25
      obtain ⟨z16, ez16, h⟩ := e_b h
      refine hL25 FU x1 x2 0 0 0 block ties lines pmn row z16 _ _ _ (lv_sub hl [3, 4, 5, 2, 1, 0] rfl) hP hD hS ez16 (fun ls H locs hl hP hD hS => ?_)
      refine lv_aload_n hx hb dX5_reign_126 rfl (lv_at hl 0 rfl) ?_
      refine lv_iload_n hx hb dX5_reign_127 rfl (lv_at hl 2 rfl) ?_
      refine lv_iload hx hb dX5_reign_128 (lv_at hl 3 rfl) ?_
      refine lv_iload_n hx hb dX5_reign_130 rfl (lv_at hl 1 rfl) ?_
      obtain ⟨q17, eq17, h⟩ := e_b h
      refine xv_i0 (As := [.int z16.1, .int z16.2, .int x2]) (rest := []) (ci := 5) (b := ad 0) ⟨hx, hb, hml, hown, hts⟩ hl.1 (kX5_spanTold l D cA ad block ties lines pmn row z16.1 z16.2 x2  _ eq17) (cwV 3 hts gX5_reign_X5_spanTold rfl rfl rfl (by decide +kernel) ⟨Nat.le_of_ble_eq_true rfl, Nat.le_of_ble_eq_true rfl⟩) rfl hK hP hD hS hA 0 rfl rfl rfl rfl (Nat.le_of_ble_eq_true rfl) dX5_reign_131 ⟨Nat.zero_le _, Nat.zero_le _⟩ (fun H locs hP hD hS hnq17 => ?_)
      have hP : va_P D vwCl (wD_row cA ad block ties lines pmn row) H := hP
      have hD : va_D A (wD_row cA ad block ties lines pmn row) := hD
      obtain rfl := e_s h
      exact hret hP hS rfl dX5_reign_134
    · have h := e_f (not_not_intro c4) h
      refine lv_iconst (v := (-1)) hx hb dX5_reign_15 (by decide) ?_
      obtain rfl := e_s h
      exact hret hP hS rfl dX5_reign_16
set_option maxHeartbeats 4000000 in
set_option maxRecDepth 100000 in
theorem kX5_tightest (l : Launch) (D : va_G) (cA : Nat → ClassId) (ad : Nat → Nat) (block : Int32) (ties : Int32) (lines : Int32) (pmn : Int32) (row : RowT) (x1 : Int32) (x2 : Int32) (q : Int32) (h : mX5_tightest row x1 x2 = some q) : MI l yX5_tightest wsX5_tightest { frames := 1, cells := 0, slots := 0, locals := 25 } D cA .int [.ref (ad 0), .int x1, .int x2] (wD_row cA ad block ties lines pmn row) (wD_row cA ad block ties lines pmn row) q := by
  refine MI.of (cc := cX5_tightest) (maxL := 7) (by decide +kernel) rfl rfl rfl (Nat.le_of_ble_eq_true rfl) ?_
  intro p e s m args below meth c A ls Q hx hb hml hts hown hK hP hD hA hS hl hret
  have hl : lv_has ls 7 [(0, .ref (ad 0)), (1, .int x1), (2, .int x2)] := hl
  have f106 := hts (.fieldLink RX5 106 "ModeDesk$Row" "values" "[I") (by decide +kernel)
  have f135 := hts (.fieldLink RX5 135 "ModeDesk$Row" "size" "I") (by decide +kernel)
  have f26 := hts (.fieldLink RX5 26 "ModeDesk" "row" "LModeDesk$Row;") (by decide +kernel)
  have iX2 : ∀ w ∈ wsX20, w ∈ wsX5_tightest := by decide +kernel
  have iX5 : ∀ w ∈ wsX50, w ∈ wsX5_tightest := by decide +kernel
  unfold mX5_tightest at h
  refine lv_iload_n hx hb dX5_tightest_0 rfl (lv_at hl 1 rfl) ?_
  refine lv_iconst (v := 1) hx hb dX5_tightest_1 (by decide) ?_
  refine lv_icmp_lt (tgt := 13) hx hb dX5_tightest_2 (by decide) (fun c1 => ?_) (fun c1 => ?_)
  · have h := e_t c1 h
    refine lv_iconst (v := (-1)) hx hb dX5_tightest_13 (by decide) ?_
    obtain rfl := e_s h
    exact hret hP hS rfl dX5_tightest_14
  · have h := e_f c1 h
    refine lv_iload_n hx hb dX5_tightest_5 rfl (lv_at hl 2 rfl) ?_
    refine lv_iconst (v := 3) hx hb dX5_tightest_6 (by decide) ?_
    obtain ⟨q2, eq2, h⟩ := e_b h
    refine xs_i (As := [.int x2, .int 3]) (rest := []) ⟨hx, hb, hml, hown, hts⟩ hl.1 (kX5_isBelow l D cA   x2 3  _ eq2) (va_cwS 2 hts gX5_tightest_X5_isBelow rfl rfl rfl (by decide +kernel) ⟨Nat.le_of_ble_eq_true rfl, Nat.le_of_ble_eq_true rfl⟩) rfl hK hP hD hS hA [] rfl (by decide +kernel) rfl (Nat.le_of_ble_eq_true rfl) dX5_tightest_7 ⟨Nat.zero_le _, Nat.zero_le _⟩ (fun H locs hP hD hS hnq2 => ?_)
    have hP : va_P D vwCl (wD_row cA ad block ties lines pmn row) H := hP
    have hD : va_D A (wD_row cA ad block ties lines pmn row) := hD
    refine lv_if_ne (tgt := 15) hx hb dX5_tightest_10 (by decide) (fun c3 => ?_) (fun c3 => ?_)
    · have h := e_t c3 h
      refine lv_iconst (v := 0) hx hb dX5_tightest_15 (by decide) ?_
      refine lv_istore_n (lv' := [(3, .int 0), (0, .ref (ad 0)), (1, .int x1), (2, .int x2)]) hx hb dX5_tightest_16 rfl hl (by decide) rfl (fun ls hl => ?_)
      refine lv_iconst (v := 0) hx hb dX5_tightest_17 (by decide) ?_
      refine lv_istore (lv' := [(4, .int 0), (3, .int 0), (0, .ref (ad 0)), (1, .int x1), (2, .int x2)]) hx hb dX5_tightest_18 hl (by decide) rfl (fun ls hl => ?_)
      refine lv_iconst (v := 0) hx hb dX5_tightest_20 (by decide) ?_
      refine lv_istore (lv' := [(5, .int 0), (4, .int 0), (3, .int 0), (0, .ref (ad 0)), (1, .int x1), (2, .int x2)]) hx hb dX5_tightest_21 hl (by decide) rfl (fun ls hl => ?_)
      have hL23 : ∀ (n : Nat) (x1 : Int32) (x2 : Int32) (x3 : Int32) (x4 : Int32) (x5 : Int32) (block : Int32) (ties : Int32) (lines : Int32) (pmn : Int32) (row : RowT) (z4 : Int32 × Int32) (ls : Array Slot) (H : Heap) (locs : List Loc), lv_has ls 7 [(0, .ref (ad 0)), (1, .int x1), (2, .int x2), (3, .int x3), (4, .int x4), (5, .int x5)] → va_P D vwCl (wD_row cA ad block ties lines pmn row) H → va_D A (wD_row cA ad block ties lines pmn row) → va_S A s.heap H locs → mX5_tightest_L23 row x1 n x3 x4 x5 = some z4 → (∀ (ls : Array Slot) (H : Heap) (locs : List Loc), lv_has ls 7 [(0, .ref (ad 0)), (2, .int x2), (3, .int z4.1), (4, .int z4.2)] → va_P D vwCl (wD_row cA ad block ties lines pmn row) H → va_D A (wD_row cA ad block ties lines pmn row) → va_S A s.heap H locs → W p l e (headSpec wsX5_tightest { frames := 1, cells := 0, slots := 0, locals := 25 }).room s m args below meth c H locs 0 0 Q (F0 m 99 ls [])) → W p l e (headSpec wsX5_tightest { frames := 1, cells := 0, slots := 0, locals := 25 }).room s m args below meth c H locs 0 0 Q (F0 m 23 ls []) := by
        intro n
        induction n with
        | zero => intro x1 x2 x3 x4 x5 block ties lines pmn row z4 ls H locs hl hP hD hS h hk23; exact e_n h
        | succ n ih23 =>
          intro x1 x2 x3 x4 x5 block ties lines pmn row z4 ls H locs hl hP hD hS h hk23
          rw [mX5_tightest_L23.eq_2] at h
          refine lv_iload hx hb dX5_tightest_23 (lv_at hl 5 rfl) ?_
          refine lv_aload_n hx hb dX5_tightest_25 rfl (lv_at hl 0 rfl) ?_
          refine va_get (D := D) (ci := 5) (v := .ref (ad 7)) (C := RX5) (T := TX5) (N := 12) hx hb hts iX5 hown hK hP 0 rfl rfl 2 (Nat.le_of_ble_eq_true rfl) f26 (fun _ h9 => h9) rfl dX5_tightest_26 ?_
          refine va_get (D := D) (ci := 2) (v := .int row.2.2) (C := RX2) (T := TX2) (N := 3) hx hb hts iX2 hown hK hP 1 rfl rfl 2 (Nat.le_of_ble_eq_true rfl) f135 (fun _ h9 => h9) rfl dX5_tightest_29 ?_
          refine lv_icmp_ge (tgt := 99) hx hb dX5_tightest_32 (by decide) (fun c5 => ?_) (fun c5 => ?_)
          · have h := e_t c5 h
            obtain rfl := e_s h
            exact hk23 _ _ _ (lv_sub hl [0, 2, 3, 4] rfl) hP hD hS
          · have h := e_f c5 h
            refine lv_aload_n hx hb dX5_tightest_35 rfl (lv_at hl 0 rfl) ?_
            refine va_get (D := D) (ci := 5) (v := .ref (ad 7)) (C := RX5) (T := TX5) (N := 12) hx hb hts iX5 hown hK hP 0 rfl rfl 2 (Nat.le_of_ble_eq_true rfl) f26 (fun _ h9 => h9) rfl dX5_tightest_36 ?_
            refine lv_aload_n hx hb dX5_tightest_39 rfl (lv_at hl 0 rfl) ?_
            refine va_get (D := D) (ci := 5) (v := .ref (ad 7)) (C := RX5) (T := TX5) (N := 12) hx hb hts iX5 hown hK hP 0 rfl rfl 2 (Nat.le_of_ble_eq_true rfl) f26 (fun _ h9 => h9) rfl dX5_tightest_40 ?_
            refine va_get (D := D) (ci := 2) (v := .ref (ad 8)) (C := RX2) (T := TX2) (N := 3) hx hb hts iX2 hown hK hP 1 rfl rfl 0 (Nat.le_of_ble_eq_true rfl) f106 (fun _ h9 => h9) rfl dX5_tightest_43 ?_
            refine lv_iload hx hb dX5_tightest_46 (lv_at hl 5 rfl) ?_
            obtain ⟨v6, ev6, nv6, h⟩ := e_rd h
            refine xa_iald hx hb hK hP 2 rfl nv6 ev6 dX5_tightest_48 ?_
            refine lv_iload hx hb dX5_tightest_49 (lv_at hl 5 rfl) ?_
            refine lv_iload_n hx hb dX5_tightest_51 rfl (lv_at hl 1 rfl) ?_
            obtain ⟨q7, eq7, h⟩ := e_b h
            refine xv_i (As := [.int v6, .int x5, .int x1]) (rest := []) (ci := 2) (b := ad 7) ⟨hx, hb, hml, hown, hts⟩ hl.1 (kX2_nth l D cA (fun i => ad (7 + i)) row v6 x5 x1  _ eq7) (cwV 3 hts gX5_tightest_X2_nth rfl rfl rfl (by decide +kernel) ⟨Nat.le_of_ble_eq_true rfl, Nat.le_of_ble_eq_true rfl⟩) rfl hK hP hD hS hA 1 rfl rfl rfl [1, 2, 3] rfl (by decide +kernel) rfl (Nat.le_of_ble_eq_true rfl) dX5_tightest_52 ⟨Nat.zero_le _, Nat.zero_le _⟩ (fun H locs hP hD hS hnq7 => ?_)
            have hP : va_P D vwCl (wD_row cA ad block ties lines pmn row) H := hP
            have hD : va_D A (wD_row cA ad block ties lines pmn row) := hD
            refine lv_istore (lv' := [(6, .int q7), (0, .ref (ad 0)), (1, .int x1), (2, .int x2), (3, .int x3), (4, .int x4), (5, .int x5)]) hx hb dX5_tightest_55 hl (by decide) rfl (fun ls hl => ?_)
            refine lv_iload hx hb dX5_tightest_57 (lv_at hl 0 rfl) ?_
            refine lv_bipush (v := (-2)) hx hb dX5_tightest_59 (by decide) ?_
            refine lv_icmp_eq (tgt := 93) hx hb dX5_tightest_61 (by decide) (fun c8 => ?_) (fun c8 => ?_)
            · have h := e_t c8 h
              refine lv_iinc (v := (x5 + 1)) (lv' := [(5, .int (x5 + 1)), (6, .int q7), (0, .ref (ad 0)), (1, .int x1), (2, .int x2), (3, .int x3), (4, .int x4)]) hx hb dX5_tightest_93 hl (k := 6) rfl rfl (by decide) rfl (fun ls hl => ?_)
              refine lv_goto (tgt := 23) hx hb dX5_tightest_96 (by decide) ?_
              exact ih23 x1 x2 x3 x4 (x5 + 1) block ties lines pmn row z4 _ _ _ (lv_sub hl [2, 3, 4, 5, 6, 0] rfl) hP hD hS h hk23
            · have h := e_f c8 h
              refine lv_iload hx hb dX5_tightest_64 (lv_at hl 5 rfl) ?_
              refine lv_if_eq (tgt := 81) hx hb dX5_tightest_66 (by decide) (fun c9 => ?_) (fun c9 => ?_)
              · have h := e_t c9 h
                refine lv_iload hx hb dX5_tightest_81 (lv_at hl 6 rfl) ?_
                refine lv_istore_n (lv' := [(3, .int x5), (6, .int q7), (0, .ref (ad 0)), (1, .int x1), (2, .int x2), (4, .int x4), (5, .int x5)]) hx hb dX5_tightest_83 rfl hl (by decide) rfl (fun ls hl => ?_)
                refine lv_iload hx hb dX5_tightest_84 (lv_at hl 1 rfl) ?_
                refine lv_iload hx hb dX5_tightest_86 (lv_at hl 6 rfl) ?_
                refine lv_isub hx hb dX5_tightest_88 ?_
                refine lv_iconst (v := 1) hx hb dX5_tightest_89 (by decide) ?_
                refine lv_iadd hx hb dX5_tightest_90 ?_
                refine lv_istore (lv' := [(4, .int ((q7 - x5) + 1)), (3, .int x5), (6, .int q7), (0, .ref (ad 0)), (1, .int x1), (2, .int x2), (5, .int x5)]) hx hb dX5_tightest_91 hl (by decide) rfl (fun ls hl => ?_)
                refine lv_iinc (v := (x5 + 1)) (lv' := [(5, .int (x5 + 1)), (4, .int ((q7 - x5) + 1)), (3, .int x5), (6, .int q7), (0, .ref (ad 0)), (1, .int x1), (2, .int x2)]) hx hb dX5_tightest_93 hl (k := 6) rfl rfl (by decide) rfl (fun ls hl => ?_)
                refine lv_goto (tgt := 23) hx hb dX5_tightest_96 (by decide) ?_
                exact ih23 x1 x2 x5 ((q7 - x5) + 1) (x5 + 1) block ties lines pmn row z4 _ _ _ (lv_sub hl [4, 5, 6, 2, 1, 0] rfl) hP hD hS h hk23
              · have h := e_f c9 h
                refine lv_iload hx hb dX5_tightest_69 (lv_at hl 0 rfl) ?_
                refine lv_iload hx hb dX5_tightest_71 (lv_at hl 6 rfl) ?_
                refine lv_isub hx hb dX5_tightest_73 ?_
                refine lv_iconst (v := 1) hx hb dX5_tightest_74 (by decide) ?_
                refine lv_iadd hx hb dX5_tightest_75 ?_
                refine lv_iload hx hb dX5_tightest_76 (lv_at hl 5 rfl) ?_
                refine lv_icmp_ge (tgt := 93) hx hb dX5_tightest_78 (by decide) (fun c10 => ?_) (fun c10 => ?_)
                · have h := e_t c10 h
                  refine lv_iinc (v := (x5 + 1)) (lv' := [(5, .int (x5 + 1)), (6, .int q7), (0, .ref (ad 0)), (1, .int x1), (2, .int x2), (3, .int x3), (4, .int x4)]) hx hb dX5_tightest_93 hl (k := 6) rfl rfl (by decide) rfl (fun ls hl => ?_)
                  refine lv_goto (tgt := 23) hx hb dX5_tightest_96 (by decide) ?_
                  exact ih23 x1 x2 x3 x4 (x5 + 1) block ties lines pmn row z4 _ _ _ (lv_sub hl [2, 3, 4, 5, 6, 0] rfl) hP hD hS h hk23
                · have h := e_f c10 h
                  refine lv_iload hx hb dX5_tightest_81 (lv_at hl 6 rfl) ?_
                  refine lv_istore_n (lv' := [(3, .int x5), (6, .int q7), (0, .ref (ad 0)), (1, .int x1), (2, .int x2), (4, .int x4), (5, .int x5)]) hx hb dX5_tightest_83 rfl hl (by decide) rfl (fun ls hl => ?_)
                  refine lv_iload hx hb dX5_tightest_84 (lv_at hl 1 rfl) ?_
                  refine lv_iload hx hb dX5_tightest_86 (lv_at hl 6 rfl) ?_
                  refine lv_isub hx hb dX5_tightest_88 ?_
                  refine lv_iconst (v := 1) hx hb dX5_tightest_89 (by decide) ?_
                  refine lv_iadd hx hb dX5_tightest_90 ?_
                  refine lv_istore (lv' := [(4, .int ((q7 - x5) + 1)), (3, .int x5), (6, .int q7), (0, .ref (ad 0)), (1, .int x1), (2, .int x2), (5, .int x5)]) hx hb dX5_tightest_91 hl (by decide) rfl (fun ls hl => ?_)
                  refine lv_iinc (v := (x5 + 1)) (lv' := [(5, .int (x5 + 1)), (4, .int ((q7 - x5) + 1)), (3, .int x5), (6, .int q7), (0, .ref (ad 0)), (1, .int x1), (2, .int x2)]) hx hb dX5_tightest_93 hl (k := 6) rfl rfl (by decide) rfl (fun ls hl => ?_)
                  refine lv_goto (tgt := 23) hx hb dX5_tightest_96 (by decide) ?_
                  exact ih23 x1 x2 x5 ((q7 - x5) + 1) (x5 + 1) block ties lines pmn row z4 _ _ _ (lv_sub hl [4, 5, 6, 2, 1, 0] rfl) hP hD hS h hk23
      obtain ⟨z11, ez11, h⟩ := e_b h
      refine hL23 FU x1 x2 0 0 0 block ties lines pmn row z11 _ _ _ (lv_sub hl [3, 4, 5, 2, 1, 0] rfl) hP hD hS ez11 (fun ls H locs hl hP hD hS => ?_)
      refine lv_aload_n hx hb dX5_tightest_99 rfl (lv_at hl 0 rfl) ?_
      refine lv_iload_n hx hb dX5_tightest_100 rfl (lv_at hl 2 rfl) ?_
      refine lv_iload hx hb dX5_tightest_101 (lv_at hl 3 rfl) ?_
      refine lv_iload_n hx hb dX5_tightest_103 rfl (lv_at hl 1 rfl) ?_
      obtain ⟨q12, eq12, h⟩ := e_b h
      refine xv_i0 (As := [.int z11.1, .int z11.2, .int x2]) (rest := []) (ci := 5) (b := ad 0) ⟨hx, hb, hml, hown, hts⟩ hl.1 (kX5_spanTold l D cA ad block ties lines pmn row z11.1 z11.2 x2  _ eq12) (cwV 3 hts gX5_tightest_X5_spanTold rfl rfl rfl (by decide +kernel) ⟨Nat.le_of_ble_eq_true rfl, Nat.le_of_ble_eq_true rfl⟩) rfl hK hP hD hS hA 0 rfl rfl rfl rfl (Nat.le_of_ble_eq_true rfl) dX5_tightest_104 ⟨Nat.zero_le _, Nat.zero_le _⟩ (fun H locs hP hD hS hnq12 => ?_)
      have hP : va_P D vwCl (wD_row cA ad block ties lines pmn row) H := hP
      have hD : va_D A (wD_row cA ad block ties lines pmn row) := hD
      obtain rfl := e_s h
      exact hret hP hS rfl dX5_tightest_107
    · have h := e_f (not_not_intro c3) h
      refine lv_iconst (v := (-1)) hx hb dX5_tightest_13 (by decide) ?_
      obtain rfl := e_s h
      exact hret hP hS rfl dX5_tightest_14
set_option maxHeartbeats 4000000 in
set_option maxRecDepth 100000 in
theorem kX5_widthWith (l : Launch) (D : va_G) (cA : Nat → ClassId) (ad : Nat → Nat) (block : Int32) (ties : Int32) (lines : Int32) (pmn : Int32) (row : RowT) (tally : TalT) (x1 : Int32) (x2 : Int32) (q : Int32 × TalT) (h : mX5_widthWith ties row tally x1 x2 = some q) : MI l yX5_widthWith wsX5_widthWith { frames := 2, cells := 0, slots := 0, locals := 43 } D cA .int [.ref (ad 0), .int x1, .int x2] (wD_row_tally cA ad block ties lines pmn row tally) (wD_row_tally cA ad block ties lines pmn row q.2) q.1 := by
  refine MI.of (cc := cX5_widthWith) (maxL := 4) (by decide +kernel) rfl rfl rfl (Nat.le_of_ble_eq_true rfl) ?_
  intro p e s m args below meth c A ls Q hx hb hml hts hown hK hP hD hA hS hl hret
  have hl : lv_has ls 4 [(0, .ref (ad 0)), (1, .int x1), (2, .int x2)] := hl
  have f106 := hts (.fieldLink RX5 106 "ModeDesk$Row" "values" "[I") (by decide +kernel)
  have f135 := hts (.fieldLink RX5 135 "ModeDesk$Row" "size" "I") (by decide +kernel)
  have f26 := hts (.fieldLink RX5 26 "ModeDesk" "row" "LModeDesk$Row;") (by decide +kernel)
  have f43 := hts (.fieldLink RX5 43 "ModeDesk" "tally" "LModeDesk$Tally;") (by decide +kernel)
  have f58 := hts (.fieldLink RX5 58 "ModeDesk" "ties" "I") (by decide +kernel)
  have iX2 : ∀ w ∈ wsX20, w ∈ wsX5_widthWith := by decide +kernel
  have iX5 : ∀ w ∈ wsX50, w ∈ wsX5_widthWith := by decide +kernel
  unfold mX5_widthWith at h
  refine lv_aload_n hx hb dX5_widthWith_0 rfl (lv_at hl 0 rfl) ?_
  refine va_get (D := D) (ci := 5) (v := .ref (ad 51)) (C := RX5) (T := TX5) (N := 12) hx hb hts iX5 hown hK hP 0 rfl rfl 5 (Nat.le_of_ble_eq_true rfl) f43 (fun _ h9 => h9) rfl dX5_widthWith_1 ?_
  refine lv_aload_n hx hb dX5_widthWith_4 rfl (lv_at hl 0 rfl) ?_
  refine va_get (D := D) (ci := 5) (v := .int ties) (C := RX5) (T := TX5) (N := 12) hx hb hts iX5 hown hK hP 0 rfl rfl 9 (Nat.le_of_ble_eq_true rfl) f58 (fun _ h9 => h9) rfl dX5_widthWith_5 ?_
  obtain ⟨q1, eq1, h⟩ := e_b h
  refine xv_v (As := [.int ties]) (rest := []) (ci := 3) (b := ad 51) ⟨hx, hb, hml, hown, hts⟩ hl.1 (kX3_begin l D cA (fun i => ad (51 + i)) tally ties  _ eq1) (cwV 1 hts gX5_widthWith_X3_begin rfl rfl rfl (by decide +kernel) ⟨Nat.le_of_ble_eq_true rfl, Nat.le_of_ble_eq_true rfl⟩) rfl hK hP hD hS hA 4 rfl rfl rfl [4, 5, 6, 7, 8] rfl (by decide +kernel) rfl (Nat.le_of_ble_eq_true rfl) dX5_widthWith_8 ⟨Nat.zero_le _, Nat.zero_le _⟩ (fun H locs hP hD hS => ?_)
  have hP : va_P D vwCl (wD_row_tally cA ad block ties lines pmn row q1) H := hP
  have hD : va_D A (wD_row_tally cA ad block ties lines pmn row q1) := hD
  refine lv_iload_n hx hb dX5_widthWith_11 rfl (lv_at hl 2 rfl) ?_
  refine lv_istore_n (lv' := [(3, .int x2), (0, .ref (ad 0)), (1, .int x1), (2, .int x2)]) hx hb dX5_widthWith_12 rfl hl (by decide) rfl (fun ls hl => ?_)
  have hL13 : ∀ (n : Nat) (x1 : Int32) (x2 : Int32) (x3 : Int32) (tally : TalT) (ls : Array Slot) (H : Heap) (locs : List Loc), lv_has ls 4 [(0, .ref (ad 0)), (1, .int x1), (2, .int x2), (3, .int x3)] → va_P D vwCl (wD_row_tally cA ad block ties lines pmn row tally) H → va_D A (wD_row_tally cA ad block ties lines pmn row tally) → va_S A s.heap H locs → mX5_widthWith_L13 row x1 x2 n x3 tally = some q → W p l e (headSpec wsX5_widthWith { frames := 2, cells := 0, slots := 0, locals := 43 }).room s m args below meth c H locs 0 0 Q (F0 m 13 ls []) := by
    intro n
    induction n with
    | zero => intro x1 x2 x3 tally ls H locs hl hP hD hS h; exact e_n h
    | succ n ih13 =>
      intro x1 x2 x3 tally ls H locs hl hP hD hS h
      rw [mX5_widthWith_L13.eq_2] at h
      refine lv_iload_n hx hb dX5_widthWith_13 rfl (lv_at hl 3 rfl) ?_
      refine lv_aload_n hx hb dX5_widthWith_14 rfl (lv_at hl 0 rfl) ?_
      refine va_get (D := D) (ci := 5) (v := .ref (ad 7)) (C := RX5) (T := TX5) (N := 12) hx hb hts iX5 hown hK hP 0 rfl rfl 2 (Nat.le_of_ble_eq_true rfl) f26 (fun _ h9 => h9) rfl dX5_widthWith_15 ?_
      refine va_get (D := D) (ci := 2) (v := .int row.2.2) (C := RX2) (T := TX2) (N := 3) hx hb hts iX2 hown hK hP 1 rfl rfl 2 (Nat.le_of_ble_eq_true rfl) f135 (fun _ h9 => h9) rfl dX5_widthWith_18 ?_
      refine lv_icmp_ge (tgt := 63) hx hb dX5_widthWith_21 (by decide) (fun c3 => ?_) (fun c3 => ?_)
      · have h := e_t c3 h
        refine lv_bipush (v := 121) hx hb dX5_widthWith_63 (by decide) ?_
        obtain rfl := e_s h
        exact hret hP hS rfl dX5_widthWith_65
      · have h := e_f c3 h
        refine lv_aload_n hx hb dX5_widthWith_24 rfl (lv_at hl 0 rfl) ?_
        refine va_get (D := D) (ci := 5) (v := .ref (ad 51)) (C := RX5) (T := TX5) (N := 12) hx hb hts iX5 hown hK hP 0 rfl rfl 5 (Nat.le_of_ble_eq_true rfl) f43 (fun _ h9 => h9) rfl dX5_widthWith_25 ?_
        refine lv_aload_n hx hb dX5_widthWith_28 rfl (lv_at hl 0 rfl) ?_
        refine va_get (D := D) (ci := 5) (v := .ref (ad 7)) (C := RX5) (T := TX5) (N := 12) hx hb hts iX5 hown hK hP 0 rfl rfl 2 (Nat.le_of_ble_eq_true rfl) f26 (fun _ h9 => h9) rfl dX5_widthWith_29 ?_
        refine va_get (D := D) (ci := 2) (v := .ref (ad 8)) (C := RX2) (T := TX2) (N := 3) hx hb hts iX2 hown hK hP 1 rfl rfl 0 (Nat.le_of_ble_eq_true rfl) f106 (fun _ h9 => h9) rfl dX5_widthWith_32 ?_
        refine lv_iload_n hx hb dX5_widthWith_35 rfl (lv_at hl 3 rfl) ?_
        obtain ⟨v4, ev4, nv4, h⟩ := e_rd h
        refine xa_iald hx hb hK hP 2 rfl nv4 ev4 dX5_widthWith_36 ?_
        obtain ⟨q5, eq5, h⟩ := e_b h
        refine xv_v (As := [.int v4]) (rest := []) (ci := 3) (b := ad 51) ⟨hx, hb, hml, hown, hts⟩ hl.1 (kX3_push l D cA (fun i => ad (51 + i)) tally v4  _ eq5) (cwV 1 hts gX5_widthWith_X3_push rfl rfl rfl (by decide +kernel) ⟨Nat.le_of_ble_eq_true rfl, Nat.le_of_ble_eq_true rfl⟩) rfl hK hP hD hS hA 4 rfl rfl rfl [4, 5, 6, 7, 8] rfl (by decide +kernel) rfl (Nat.le_of_ble_eq_true rfl) dX5_widthWith_37 ⟨Nat.zero_le _, Nat.zero_le _⟩ (fun H locs hP hD hS => ?_)
        have hP : va_P D vwCl (wD_row_tally cA ad block ties lines pmn row q5) H := hP
        have hD : va_D A (wD_row_tally cA ad block ties lines pmn row q5) := hD
        refine lv_aload_n hx hb dX5_widthWith_40 rfl (lv_at hl 0 rfl) ?_
        refine va_get (D := D) (ci := 5) (v := .ref (ad 51)) (C := RX5) (T := TX5) (N := 12) hx hb hts iX5 hown hK hP 0 rfl rfl 5 (Nat.le_of_ble_eq_true rfl) f43 (fun _ h9 => h9) rfl dX5_widthWith_41 ?_
        obtain ⟨q6, eq6, h⟩ := e_b h
        refine xv_i (As := []) (rest := []) (ci := 3) (b := ad 51) ⟨hx, hb, hml, hown, hts⟩ hl.1 (kX3_most l D cA (fun i => ad (51 + i)) q5   _ eq6) (cwV 0 hts gX5_widthWith_X3_most rfl rfl rfl (by decide +kernel) ⟨Nat.le_of_ble_eq_true rfl, Nat.le_of_ble_eq_true rfl⟩) rfl hK hP hD hS hA 4 rfl rfl rfl [4, 5, 6, 7, 8] rfl (by decide +kernel) rfl (Nat.le_of_ble_eq_true rfl) dX5_widthWith_44 ⟨Nat.zero_le _, Nat.zero_le _⟩ (fun H locs hP hD hS hnq6 => ?_)
        have hP : va_P D vwCl (wD_row_tally cA ad block ties lines pmn row q5) H := hP
        have hD : va_D A (wD_row_tally cA ad block ties lines pmn row q5) := hD
        refine lv_iload_n hx hb dX5_widthWith_47 rfl (lv_at hl 1 rfl) ?_
        refine lv_icmp_lt (tgt := 57) hx hb dX5_widthWith_48 (by decide) (fun c7 => ?_) (fun c7 => ?_)
        · have h := e_t c7 h
          refine lv_iinc (v := (x3 + 1)) (lv' := [(3, .int (x3 + 1)), (0, .ref (ad 0)), (1, .int x1), (2, .int x2)]) hx hb dX5_widthWith_57 hl (k := 3) rfl rfl (by decide) rfl (fun ls hl => ?_)
          refine lv_goto (tgt := 13) hx hb dX5_widthWith_60 (by decide) ?_
          exact ih13 x1 x2 (x3 + 1) q5 _ _ _ (lv_sub hl [1, 2, 3, 0] rfl) hP hD hS h
        · have h := e_f c7 h
          refine lv_iload_n hx hb dX5_widthWith_51 rfl (lv_at hl 3 rfl) ?_
          refine lv_iload_n hx hb dX5_widthWith_52 rfl (lv_at hl 2 rfl) ?_
          refine lv_isub hx hb dX5_widthWith_53 ?_
          refine lv_iconst (v := 1) hx hb dX5_widthWith_54 (by decide) ?_
          refine lv_iadd hx hb dX5_widthWith_55 ?_
          obtain rfl := e_s h
          exact hret hP hS rfl dX5_widthWith_56
  exact hL13 FU x1 x2 x2 q1 _ _ _ (lv_sub hl [1, 2, 3, 0] rfl) hP hD hS h
set_option maxHeartbeats 4000000 in
set_option maxRecDepth 100000 in
theorem kX5_wide (l : Launch) (D : va_G) (cA : Nat → ClassId) (ad : Nat → Nat) (block : Int32) (ties : Int32) (lines : Int32) (pmn : Int32) (row : RowT) (tally : TalT) (ahead : Nat → Int32) (x1 : Int32) (q : Int32 × TalT × (Nat → Int32)) (h : mX5_wide ties row tally ahead x1 = some q) : MI l yX5_wide wsX5_wide { frames := 3, cells := 0, slots := 0, locals := 66 } D cA .int [.ref (ad 0), .int x1] (wD_row_tally_ahead cA ad block ties lines pmn row tally ahead) (wD_row_tally_ahead cA ad block ties lines pmn row q.2.1 q.2.2) q.1 := by
  refine MI.of (cc := cX5_wide) (maxL := 4) (by decide +kernel) rfl rfl rfl (Nat.le_of_ble_eq_true rfl) ?_
  intro p e s m args below meth c A ls Q hx hb hml hts hown hK hP hD hA hS hl hret
  have hl : lv_has ls 4 [(0, .ref (ad 0)), (1, .int x1)] := hl
  have f135 := hts (.fieldLink RX5 135 "ModeDesk$Row" "size" "I") (by decide +kernel)
  have f26 := hts (.fieldLink RX5 26 "ModeDesk" "row" "LModeDesk$Row;") (by decide +kernel)
  have f50 := hts (.fieldLink RX5 50 "ModeDesk" "ahead" "[I") (by decide +kernel)
  have iX2 : ∀ w ∈ wsX20, w ∈ wsX5_wide := by decide +kernel
  have iX5 : ∀ w ∈ wsX50, w ∈ wsX5_wide := by decide +kernel
  unfold mX5_wide at h
  refine lv_iload_n hx hb dX5_wide_0 rfl (lv_at hl 1 rfl) ?_
  refine lv_iconst (v := 1) hx hb dX5_wide_1 (by decide) ?_
  refine lv_icmp_ge (tgt := 7) hx hb dX5_wide_2 (by decide) (fun c1 => ?_) (fun c1 => ?_)
  · have h := e_t c1 h
    refine lv_iconst (v := 0) hx hb dX5_wide_7 (by decide) ?_
    refine lv_istore_n (lv' := [(2, .int 0), (0, .ref (ad 0)), (1, .int x1)]) hx hb dX5_wide_8 rfl hl (by decide) rfl (fun ls hl => ?_)
    have hL9 : ∀ (n : Nat) (x1 : Int32) (x2 : Int32) (block : Int32) (ties : Int32) (lines : Int32) (pmn : Int32) (row : RowT) (tally : TalT) (ahead : Nat → Int32) (z2 : TalT × (Nat → Int32)) (ls : Array Slot) (H : Heap) (locs : List Loc), lv_has ls 4 [(0, .ref (ad 0)), (1, .int x1), (2, .int x2)] → va_P D vwCl (wD_row_tally_ahead cA ad block ties lines pmn row tally ahead) H → va_D A (wD_row_tally_ahead cA ad block ties lines pmn row tally ahead) → va_S A s.heap H locs → mX5_wide_L9 ties row x1 n x2 tally ahead = some z2 → (∀ (ls : Array Slot) (H : Heap) (locs : List Loc), lv_has ls 4 [(0, .ref (ad 0))] → va_P D vwCl (wD_row_tally_ahead cA ad block ties lines pmn row z2.1 z2.2) H → va_D A (wD_row_tally_ahead cA ad block ties lines pmn row z2.1 z2.2) → va_S A s.heap H locs → W p l e (headSpec wsX5_wide { frames := 3, cells := 0, slots := 0, locals := 66 }).room s m args below meth c H locs 0 0 Q (F0 m 38 ls [])) → W p l e (headSpec wsX5_wide { frames := 3, cells := 0, slots := 0, locals := 66 }).room s m args below meth c H locs 0 0 Q (F0 m 9 ls []) := by
      intro n
      induction n with
      | zero => intro x1 x2 block ties lines pmn row tally ahead z2 ls H locs hl hP hD hS h hk9; exact e_n h
      | succ n ih9 =>
        intro x1 x2 block ties lines pmn row tally ahead z2 ls H locs hl hP hD hS h hk9
        rw [mX5_wide_L9.eq_2] at h
        refine lv_iload_n hx hb dX5_wide_9 rfl (lv_at hl 2 rfl) ?_
        refine lv_aload_n hx hb dX5_wide_10 rfl (lv_at hl 0 rfl) ?_
        refine va_get (D := D) (ci := 5) (v := .ref (ad 7)) (C := RX5) (T := TX5) (N := 12) hx hb hts iX5 hown hK hP 0 rfl rfl 2 (Nat.le_of_ble_eq_true rfl) f26 (fun _ h9 => h9) rfl dX5_wide_11 ?_
        refine va_get (D := D) (ci := 2) (v := .int row.2.2) (C := RX2) (T := TX2) (N := 3) hx hb hts iX2 hown hK hP 1 rfl rfl 2 (Nat.le_of_ble_eq_true rfl) f135 (fun _ h9 => h9) rfl dX5_wide_14 ?_
        refine lv_icmp_ge (tgt := 38) hx hb dX5_wide_17 (by decide) (fun c3 => ?_) (fun c3 => ?_)
        · have h := e_t c3 h
          obtain rfl := e_s h
          exact hk9 _ _ _ (lv_sub hl [0] rfl) hP hD hS
        · have h := e_f c3 h
          refine lv_aload_n hx hb dX5_wide_20 rfl (lv_at hl 0 rfl) ?_
          refine va_get (D := D) (ci := 5) (v := .ref (ad 61)) (C := RX5) (T := TX5) (N := 12) hx hb hts iX5 hown hK hP 0 rfl rfl 7 (Nat.le_of_ble_eq_true rfl) f50 (fun _ h9 => h9) rfl dX5_wide_21 ?_
          refine lv_iload_n hx hb dX5_wide_24 rfl (lv_at hl 2 rfl) ?_
          refine lv_aload_n hx hb dX5_wide_25 rfl (lv_at hl 0 rfl) ?_
          refine lv_iload_n hx hb dX5_wide_26 rfl (lv_at hl 1 rfl) ?_
          refine lv_iload_n hx hb dX5_wide_27 rfl (lv_at hl 2 rfl) ?_
          obtain ⟨q4, eq4, h⟩ := e_b h
          refine xv_i (As := [.int x1, .int x2]) (rest := [.int x2, .ref (ad 61)]) (ci := 5) (b := ad 0) ⟨hx, hb, hml, hown, hts⟩ hl.1 (kX5_widthWith l D cA ad block ties lines pmn row tally x1 x2  _ eq4) (cwV 2 hts gX5_wide_X5_widthWith rfl rfl rfl (by decide +kernel) ⟨Nat.le_of_ble_eq_true rfl, Nat.le_of_ble_eq_true rfl⟩) rfl hK hP hD hS hA 0 rfl rfl rfl [0, 1, 2, 3, 4, 5, 6, 7, 8] rfl (by decide +kernel) rfl (Nat.le_of_ble_eq_true rfl) dX5_wide_28 ⟨Nat.zero_le _, Nat.zero_le _⟩ (fun H locs hP hD hS hnq4 => ?_)
          have hP : va_P D vwCl (wD_row_tally_ahead cA ad block ties lines pmn row q4.2 ahead) H := hP
          have hD : va_D A (wD_row_tally_ahead cA ad block ties lines pmn row q4.2 ahead) := hD
          obtain ⟨a5, ea5, na5, h⟩ := e_wr h
          refine xa_iast hx hb hK hP hD hS 9 rfl na5 ea5 dX5_wide_31 (fun H locs hP hD hS => ?_)
          have hP : va_P D vwCl (wD_row_tally_ahead cA ad block ties lines pmn row q4.2 a5) H := hP
          have hD : va_D A (wD_row_tally_ahead cA ad block ties lines pmn row q4.2 a5) := hD
          refine lv_iinc (v := (x2 + 1)) (lv' := [(2, .int (x2 + 1)), (0, .ref (ad 0)), (1, .int x1)]) hx hb dX5_wide_32 hl (k := 2) rfl rfl (by decide) rfl (fun ls hl => ?_)
          refine lv_goto (tgt := 9) hx hb dX5_wide_35 (by decide) ?_
          exact ih9 x1 (x2 + 1) block ties lines pmn row q4.2 a5 z2 _ _ _ (lv_sub hl [1, 2, 0] rfl) hP hD hS h hk9
    obtain ⟨z6, ez6, h⟩ := e_b h
    refine hL9 FU x1 0 block ties lines pmn row tally ahead z6 _ _ _ (lv_sub hl [1, 2, 0] rfl) hP hD hS ez6 (fun ls H locs hl hP hD hS => ?_)
    refine lv_iconst (v := 1) hx hb dX5_wide_38 (by decide) ?_
    refine lv_istore_n (lv' := [(2, .int 1), (0, .ref (ad 0))]) hx hb dX5_wide_39 rfl hl (by decide) rfl (fun ls hl => ?_)
    have hL40 : ∀ (n : Nat) (x2 : Int32) (ls : Array Slot) (H : Heap) (locs : List Loc), lv_has ls 4 [(0, .ref (ad 0)), (2, .int x2)] → va_P D vwCl (wD_row_tally_ahead cA ad block ties lines pmn row z6.1 z6.2) H → va_D A (wD_row_tally_ahead cA ad block ties lines pmn row z6.1 z6.2) → va_S A s.heap H locs → mX5_wide_L40 row z6.1 z6.2 n x2 = some q → W p l e (headSpec wsX5_wide { frames := 3, cells := 0, slots := 0, locals := 66 }).room s m args below meth c H locs 0 0 Q (F0 m 40 ls []) := by
      intro n
      induction n with
      | zero => intro x2 ls H locs hl hP hD hS h; exact e_n h
      | succ n ih40 =>
        intro x2 ls H locs hl hP hD hS h
        rw [mX5_wide_L40.eq_2] at h
        refine lv_iload_n hx hb dX5_wide_40 rfl (lv_at hl 1 rfl) ?_
        refine lv_aload_n hx hb dX5_wide_41 rfl (lv_at hl 0 rfl) ?_
        refine va_get (D := D) (ci := 5) (v := .ref (ad 7)) (C := RX5) (T := TX5) (N := 12) hx hb hts iX5 hown hK hP 0 rfl rfl 2 (Nat.le_of_ble_eq_true rfl) f26 (fun _ h9 => h9) rfl dX5_wide_42 ?_
        refine va_get (D := D) (ci := 2) (v := .int row.2.2) (C := RX2) (T := TX2) (N := 3) hx hb hts iX2 hown hK hP 1 rfl rfl 2 (Nat.le_of_ble_eq_true rfl) f135 (fun _ h9 => h9) rfl dX5_wide_45 ?_
        refine lv_icmp_gt (tgt := 103) hx hb dX5_wide_48 (by decide) (fun c8 => ?_) (fun c8 => ?_)
        · have h := e_t c8 h
          refine lv_bipush (v := (-2)) hx hb dX5_wide_103 (by decide) ?_
          obtain rfl := e_s h
          exact hret hP hS rfl dX5_wide_105
        · have h := e_f c8 h
          refine lv_iconst (v := 0) hx hb dX5_wide_51 (by decide) ?_
          refine lv_istore_n (lv' := [(3, .int 0), (0, .ref (ad 0)), (2, .int x2)]) hx hb dX5_wide_52 rfl hl (by decide) rfl (fun ls hl => ?_)
          have hL53 : ∀ (n : Nat) (x2 : Int32) (x3 : Int32) (block : Int32) (ties : Int32) (lines : Int32) (pmn : Int32) (row : RowT) (tally : TalT) (ahead : Nat → Int32) (z9 : Int32) (ls : Array Slot) (H : Heap) (locs : List Loc), lv_has ls 4 [(0, .ref (ad 0)), (2, .int x2), (3, .int x3)] → va_P D vwCl (wD_row_tally_ahead cA ad block ties lines pmn row tally ahead) H → va_D A (wD_row_tally_ahead cA ad block ties lines pmn row tally ahead) → va_S A s.heap H locs → mX5_wide_L53 row ahead x2 n x3 = some z9 → (∀ (ls : Array Slot) (H : Heap) (locs : List Loc), lv_has ls 4 [(0, .ref (ad 0)), (2, .int x2), (3, .int z9)] → va_P D vwCl (wD_row_tally_ahead cA ad block ties lines pmn row tally ahead) H → va_D A (wD_row_tally_ahead cA ad block ties lines pmn row tally ahead) → va_S A s.heap H locs → W p l e (headSpec wsX5_wide { frames := 3, cells := 0, slots := 0, locals := 66 }).room s m args below meth c H locs 0 0 Q (F0 m 82 ls [])) → W p l e (headSpec wsX5_wide { frames := 3, cells := 0, slots := 0, locals := 66 }).room s m args below meth c H locs 0 0 Q (F0 m 53 ls []) := by
            intro n
            induction n with
            | zero => intro x2 x3 block ties lines pmn row tally ahead z9 ls H locs hl hP hD hS h hk53; exact e_n h
            | succ n ih53 =>
              intro x2 x3 block ties lines pmn row tally ahead z9 ls H locs hl hP hD hS h hk53
              rw [mX5_wide_L53.eq_2] at h
              refine lv_iload_n hx hb dX5_wide_53 rfl (lv_at hl 2 rfl) ?_
              refine lv_aload_n hx hb dX5_wide_54 rfl (lv_at hl 0 rfl) ?_
              refine va_get (D := D) (ci := 5) (v := .ref (ad 7)) (C := RX5) (T := TX5) (N := 12) hx hb hts iX5 hown hK hP 0 rfl rfl 2 (Nat.le_of_ble_eq_true rfl) f26 (fun _ h9 => h9) rfl dX5_wide_55 ?_
              refine va_get (D := D) (ci := 2) (v := .int row.2.2) (C := RX2) (T := TX2) (N := 3) hx hb hts iX2 hown hK hP 1 rfl rfl 2 (Nat.le_of_ble_eq_true rfl) f135 (fun _ h9 => h9) rfl dX5_wide_58 ?_
              refine lv_iload_n hx hb dX5_wide_61 rfl (lv_at hl 1 rfl) ?_
              refine lv_isub hx hb dX5_wide_62 ?_
              refine lv_icmp_gt (tgt := 82) hx hb dX5_wide_63 (by decide) (fun c10 => ?_) (fun c10 => ?_)
              · have h := e_t c10 h
                obtain rfl := e_s h
                exact hk53 _ _ _ (lv_sub hl [0, 1, 2] rfl) hP hD hS
              · have h := e_f c10 h
                refine lv_aload_n hx hb dX5_wide_66 rfl (lv_at hl 0 rfl) ?_
                refine va_get (D := D) (ci := 5) (v := .ref (ad 61)) (C := RX5) (T := TX5) (N := 12) hx hb hts iX5 hown hK hP 0 rfl rfl 7 (Nat.le_of_ble_eq_true rfl) f50 (fun _ h9 => h9) rfl dX5_wide_67 ?_
                refine lv_iload_n hx hb dX5_wide_70 rfl (lv_at hl 2 rfl) ?_
                obtain ⟨v11, ev11, nv11, h⟩ := e_rd h
                refine xa_iald hx hb hK hP 9 rfl nv11 ev11 dX5_wide_71 ?_
                refine lv_iload_n hx hb dX5_wide_72 rfl (lv_at hl 1 rfl) ?_
                refine lv_icmp_gt (tgt := 82) hx hb dX5_wide_73 (by decide) (fun c12 => ?_) (fun c12 => ?_)
                · have h := e_t c12 h
                  obtain rfl := e_s h
                  exact hk53 _ _ _ (lv_sub hl [0, 1, 2] rfl) hP hD hS
                · have h := e_f c12 h
                  refine lv_iinc (v := (x3 + 1)) (lv' := [(3, .int (x3 + 1)), (0, .ref (ad 0)), (2, .int x2)]) hx hb dX5_wide_76 hl (k := 2) rfl rfl (by decide) rfl (fun ls hl => ?_)
                  refine lv_goto (tgt := 53) hx hb dX5_wide_79 (by decide) ?_
                  exact ih53 x2 (x3 + 1) block ties lines pmn row tally ahead z9 _ _ _ (lv_sub hl [1, 2, 0] rfl) hP hD hS h hk53
          obtain ⟨z13, ez13, h⟩ := e_b h
          refine hL53 FU x2 0 block ties lines pmn row z6.1 z6.2 z13 _ _ _ (lv_sub hl [1, 2, 0] rfl) hP hD hS ez13 (fun ls H locs hl hP hD hS => ?_)
          refine lv_iload_n hx hb dX5_wide_82 rfl (lv_at hl 2 rfl) ?_
          refine lv_aload_n hx hb dX5_wide_83 rfl (lv_at hl 0 rfl) ?_
          refine va_get (D := D) (ci := 5) (v := .ref (ad 7)) (C := RX5) (T := TX5) (N := 12) hx hb hts iX5 hown hK hP 0 rfl rfl 2 (Nat.le_of_ble_eq_true rfl) f26 (fun _ h9 => h9) rfl dX5_wide_84 ?_
          refine va_get (D := D) (ci := 2) (v := .int row.2.2) (C := RX2) (T := TX2) (N := 3) hx hb hts iX2 hown hK hP 1 rfl rfl 2 (Nat.le_of_ble_eq_true rfl) f135 (fun _ h9 => h9) rfl dX5_wide_87 ?_
          refine lv_iload_n hx hb dX5_wide_90 rfl (lv_at hl 1 rfl) ?_
          refine lv_isub hx hb dX5_wide_91 ?_
          refine lv_icmp_le (tgt := 97) hx hb dX5_wide_92 (by decide) (fun c14 => ?_) (fun c14 => ?_)
          · have h := e_t c14 h
            refine lv_iinc (v := (x2 + 1)) (lv' := [(2, .int (x2 + 1)), (0, .ref (ad 0)), (3, .int z13)]) hx hb dX5_wide_97 hl (k := 1) rfl rfl (by decide) rfl (fun ls hl => ?_)
            refine lv_goto (tgt := 40) hx hb dX5_wide_100 (by decide) ?_
            exact ih40 (x2 + 1) _ _ _ (lv_sub hl [1, 0] rfl) hP hD hS h
          · have h := e_f c14 h
            refine lv_iload_n hx hb dX5_wide_95 rfl (lv_at hl 1 rfl) ?_
            obtain rfl := e_s h
            exact hret hP hS rfl dX5_wide_96
    exact hL40 FU 1 _ _ _ (lv_sub hl [1, 0] rfl) hP hD hS h
  · have h := e_f c1 h
    refine lv_iconst (v := (-1)) hx hb dX5_wide_5 (by decide) ?_
    obtain rfl := e_s h
    exact hret hP hS rfl dX5_wide_6
set_option maxHeartbeats 4000000 in
set_option maxRecDepth 100000 in
theorem kX5_behindPart (l : Launch) (D : va_G) (cA : Nat → ClassId) (ad : Nat → Nat) (block : Int32) (ties : Int32) (lines : Int32) (pmn : Int32) (row : RowT) (tally : TalT) (ahead : Nat → Int32) (x1 : Int32) (q : Int32 × TalT) (h : mX5_behindPart ties row tally ahead x1 = some q) : MI l yX5_behindPart wsX5_behindPart { frames := 2, cells := 0, slots := 0, locals := 43 } D cA .int [.ref (ad 0), .int x1] (wD_row_tally_ahead cA ad block ties lines pmn row tally ahead) (wD_row_tally_ahead cA ad block ties lines pmn row q.2 ahead) q.1 := by
  refine MI.of (cc := cX5_behindPart) (maxL := 3) (by decide +kernel) rfl rfl rfl (Nat.le_of_ble_eq_true rfl) ?_
  intro p e s m args below meth c A ls Q hx hb hml hts hown hK hP hD hA hS hl hret
  have hl : lv_has ls 3 [(0, .ref (ad 0)), (1, .int x1)] := hl
  have f106 := hts (.fieldLink RX5 106 "ModeDesk$Row" "values" "[I") (by decide +kernel)
  have f135 := hts (.fieldLink RX5 135 "ModeDesk$Row" "size" "I") (by decide +kernel)
  have f26 := hts (.fieldLink RX5 26 "ModeDesk" "row" "LModeDesk$Row;") (by decide +kernel)
  have f43 := hts (.fieldLink RX5 43 "ModeDesk" "tally" "LModeDesk$Tally;") (by decide +kernel)
  have f50 := hts (.fieldLink RX5 50 "ModeDesk" "ahead" "[I") (by decide +kernel)
  have f58 := hts (.fieldLink RX5 58 "ModeDesk" "ties" "I") (by decide +kernel)
  have iX2 : ∀ w ∈ wsX20, w ∈ wsX5_behindPart := by decide +kernel
  have iX5 : ∀ w ∈ wsX50, w ∈ wsX5_behindPart := by decide +kernel
  unfold mX5_behindPart at h
  refine lv_aload_n hx hb dX5_behindPart_0 rfl (lv_at hl 0 rfl) ?_
  refine va_get (D := D) (ci := 5) (v := .ref (ad 51)) (C := RX5) (T := TX5) (N := 12) hx hb hts iX5 hown hK hP 0 rfl rfl 5 (Nat.le_of_ble_eq_true rfl) f43 (fun _ h9 => h9) rfl dX5_behindPart_1 ?_
  refine lv_aload_n hx hb dX5_behindPart_4 rfl (lv_at hl 0 rfl) ?_
  refine va_get (D := D) (ci := 5) (v := .int ties) (C := RX5) (T := TX5) (N := 12) hx hb hts iX5 hown hK hP 0 rfl rfl 9 (Nat.le_of_ble_eq_true rfl) f58 (fun _ h9 => h9) rfl dX5_behindPart_5 ?_
  obtain ⟨q1, eq1, h⟩ := e_b h
  refine xv_v (As := [.int ties]) (rest := []) (ci := 3) (b := ad 51) ⟨hx, hb, hml, hown, hts⟩ hl.1 (kX3_begin l D cA (fun i => ad (51 + i)) tally ties  _ eq1) (cwV 1 hts gX5_behindPart_X3_begin rfl rfl rfl (by decide +kernel) ⟨Nat.le_of_ble_eq_true rfl, Nat.le_of_ble_eq_true rfl⟩) rfl hK hP hD hS hA 4 rfl rfl rfl [4, 5, 6, 7, 8] rfl (by decide +kernel) rfl (Nat.le_of_ble_eq_true rfl) dX5_behindPart_8 ⟨Nat.zero_le _, Nat.zero_le _⟩ (fun H locs hP hD hS => ?_)
  have hP : va_P D vwCl (wD_row_tally_ahead cA ad block ties lines pmn row q1 ahead) H := hP
  have hD : va_D A (wD_row_tally_ahead cA ad block ties lines pmn row q1 ahead) := hD
  refine lv_iload_n hx hb dX5_behindPart_11 rfl (lv_at hl 1 rfl) ?_
  refine lv_istore_n (lv' := [(2, .int x1), (0, .ref (ad 0)), (1, .int x1)]) hx hb dX5_behindPart_12 rfl hl (by decide) rfl (fun ls hl => ?_)
  have hL13 : ∀ (n : Nat) (x1 : Int32) (x2 : Int32) (tally : TalT) (ls : Array Slot) (H : Heap) (locs : List Loc), lv_has ls 3 [(0, .ref (ad 0)), (1, .int x1), (2, .int x2)] → va_P D vwCl (wD_row_tally_ahead cA ad block ties lines pmn row tally ahead) H → va_D A (wD_row_tally_ahead cA ad block ties lines pmn row tally ahead) → va_S A s.heap H locs → mX5_behindPart_L13 row ahead x1 n x2 tally = some q → W p l e (headSpec wsX5_behindPart { frames := 2, cells := 0, slots := 0, locals := 43 }).room s m args below meth c H locs 0 0 Q (F0 m 13 ls []) := by
    intro n
    induction n with
    | zero => intro x1 x2 tally ls H locs hl hP hD hS h; exact e_n h
    | succ n ih13 =>
      intro x1 x2 tally ls H locs hl hP hD hS h
      rw [mX5_behindPart_L13.eq_2] at h
      refine lv_iload_n hx hb dX5_behindPart_13 rfl (lv_at hl 2 rfl) ?_
      refine lv_aload_n hx hb dX5_behindPart_14 rfl (lv_at hl 0 rfl) ?_
      refine va_get (D := D) (ci := 5) (v := .ref (ad 7)) (C := RX5) (T := TX5) (N := 12) hx hb hts iX5 hown hK hP 0 rfl rfl 2 (Nat.le_of_ble_eq_true rfl) f26 (fun _ h9 => h9) rfl dX5_behindPart_15 ?_
      refine va_get (D := D) (ci := 2) (v := .int row.2.2) (C := RX2) (T := TX2) (N := 3) hx hb hts iX2 hown hK hP 1 rfl rfl 2 (Nat.le_of_ble_eq_true rfl) f135 (fun _ h9 => h9) rfl dX5_behindPart_18 ?_
      refine lv_icmp_ge (tgt := 79) hx hb dX5_behindPart_21 (by decide) (fun c3 => ?_) (fun c3 => ?_)
      · have h := e_t c3 h
        refine lv_aload_n hx hb dX5_behindPart_79 rfl (lv_at hl 0 rfl) ?_
        refine va_get (D := D) (ci := 5) (v := .ref (ad 7)) (C := RX5) (T := TX5) (N := 12) hx hb hts iX5 hown hK hP 0 rfl rfl 2 (Nat.le_of_ble_eq_true rfl) f26 (fun _ h9 => h9) rfl dX5_behindPart_80 ?_
        refine va_get (D := D) (ci := 2) (v := .int row.2.2) (C := RX2) (T := TX2) (N := 3) hx hb hts iX2 hown hK hP 1 rfl rfl 2 (Nat.le_of_ble_eq_true rfl) f135 (fun _ h9 => h9) rfl dX5_behindPart_83 ?_
        obtain rfl := e_s h
        exact hret hP hS rfl dX5_behindPart_86
      · have h := e_f c3 h
        refine lv_aload_n hx hb dX5_behindPart_24 rfl (lv_at hl 0 rfl) ?_
        refine va_get (D := D) (ci := 5) (v := .ref (ad 51)) (C := RX5) (T := TX5) (N := 12) hx hb hts iX5 hown hK hP 0 rfl rfl 5 (Nat.le_of_ble_eq_true rfl) f43 (fun _ h9 => h9) rfl dX5_behindPart_25 ?_
        refine lv_aload_n hx hb dX5_behindPart_28 rfl (lv_at hl 0 rfl) ?_
        refine va_get (D := D) (ci := 5) (v := .ref (ad 7)) (C := RX5) (T := TX5) (N := 12) hx hb hts iX5 hown hK hP 0 rfl rfl 2 (Nat.le_of_ble_eq_true rfl) f26 (fun _ h9 => h9) rfl dX5_behindPart_29 ?_
        refine va_get (D := D) (ci := 2) (v := .ref (ad 8)) (C := RX2) (T := TX2) (N := 3) hx hb hts iX2 hown hK hP 1 rfl rfl 0 (Nat.le_of_ble_eq_true rfl) f106 (fun _ h9 => h9) rfl dX5_behindPart_32 ?_
        refine lv_iload_n hx hb dX5_behindPart_35 rfl (lv_at hl 2 rfl) ?_
        obtain ⟨v4, ev4, nv4, h⟩ := e_rd h
        refine xa_iald hx hb hK hP 2 rfl nv4 ev4 dX5_behindPart_36 ?_
        obtain ⟨q5, eq5, h⟩ := e_b h
        refine xv_v (As := [.int v4]) (rest := []) (ci := 3) (b := ad 51) ⟨hx, hb, hml, hown, hts⟩ hl.1 (kX3_push l D cA (fun i => ad (51 + i)) tally v4  _ eq5) (cwV 1 hts gX5_behindPart_X3_push rfl rfl rfl (by decide +kernel) ⟨Nat.le_of_ble_eq_true rfl, Nat.le_of_ble_eq_true rfl⟩) rfl hK hP hD hS hA 4 rfl rfl rfl [4, 5, 6, 7, 8] rfl (by decide +kernel) rfl (Nat.le_of_ble_eq_true rfl) dX5_behindPart_37 ⟨Nat.zero_le _, Nat.zero_le _⟩ (fun H locs hP hD hS => ?_)
        have hP : va_P D vwCl (wD_row_tally_ahead cA ad block ties lines pmn row q5 ahead) H := hP
        have hD : va_D A (wD_row_tally_ahead cA ad block ties lines pmn row q5 ahead) := hD
        refine lv_aload_n hx hb dX5_behindPart_40 rfl (lv_at hl 0 rfl) ?_
        refine va_get (D := D) (ci := 5) (v := .ref (ad 51)) (C := RX5) (T := TX5) (N := 12) hx hb hts iX5 hown hK hP 0 rfl rfl 5 (Nat.le_of_ble_eq_true rfl) f43 (fun _ h9 => h9) rfl dX5_behindPart_41 ?_
        obtain ⟨q6, eq6, h⟩ := e_b h
        refine xv_i (As := []) (rest := []) (ci := 3) (b := ad 51) ⟨hx, hb, hml, hown, hts⟩ hl.1 (kX3_hasMajority l D cA (fun i => ad (51 + i)) q5   _ eq6) (cwV 0 hts gX5_behindPart_X3_hasMajority rfl rfl rfl (by decide +kernel) ⟨Nat.le_of_ble_eq_true rfl, Nat.le_of_ble_eq_true rfl⟩) rfl hK hP hD hS hA 4 rfl rfl rfl [4, 5, 6, 7, 8] rfl (by decide +kernel) rfl (Nat.le_of_ble_eq_true rfl) dX5_behindPart_44 ⟨Nat.zero_le _, Nat.zero_le _⟩ (fun H locs hP hD hS hnq6 => ?_)
        have hP : va_P D vwCl (wD_row_tally_ahead cA ad block ties lines pmn row q5 ahead) H := hP
        have hD : va_D A (wD_row_tally_ahead cA ad block ties lines pmn row q5 ahead) := hD
        refine lv_if_eq (tgt := 73) hx hb dX5_behindPart_47 (by decide) (fun c7 => ?_) (fun c7 => ?_)
        · have h := e_t c7 h
          refine lv_iinc (v := (x2 + 1)) (lv' := [(2, .int (x2 + 1)), (0, .ref (ad 0)), (1, .int x1)]) hx hb dX5_behindPart_73 hl (k := 2) rfl rfl (by decide) rfl (fun ls hl => ?_)
          refine lv_goto (tgt := 13) hx hb dX5_behindPart_76 (by decide) ?_
          exact ih13 x1 (x2 + 1) q5 _ _ _ (lv_sub hl [1, 2, 0] rfl) hP hD hS h
        · have h := e_f c7 h
          refine lv_aload_n hx hb dX5_behindPart_50 rfl (lv_at hl 0 rfl) ?_
          refine va_get (D := D) (ci := 5) (v := .ref (ad 61)) (C := RX5) (T := TX5) (N := 12) hx hb hts iX5 hown hK hP 0 rfl rfl 7 (Nat.le_of_ble_eq_true rfl) f50 (fun _ h9 => h9) rfl dX5_behindPart_51 ?_
          refine lv_iload_n hx hb dX5_behindPart_54 rfl (lv_at hl 2 rfl) ?_
          refine lv_iconst (v := 1) hx hb dX5_behindPart_55 (by decide) ?_
          refine lv_iadd hx hb dX5_behindPart_56 ?_
          obtain ⟨v8, ev8, nv8, h⟩ := e_rd h
          refine xa_iald hx hb hK hP 9 rfl nv8 ev8 dX5_behindPart_57 ?_
          refine lv_iconst (v := 1) hx hb dX5_behindPart_58 (by decide) ?_
          refine lv_iadd hx hb dX5_behindPart_59 ?_
          refine lv_aload_n hx hb dX5_behindPart_60 rfl (lv_at hl 0 rfl) ?_
          refine va_get (D := D) (ci := 5) (v := .ref (ad 61)) (C := RX5) (T := TX5) (N := 12) hx hb hts iX5 hown hK hP 0 rfl rfl 7 (Nat.le_of_ble_eq_true rfl) f50 (fun _ h9 => h9) rfl dX5_behindPart_61 ?_
          refine lv_iload_n hx hb dX5_behindPart_64 rfl (lv_at hl 1 rfl) ?_
          obtain ⟨v9, ev9, nv9, h⟩ := e_rd h
          refine xa_iald hx hb hK hP 9 rfl nv9 ev9 dX5_behindPart_65 ?_
          refine lv_icmp_ne (tgt := 73) hx hb dX5_behindPart_66 (by decide) (fun c10 => ?_) (fun c10 => ?_)
          · have h := e_t c10 h
            refine lv_iinc (v := (x2 + 1)) (lv' := [(2, .int (x2 + 1)), (0, .ref (ad 0)), (1, .int x1)]) hx hb dX5_behindPart_73 hl (k := 2) rfl rfl (by decide) rfl (fun ls hl => ?_)
            refine lv_goto (tgt := 13) hx hb dX5_behindPart_76 (by decide) ?_
            exact ih13 x1 (x2 + 1) q5 _ _ _ (lv_sub hl [1, 2, 0] rfl) hP hD hS h
          · have h := e_f (not_not_intro c10) h
            refine lv_iload_n hx hb dX5_behindPart_69 rfl (lv_at hl 2 rfl) ?_
            refine lv_iconst (v := 1) hx hb dX5_behindPart_70 (by decide) ?_
            refine lv_iadd hx hb dX5_behindPart_71 ?_
            obtain rfl := e_s h
            exact hret hP hS rfl dX5_behindPart_72
  exact hL13 FU x1 x1 q1 _ _ _ (lv_sub hl [1, 2, 0] rfl) hP hD hS h
set_option maxHeartbeats 4000000 in
set_option maxRecDepth 100000 in
theorem kX5_fewestParts (l : Launch) (D : va_G) (cA : Nat → ClassId) (ad : Nat → Nat) (block : Int32) (ties : Int32) (lines : Int32) (pmn : Int32) (row : RowT) (tally : TalT) (ahead : Nat → Int32)  (q : TalT × (Nat → Int32)) (h : mX5_fewestParts ties row tally ahead  = some q) : MV l yX5_fewestParts wsX5_fewestParts { frames := 2, cells := 0, slots := 0, locals := 43 } D cA [.ref (ad 0)] (wD_row_tally_ahead cA ad block ties lines pmn row tally ahead) (wD_row_tally_ahead cA ad block ties lines pmn row q.1 q.2) := by
  refine MV.of (cc := cX5_fewestParts) (maxL := 3) (by decide) rfl rfl rfl (Nat.le_of_ble_eq_true rfl) ?_
  intro p e s m args below meth c A ls Q hx hb hml hts hown hK hP hD hA hS hl hret
  have hl : lv_has ls 3 [(0, .ref (ad 0))] := hl
  have f106 := hts (.fieldLink RX5 106 "ModeDesk$Row" "values" "[I") (by decide +kernel)
  have f135 := hts (.fieldLink RX5 135 "ModeDesk$Row" "size" "I") (by decide +kernel)
  have f26 := hts (.fieldLink RX5 26 "ModeDesk" "row" "LModeDesk$Row;") (by decide +kernel)
  have f43 := hts (.fieldLink RX5 43 "ModeDesk" "tally" "LModeDesk$Tally;") (by decide +kernel)
  have f50 := hts (.fieldLink RX5 50 "ModeDesk" "ahead" "[I") (by decide +kernel)
  have f58 := hts (.fieldLink RX5 58 "ModeDesk" "ties" "I") (by decide +kernel)
  have iX2 : ∀ w ∈ wsX20, w ∈ wsX5_fewestParts := by decide +kernel
  have iX5 : ∀ w ∈ wsX50, w ∈ wsX5_fewestParts := by decide +kernel
  unfold mX5_fewestParts at h
  refine lv_aload_n hx hb dX5_fewestParts_0 rfl (lv_at hl 0 rfl) ?_
  refine va_get (D := D) (ci := 5) (v := .ref (ad 61)) (C := RX5) (T := TX5) (N := 12) hx hb hts iX5 hown hK hP 0 rfl rfl 7 (Nat.le_of_ble_eq_true rfl) f50 (fun _ h9 => h9) rfl dX5_fewestParts_1 ?_
  refine lv_aload_n hx hb dX5_fewestParts_4 rfl (lv_at hl 0 rfl) ?_
  refine va_get (D := D) (ci := 5) (v := .ref (ad 7)) (C := RX5) (T := TX5) (N := 12) hx hb hts iX5 hown hK hP 0 rfl rfl 2 (Nat.le_of_ble_eq_true rfl) f26 (fun _ h9 => h9) rfl dX5_fewestParts_5 ?_
  refine va_get (D := D) (ci := 2) (v := .int row.2.2) (C := RX2) (T := TX2) (N := 3) hx hb hts iX2 hown hK hP 1 rfl rfl 2 (Nat.le_of_ble_eq_true rfl) f135 (fun _ h9 => h9) rfl dX5_fewestParts_8 ?_
  refine lv_iconst (v := 0) hx hb dX5_fewestParts_11 (by decide) ?_
  obtain ⟨a1, ea1, na1, h⟩ := e_wr h
  refine xa_iast hx hb hK hP hD hS 9 rfl na1 ea1 dX5_fewestParts_12 (fun H locs hP hD hS => ?_)
  have hP : va_P D vwCl (wD_row_tally_ahead cA ad block ties lines pmn row tally a1) H := hP
  have hD : va_D A (wD_row_tally_ahead cA ad block ties lines pmn row tally a1) := hD
  refine lv_aload_n hx hb dX5_fewestParts_13 rfl (lv_at hl 0 rfl) ?_
  refine va_get (D := D) (ci := 5) (v := .ref (ad 7)) (C := RX5) (T := TX5) (N := 12) hx hb hts iX5 hown hK hP 0 rfl rfl 2 (Nat.le_of_ble_eq_true rfl) f26 (fun _ h9 => h9) rfl dX5_fewestParts_14 ?_
  refine va_get (D := D) (ci := 2) (v := .int row.2.2) (C := RX2) (T := TX2) (N := 3) hx hb hts iX2 hown hK hP 1 rfl rfl 2 (Nat.le_of_ble_eq_true rfl) f135 (fun _ h9 => h9) rfl dX5_fewestParts_17 ?_
  refine lv_iconst (v := 1) hx hb dX5_fewestParts_20 (by decide) ?_
  refine lv_isub hx hb dX5_fewestParts_21 ?_
  refine lv_istore_n (lv' := [(1, .int (row.2.2 - 1)), (0, .ref (ad 0))]) hx hb dX5_fewestParts_22 rfl hl (by decide) rfl (fun ls hl => ?_)
  have hL23 : ∀ (n : Nat) (x1 : Int32) (block : Int32) (ties : Int32) (lines : Int32) (pmn : Int32) (row : RowT) (tally : TalT) (ahead : Nat → Int32) (z2 : TalT × (Nat → Int32)) (ls : Array Slot) (H : Heap) (locs : List Loc), lv_has ls 3 [(0, .ref (ad 0)), (1, .int x1)] → va_P D vwCl (wD_row_tally_ahead cA ad block ties lines pmn row tally ahead) H → va_D A (wD_row_tally_ahead cA ad block ties lines pmn row tally ahead) → va_S A s.heap H locs → mX5_fewestParts_L23 ties row n x1 tally ahead = some z2 → (∀ (ls : Array Slot) (H : Heap) (locs : List Loc), lv_has ls 3 [] → va_P D vwCl (wD_row_tally_ahead cA ad block ties lines pmn row z2.1 z2.2) H → va_D A (wD_row_tally_ahead cA ad block ties lines pmn row z2.1 z2.2) → va_S A s.heap H locs → W p l e (headSpec wsX5_fewestParts { frames := 2, cells := 0, slots := 0, locals := 43 }).room s m args below meth c H locs 0 0 Q (F0 m 122 ls [])) → W p l e (headSpec wsX5_fewestParts { frames := 2, cells := 0, slots := 0, locals := 43 }).room s m args below meth c H locs 0 0 Q (F0 m 23 ls []) := by
    intro n
    induction n with
    | zero => intro x1 block ties lines pmn row tally ahead z2 ls H locs hl hP hD hS h hk23; exact e_n h
    | succ n ih23 =>
      intro x1 block ties lines pmn row tally ahead z2 ls H locs hl hP hD hS h hk23
      rw [mX5_fewestParts_L23.eq_2] at h
      refine lv_iload_n hx hb dX5_fewestParts_23 rfl (lv_at hl 1 rfl) ?_
      refine lv_if_lt (tgt := 122) hx hb dX5_fewestParts_24 (by decide) (fun c3 => ?_) (fun c3 => ?_)
      · have h := e_t c3 h
        obtain rfl := e_s h
        exact hk23 _ _ _ (lv_sub hl [] rfl) hP hD hS
      · have h := e_f c3 h
        refine lv_aload_n hx hb dX5_fewestParts_27 rfl (lv_at hl 0 rfl) ?_
        refine va_get (D := D) (ci := 5) (v := .ref (ad 61)) (C := RX5) (T := TX5) (N := 12) hx hb hts iX5 hown hK hP 0 rfl rfl 7 (Nat.le_of_ble_eq_true rfl) f50 (fun _ h9 => h9) rfl dX5_fewestParts_28 ?_
        refine lv_iload_n hx hb dX5_fewestParts_31 rfl (lv_at hl 1 rfl) ?_
        refine lv_bipush (v := 120) hx hb dX5_fewestParts_32 (by decide) ?_
        obtain ⟨a4, ea4, na4, h⟩ := e_wr h
        refine xa_iast hx hb hK hP hD hS 9 rfl na4 ea4 dX5_fewestParts_34 (fun H locs hP hD hS => ?_)
        have hP : va_P D vwCl (wD_row_tally_ahead cA ad block ties lines pmn row tally a4) H := hP
        have hD : va_D A (wD_row_tally_ahead cA ad block ties lines pmn row tally a4) := hD
        refine lv_aload_n hx hb dX5_fewestParts_35 rfl (lv_at hl 0 rfl) ?_
        refine va_get (D := D) (ci := 5) (v := .ref (ad 51)) (C := RX5) (T := TX5) (N := 12) hx hb hts iX5 hown hK hP 0 rfl rfl 5 (Nat.le_of_ble_eq_true rfl) f43 (fun _ h9 => h9) rfl dX5_fewestParts_36 ?_
        refine lv_aload_n hx hb dX5_fewestParts_39 rfl (lv_at hl 0 rfl) ?_
        refine va_get (D := D) (ci := 5) (v := .int ties) (C := RX5) (T := TX5) (N := 12) hx hb hts iX5 hown hK hP 0 rfl rfl 9 (Nat.le_of_ble_eq_true rfl) f58 (fun _ h9 => h9) rfl dX5_fewestParts_40 ?_
        obtain ⟨q5, eq5, h⟩ := e_b h
        refine xv_v (As := [.int ties]) (rest := []) (ci := 3) (b := ad 51) ⟨hx, hb, hml, hown, hts⟩ hl.1 (kX3_begin l D cA (fun i => ad (51 + i)) tally ties  _ eq5) (cwV 1 hts gX5_fewestParts_X3_begin rfl rfl rfl (by decide +kernel) ⟨Nat.le_of_ble_eq_true rfl, Nat.le_of_ble_eq_true rfl⟩) rfl hK hP hD hS hA 4 rfl rfl rfl [4, 5, 6, 7, 8] rfl (by decide +kernel) rfl (Nat.le_of_ble_eq_true rfl) dX5_fewestParts_43 ⟨Nat.zero_le _, Nat.zero_le _⟩ (fun H locs hP hD hS => ?_)
        have hP : va_P D vwCl (wD_row_tally_ahead cA ad block ties lines pmn row q5 a4) H := hP
        have hD : va_D A (wD_row_tally_ahead cA ad block ties lines pmn row q5 a4) := hD
        refine lv_iload_n hx hb dX5_fewestParts_46 rfl (lv_at hl 1 rfl) ?_
        refine lv_istore_n (lv' := [(2, .int x1), (0, .ref (ad 0)), (1, .int x1)]) hx hb dX5_fewestParts_47 rfl hl (by decide) rfl (fun ls hl => ?_)
        have hL48 : ∀ (n : Nat) (x1 : Int32) (x2 : Int32) (block : Int32) (ties : Int32) (lines : Int32) (pmn : Int32) (row : RowT) (tally : TalT) (ahead : Nat → Int32) (z6 : TalT × (Nat → Int32)) (ls : Array Slot) (H : Heap) (locs : List Loc), lv_has ls 3 [(0, .ref (ad 0)), (1, .int x1), (2, .int x2)] → va_P D vwCl (wD_row_tally_ahead cA ad block ties lines pmn row tally ahead) H → va_D A (wD_row_tally_ahead cA ad block ties lines pmn row tally ahead) → va_S A s.heap H locs → mX5_fewestParts_L48 row x1 n x2 tally ahead = some z6 → (∀ (ls : Array Slot) (H : Heap) (locs : List Loc), lv_has ls 3 [(0, .ref (ad 0)), (1, .int x1)] → va_P D vwCl (wD_row_tally_ahead cA ad block ties lines pmn row z6.1 z6.2) H → va_D A (wD_row_tally_ahead cA ad block ties lines pmn row z6.1 z6.2) → va_S A s.heap H locs → W p l e (headSpec wsX5_fewestParts { frames := 2, cells := 0, slots := 0, locals := 43 }).room s m args below meth c H locs 0 0 Q (F0 m 116 ls [])) → W p l e (headSpec wsX5_fewestParts { frames := 2, cells := 0, slots := 0, locals := 43 }).room s m args below meth c H locs 0 0 Q (F0 m 48 ls []) := by
          intro n
          induction n with
          | zero => intro x1 x2 block ties lines pmn row tally ahead z6 ls H locs hl hP hD hS h hk48; exact e_n h
          | succ n ih48 =>
            intro x1 x2 block ties lines pmn row tally ahead z6 ls H locs hl hP hD hS h hk48
            rw [mX5_fewestParts_L48.eq_2] at h
            refine lv_iload_n hx hb dX5_fewestParts_48 rfl (lv_at hl 2 rfl) ?_
            refine lv_aload_n hx hb dX5_fewestParts_49 rfl (lv_at hl 0 rfl) ?_
            refine va_get (D := D) (ci := 5) (v := .ref (ad 7)) (C := RX5) (T := TX5) (N := 12) hx hb hts iX5 hown hK hP 0 rfl rfl 2 (Nat.le_of_ble_eq_true rfl) f26 (fun _ h9 => h9) rfl dX5_fewestParts_50 ?_
            refine va_get (D := D) (ci := 2) (v := .int row.2.2) (C := RX2) (T := TX2) (N := 3) hx hb hts iX2 hown hK hP 1 rfl rfl 2 (Nat.le_of_ble_eq_true rfl) f135 (fun _ h9 => h9) rfl dX5_fewestParts_53 ?_
            refine lv_icmp_ge (tgt := 116) hx hb dX5_fewestParts_56 (by decide) (fun c7 => ?_) (fun c7 => ?_)
            · have h := e_t c7 h
              obtain rfl := e_s h
              exact hk48 _ _ _ (lv_sub hl [0, 1] rfl) hP hD hS
            · have h := e_f c7 h
              refine lv_aload_n hx hb dX5_fewestParts_59 rfl (lv_at hl 0 rfl) ?_
              refine va_get (D := D) (ci := 5) (v := .ref (ad 51)) (C := RX5) (T := TX5) (N := 12) hx hb hts iX5 hown hK hP 0 rfl rfl 5 (Nat.le_of_ble_eq_true rfl) f43 (fun _ h9 => h9) rfl dX5_fewestParts_60 ?_
              refine lv_aload_n hx hb dX5_fewestParts_63 rfl (lv_at hl 0 rfl) ?_
              refine va_get (D := D) (ci := 5) (v := .ref (ad 7)) (C := RX5) (T := TX5) (N := 12) hx hb hts iX5 hown hK hP 0 rfl rfl 2 (Nat.le_of_ble_eq_true rfl) f26 (fun _ h9 => h9) rfl dX5_fewestParts_64 ?_
              refine va_get (D := D) (ci := 2) (v := .ref (ad 8)) (C := RX2) (T := TX2) (N := 3) hx hb hts iX2 hown hK hP 1 rfl rfl 0 (Nat.le_of_ble_eq_true rfl) f106 (fun _ h9 => h9) rfl dX5_fewestParts_67 ?_
              refine lv_iload_n hx hb dX5_fewestParts_70 rfl (lv_at hl 2 rfl) ?_
              obtain ⟨v8, ev8, nv8, h⟩ := e_rd h
              refine xa_iald hx hb hK hP 2 rfl nv8 ev8 dX5_fewestParts_71 ?_
              obtain ⟨q9, eq9, h⟩ := e_b h
              refine xv_v (As := [.int v8]) (rest := []) (ci := 3) (b := ad 51) ⟨hx, hb, hml, hown, hts⟩ hl.1 (kX3_push l D cA (fun i => ad (51 + i)) tally v8  _ eq9) (cwV 1 hts gX5_fewestParts_X3_push rfl rfl rfl (by decide +kernel) ⟨Nat.le_of_ble_eq_true rfl, Nat.le_of_ble_eq_true rfl⟩) rfl hK hP hD hS hA 4 rfl rfl rfl [4, 5, 6, 7, 8] rfl (by decide +kernel) rfl (Nat.le_of_ble_eq_true rfl) dX5_fewestParts_72 ⟨Nat.zero_le _, Nat.zero_le _⟩ (fun H locs hP hD hS => ?_)
              have hP : va_P D vwCl (wD_row_tally_ahead cA ad block ties lines pmn row q9 ahead) H := hP
              have hD : va_D A (wD_row_tally_ahead cA ad block ties lines pmn row q9 ahead) := hD
              refine lv_aload_n hx hb dX5_fewestParts_75 rfl (lv_at hl 0 rfl) ?_
              refine va_get (D := D) (ci := 5) (v := .ref (ad 51)) (C := RX5) (T := TX5) (N := 12) hx hb hts iX5 hown hK hP 0 rfl rfl 5 (Nat.le_of_ble_eq_true rfl) f43 (fun _ h9 => h9) rfl dX5_fewestParts_76 ?_
              obtain ⟨q10, eq10, h⟩ := e_b h
              refine xv_i (As := []) (rest := []) (ci := 3) (b := ad 51) ⟨hx, hb, hml, hown, hts⟩ hl.1 (kX3_hasMajority l D cA (fun i => ad (51 + i)) q9   _ eq10) (cwV 0 hts gX5_fewestParts_X3_hasMajority rfl rfl rfl (by decide +kernel) ⟨Nat.le_of_ble_eq_true rfl, Nat.le_of_ble_eq_true rfl⟩) rfl hK hP hD hS hA 4 rfl rfl rfl [4, 5, 6, 7, 8] rfl (by decide +kernel) rfl (Nat.le_of_ble_eq_true rfl) dX5_fewestParts_79 ⟨Nat.zero_le _, Nat.zero_le _⟩ (fun H locs hP hD hS hnq10 => ?_)
              have hP : va_P D vwCl (wD_row_tally_ahead cA ad block ties lines pmn row q9 ahead) H := hP
              have hD : va_D A (wD_row_tally_ahead cA ad block ties lines pmn row q9 ahead) := hD
              refine lv_if_eq (tgt := 110) hx hb dX5_fewestParts_82 (by decide) (fun c11 => ?_) (fun c11 => ?_)
              · have h := e_t c11 h
                refine lv_iinc (v := (x2 + 1)) (lv' := [(2, .int (x2 + 1)), (0, .ref (ad 0)), (1, .int x1)]) hx hb dX5_fewestParts_110 hl (k := 2) rfl rfl (by decide) rfl (fun ls hl => ?_)
                refine lv_goto (tgt := 48) hx hb dX5_fewestParts_113 (by decide) ?_
                exact ih48 x1 (x2 + 1) block ties lines pmn row q9 ahead z6 _ _ _ (lv_sub hl [1, 2, 0] rfl) hP hD hS h hk48
              · have h := e_f c11 h
                refine lv_aload_n hx hb dX5_fewestParts_85 rfl (lv_at hl 0 rfl) ?_
                refine va_get (D := D) (ci := 5) (v := .ref (ad 61)) (C := RX5) (T := TX5) (N := 12) hx hb hts iX5 hown hK hP 0 rfl rfl 7 (Nat.le_of_ble_eq_true rfl) f50 (fun _ h9 => h9) rfl dX5_fewestParts_86 ?_
                refine lv_iload_n hx hb dX5_fewestParts_89 rfl (lv_at hl 1 rfl) ?_
                refine lv_aload_n hx hb dX5_fewestParts_90 rfl (lv_at hl 0 rfl) ?_
                refine va_get (D := D) (ci := 5) (v := .ref (ad 61)) (C := RX5) (T := TX5) (N := 12) hx hb hts iX5 hown hK hP 0 rfl rfl 7 (Nat.le_of_ble_eq_true rfl) f50 (fun _ h9 => h9) rfl dX5_fewestParts_91 ?_
                refine lv_iload_n hx hb dX5_fewestParts_94 rfl (lv_at hl 1 rfl) ?_
                obtain ⟨v12, ev12, nv12, h⟩ := e_rd h
                refine xa_iald hx hb hK hP 9 rfl nv12 ev12 dX5_fewestParts_95 ?_
                refine lv_aload_n hx hb dX5_fewestParts_96 rfl (lv_at hl 0 rfl) ?_
                refine va_get (D := D) (ci := 5) (v := .ref (ad 61)) (C := RX5) (T := TX5) (N := 12) hx hb hts iX5 hown hK hP 0 rfl rfl 7 (Nat.le_of_ble_eq_true rfl) f50 (fun _ h9 => h9) rfl dX5_fewestParts_97 ?_
                refine lv_iload_n hx hb dX5_fewestParts_100 rfl (lv_at hl 2 rfl) ?_
                refine lv_iconst (v := 1) hx hb dX5_fewestParts_101 (by decide) ?_
                refine lv_iadd hx hb dX5_fewestParts_102 ?_
                obtain ⟨v13, ev13, nv13, h⟩ := e_rd h
                refine xa_iald hx hb hK hP 9 rfl nv13 ev13 dX5_fewestParts_103 ?_
                refine lv_iconst (v := 1) hx hb dX5_fewestParts_104 (by decide) ?_
                refine lv_iadd hx hb dX5_fewestParts_105 ?_
                refine va_mmin hx hb (by rw [hml, hl.1]) hown (hts (.methodLink RX5 234 Lib.Math.min.name) (by decide +kernel)) (hts (.static Lib.Math.min.name) (by decide +kernel)) (hts (.initialized "java/lang/Math") (by decide +kernel)) (hts (.code Lib.Math.min.name Lib.Math.min.code 2 (some .int)) (by decide +kernel)) (Nat.le_of_ble_eq_true rfl) (Nat.le_of_ble_eq_true rfl) (Nat.zero_le _) (Nat.zero_le _) dX5_fewestParts_106 ?_
                obtain ⟨a14, ea14, na14, h⟩ := e_wr h
                refine xa_iast hx hb hK hP hD hS 9 rfl na14 ea14 dX5_fewestParts_109 (fun H locs hP hD hS => ?_)
                have hP : va_P D vwCl (wD_row_tally_ahead cA ad block ties lines pmn row q9 a14) H := hP
                have hD : va_D A (wD_row_tally_ahead cA ad block ties lines pmn row q9 a14) := hD
                refine lv_iinc (v := (x2 + 1)) (lv' := [(2, .int (x2 + 1)), (0, .ref (ad 0)), (1, .int x1)]) hx hb dX5_fewestParts_110 hl (k := 2) rfl rfl (by decide) rfl (fun ls hl => ?_)
                refine lv_goto (tgt := 48) hx hb dX5_fewestParts_113 (by decide) ?_
                exact ih48 x1 (x2 + 1) block ties lines pmn row q9 a14 z6 _ _ _ (lv_sub hl [1, 2, 0] rfl) hP hD hS h hk48
        obtain ⟨z15, ez15, h⟩ := e_b h
        refine hL48 FU x1 x1 block ties lines pmn row q5 a4 z15 _ _ _ (lv_sub hl [1, 2, 0] rfl) hP hD hS ez15 (fun ls H locs hl hP hD hS => ?_)
        refine lv_iinc (v := (x1 + (-1))) (lv' := [(1, .int (x1 + (-1))), (0, .ref (ad 0))]) hx hb dX5_fewestParts_116 hl (k := 1) rfl rfl (by decide) rfl (fun ls hl => ?_)
        refine lv_goto (tgt := 23) hx hb dX5_fewestParts_119 (by decide) ?_
        exact ih23 (x1 + (-1)) block ties lines pmn row z15.1 z15.2 z2 _ _ _ (lv_sub hl [1, 0] rfl) hP hD hS h hk23
  obtain ⟨z16, ez16, h⟩ := e_b h
  refine hL23 FU (row.2.2 - 1) block ties lines pmn row tally a1 z16 _ _ _ (lv_sub hl [1, 0] rfl) hP hD hS ez16 (fun ls H locs hl hP hD hS => ?_)
  obtain rfl := e_s h
  exact hret hP hS dX5_fewestParts_122
set_option maxHeartbeats 4000000 in
set_option maxRecDepth 100000 in
theorem kX5_part (l : Launch) (D : va_G) (cA : Nat → ClassId) (ad : Nat → Nat) (block : Int32) (ties : Int32) (lines : Int32) (pmn : Int32) (row : RowT) (tally : TalT) (ahead : Nat → Int32) (x1 : Int32) (q : Int32 × TalT × (Nat → Int32)) (h : mX5_part ties row tally ahead x1 = some q) : MI l yX5_part wsX5_part { frames := 3, cells := 0, slots := 0, locals := 65 } D cA .int [.ref (ad 0), .int x1] (wD_row_tally_ahead cA ad block ties lines pmn row tally ahead) (wD_row_tally_ahead cA ad block ties lines pmn row q.2.1 q.2.2) q.1 := by
  refine MI.of (cc := cX5_part) (maxL := 5) (by decide +kernel) rfl rfl rfl (Nat.le_of_ble_eq_true rfl) ?_
  intro p e s m args below meth c A ls Q hx hb hml hts hown hK hP hD hA hS hl hret
  have hl : lv_has ls 5 [(0, .ref (ad 0)), (1, .int x1)] := hl
  have f50 := hts (.fieldLink RX5 50 "ModeDesk" "ahead" "[I") (by decide +kernel)
  have iX5 : ∀ w ∈ wsX50, w ∈ wsX5_part := by decide +kernel
  unfold mX5_part at h
  refine lv_iload_n hx hb dX5_part_0 rfl (lv_at hl 1 rfl) ?_
  refine lv_iconst (v := (-1)) hx hb dX5_part_1 (by decide) ?_
  refine lv_icmp_ge (tgt := 7) hx hb dX5_part_2 (by decide) (fun c1 => ?_) (fun c1 => ?_)
  · have h := e_t c1 h
    refine lv_aload_n hx hb dX5_part_7 rfl (lv_at hl 0 rfl) ?_
    obtain ⟨q2, eq2, h⟩ := e_b h
    refine xv_v0 (As := []) (rest := []) (ci := 5) (b := ad 0) ⟨hx, hb, hml, hown, hts⟩ hl.1 (kX5_fewestParts l D cA ad block ties lines pmn row tally ahead   _ eq2) (cwV 0 hts gX5_part_X5_fewestParts rfl rfl rfl (by decide +kernel) ⟨Nat.le_of_ble_eq_true rfl, Nat.le_of_ble_eq_true rfl⟩) rfl hK hP hD hS hA 0 rfl rfl rfl rfl (Nat.le_of_ble_eq_true rfl) dX5_part_8 ⟨Nat.zero_le _, Nat.zero_le _⟩ (fun H locs hP hD hS => ?_)
    have hP : va_P D vwCl (wD_row_tally_ahead cA ad block ties lines pmn row q2.1 q2.2) H := hP
    have hD : va_D A (wD_row_tally_ahead cA ad block ties lines pmn row q2.1 q2.2) := hD
    refine lv_aload_n hx hb dX5_part_11 rfl (lv_at hl 0 rfl) ?_
    refine va_get (D := D) (ci := 5) (v := .ref (ad 61)) (C := RX5) (T := TX5) (N := 12) hx hb hts iX5 hown hK hP 0 rfl rfl 7 (Nat.le_of_ble_eq_true rfl) f50 (fun _ h9 => h9) rfl dX5_part_12 ?_
    refine lv_iconst (v := 0) hx hb dX5_part_15 (by decide) ?_
    obtain ⟨v3, ev3, nv3, h⟩ := e_rd h
    refine xa_iald hx hb hK hP 9 rfl nv3 ev3 dX5_part_16 ?_
    refine lv_istore_n (lv' := [(2, .int v3), (0, .ref (ad 0)), (1, .int x1)]) hx hb dX5_part_17 rfl hl (by decide) rfl (fun ls hl => ?_)
    refine lv_iload_n hx hb dX5_part_18 rfl (lv_at hl 2 rfl) ?_
    refine lv_iconst (v := (-1)) hx hb dX5_part_19 (by decide) ?_
    refine lv_icmp_ne (tgt := 25) hx hb dX5_part_20 (by decide) (fun c4 => ?_) (fun c4 => ?_)
    · have h := e_t c4 h
      refine lv_iload_n hx hb dX5_part_25 rfl (lv_at hl 2 rfl) ?_
      refine lv_iload_n hx hb dX5_part_26 rfl (lv_at hl 0 rfl) ?_
      refine lv_icmp_lt (tgt := 33) hx hb dX5_part_27 (by decide) (fun c5 => ?_) (fun c5 => ?_)
      · have h := e_t c5 h
        refine lv_iconst (v := 0) hx hb dX5_part_33 (by decide) ?_
        refine lv_istore_n (lv' := [(3, .int 0), (2, .int v3), (0, .ref (ad 0)), (1, .int x1)]) hx hb dX5_part_34 rfl hl (by decide) rfl (fun ls hl => ?_)
        refine lv_iconst (v := 0) hx hb dX5_part_35 (by decide) ?_
        refine lv_istore (lv' := [(4, .int 0), (3, .int 0), (2, .int v3), (0, .ref (ad 0)), (1, .int x1)]) hx hb dX5_part_36 hl (by decide) rfl (fun ls hl => ?_)
        have hL38 : ∀ (n : Nat) (x1 : Int32) (x3 : Int32) (x4 : Int32) (block : Int32) (ties : Int32) (lines : Int32) (pmn : Int32) (row : RowT) (tally : TalT) (ahead : Nat → Int32) (z6 : Int32 × TalT) (ls : Array Slot) (H : Heap) (locs : List Loc), lv_has ls 5 [(0, .ref (ad 0)), (1, .int x1), (3, .int x3), (4, .int x4)] → va_P D vwCl (wD_row_tally_ahead cA ad block ties lines pmn row tally ahead) H → va_D A (wD_row_tally_ahead cA ad block ties lines pmn row tally ahead) → va_S A s.heap H locs → mX5_part_L38 ties row ahead x1 n x3 x4 tally = some z6 → (∀ (ls : Array Slot) (H : Heap) (locs : List Loc), lv_has ls 5 [(3, .int z6.1)] → va_P D vwCl (wD_row_tally_ahead cA ad block ties lines pmn row z6.2 ahead) H → va_D A (wD_row_tally_ahead cA ad block ties lines pmn row z6.2 ahead) → va_S A s.heap H locs → W p l e (headSpec wsX5_part { frames := 3, cells := 0, slots := 0, locals := 65 }).room s m args below meth c H locs 0 0 Q (F0 m 56 ls [])) → W p l e (headSpec wsX5_part { frames := 3, cells := 0, slots := 0, locals := 65 }).room s m args below meth c H locs 0 0 Q (F0 m 38 ls []) := by
          intro n
          induction n with
          | zero => intro x1 x3 x4 block ties lines pmn row tally ahead z6 ls H locs hl hP hD hS h hk38; exact e_n h
          | succ n ih38 =>
            intro x1 x3 x4 block ties lines pmn row tally ahead z6 ls H locs hl hP hD hS h hk38
            rw [mX5_part_L38.eq_2] at h
            refine lv_iload hx hb dX5_part_38 (lv_at hl 3 rfl) ?_
            refine lv_iload_n hx hb dX5_part_40 rfl (lv_at hl 1 rfl) ?_
            refine lv_icmp_ge (tgt := 56) hx hb dX5_part_41 (by decide) (fun c7 => ?_) (fun c7 => ?_)
            · have h := e_t c7 h
              obtain rfl := e_s h
              exact hk38 _ _ _ (lv_sub hl [2] rfl) hP hD hS
            · have h := e_f c7 h
              refine lv_aload_n hx hb dX5_part_44 rfl (lv_at hl 0 rfl) ?_
              refine lv_iload_n hx hb dX5_part_45 rfl (lv_at hl 2 rfl) ?_
              obtain ⟨q8, eq8, h⟩ := e_b h
              refine xv_i0 (As := [.int x3]) (rest := []) (ci := 5) (b := ad 0) ⟨hx, hb, hml, hown, hts⟩ hl.1 (kX5_behindPart l D cA ad block ties lines pmn row tally ahead x3  _ eq8) (cwV 1 hts gX5_part_X5_behindPart rfl rfl rfl (by decide +kernel) ⟨Nat.le_of_ble_eq_true rfl, Nat.le_of_ble_eq_true rfl⟩) rfl hK hP hD hS hA 0 rfl rfl rfl rfl (Nat.le_of_ble_eq_true rfl) dX5_part_46 ⟨Nat.zero_le _, Nat.zero_le _⟩ (fun H locs hP hD hS hnq8 => ?_)
              have hP : va_P D vwCl (wD_row_tally_ahead cA ad block ties lines pmn row q8.2 ahead) H := hP
              have hD : va_D A (wD_row_tally_ahead cA ad block ties lines pmn row q8.2 ahead) := hD
              refine lv_istore_n (lv' := [(3, .int q8.1), (0, .ref (ad 0)), (1, .int x1), (4, .int x4)]) hx hb dX5_part_49 rfl hl (by decide) rfl (fun ls hl => ?_)
              refine lv_iinc (v := (x4 + 1)) (lv' := [(4, .int (x4 + 1)), (3, .int q8.1), (0, .ref (ad 0)), (1, .int x1)]) hx hb dX5_part_50 hl (k := 3) rfl rfl (by decide) rfl (fun ls hl => ?_)
              refine lv_goto (tgt := 38) hx hb dX5_part_53 (by decide) ?_
              exact ih38 x1 q8.1 (x4 + 1) block ties lines pmn row q8.2 ahead z6 _ _ _ (lv_sub hl [2, 3, 1, 0] rfl) hP hD hS h hk38
        obtain ⟨z9, ez9, h⟩ := e_b h
        refine hL38 FU x1 0 0 block ties lines pmn row q2.1 q2.2 z9 _ _ _ (lv_sub hl [3, 4, 1, 0] rfl) hP hD hS ez9 (fun ls H locs hl hP hD hS => ?_)
        refine lv_iload_n hx hb dX5_part_56 rfl (lv_at hl 0 rfl) ?_
        obtain rfl := e_s h
        exact hret hP hS rfl dX5_part_57
      · have h := e_f c5 h
        refine lv_bipush (v := (-2)) hx hb dX5_part_30 (by decide) ?_
        obtain rfl := e_s h
        exact hret hP hS rfl dX5_part_32
    · have h := e_f (not_not_intro c4) h
      refine lv_iload_n hx hb dX5_part_23 rfl (lv_at hl 0 rfl) ?_
      obtain rfl := e_s h
      exact hret hP hS rfl dX5_part_24
  · have h := e_f c1 h
    refine lv_iconst (v := (-1)) hx hb dX5_part_5 (by decide) ?_
    obtain rfl := e_s h
    exact hret hP hS rfl dX5_part_6
set_option maxHeartbeats 4000000 in
set_option maxRecDepth 100000 in
theorem kX5_count (l : Launch) (D : va_G) (cA : Nat → ClassId) (ad : Nat → Nat) (block : Int32) (ties : Int32) (lines : Int32) (pmn : Int32) (tape : TapT) (row : RowT) (past : PasT) (tally : TalT) (x1 : Int32) (q : Int32 × TalT) (h : mX5_count block ties lines tape row past tally x1 = some q) : MI l yX5_count wsX5_count { frames := 3, cells := 0, slots := 0, locals := 66 } D cA .int [.ref (ad 0), .int x1] (wD_tape_row_past_tally cA ad block ties lines pmn tape row past tally) (wD_tape_row_past_tally cA ad block ties lines pmn tape row past q.2) q.1 := by
  refine MI.of (cc := cX5_count) (maxL := 2) (by decide +kernel) rfl rfl rfl (Nat.le_of_ble_eq_true rfl) ?_
  intro p e s m args below meth c A ls Q hx hb hml hts hown hK hP hD hA hS hl hret
  have hl : lv_has ls 2 [(0, .ref (ad 0)), (1, .int x1)] := hl
  have f10 := hts (.fieldLink RX5 10 "ModeDesk" "tape" "LModeDesk$Tape;") (by decide +kernel)
  have f135 := hts (.fieldLink RX5 135 "ModeDesk$Row" "size" "I") (by decide +kernel)
  have f182 := hts (.fieldLink RX5 182 "ModeDesk$Tally" "kinds" "I") (by decide +kernel)
  have f26 := hts (.fieldLink RX5 26 "ModeDesk" "row" "LModeDesk$Row;") (by decide +kernel)
  have f36 := hts (.fieldLink RX5 36 "ModeDesk" "past" "LModeDesk$Past;") (by decide +kernel)
  have f43 := hts (.fieldLink RX5 43 "ModeDesk" "tally" "LModeDesk$Tally;") (by decide +kernel)
  have f54 := hts (.fieldLink RX5 54 "ModeDesk" "block" "I") (by decide +kernel)
  have f58 := hts (.fieldLink RX5 58 "ModeDesk" "ties" "I") (by decide +kernel)
  have f61 := hts (.fieldLink RX5 61 "ModeDesk" "lines" "I") (by decide +kernel)
  have f67 := hts (.fieldLink RX5 67 "ModeDesk$Tape" "fed" "I") (by decide +kernel)
  have f86 := hts (.fieldLink RX5 86 "ModeDesk$Past" "held" "I") (by decide +kernel)
  have iX0 : ∀ w ∈ wsX00, w ∈ wsX5_count := by decide +kernel
  have iX2 : ∀ w ∈ wsX20, w ∈ wsX5_count := by decide +kernel
  have iX3 : ∀ w ∈ wsX30, w ∈ wsX5_count := by decide +kernel
  have iX4 : ∀ w ∈ wsX40, w ∈ wsX5_count := by decide +kernel
  have iX5 : ∀ w ∈ wsX50, w ∈ wsX5_count := by decide +kernel
  unfold mX5_count at h
  refine lv_iload_n hx hb dX5_count_0 rfl (lv_at hl 1 rfl) ?_
  by_cases c1 : x1 = 0
  · have h := e_t c1 h
    refine lv_tableIn (off := 51) (tgt := 52) hx hb dX5_count_1 (by rw [c1]; decide) (by rw [c1]; decide) (by rw [c1]; rfl) (by decide) ?_
    refine lv_aload_n hx hb dX5_count_52 rfl (lv_at hl 0 rfl) ?_
    refine va_get (D := D) (ci := 5) (v := .ref (ad 7)) (C := RX5) (T := TX5) (N := 12) hx hb hts iX5 hown hK hP 0 rfl rfl 2 (Nat.le_of_ble_eq_true rfl) f26 (fun _ h9 => h9) rfl dX5_count_53 ?_
    refine va_get (D := D) (ci := 2) (v := .int row.2.2) (C := RX2) (T := TX2) (N := 3) hx hb hts iX2 hown hK hP 3 rfl rfl 2 (Nat.le_of_ble_eq_true rfl) f135 (fun _ h9 => h9) rfl dX5_count_56 ?_
    obtain rfl := e_s h
    exact hret hP hS rfl dX5_count_59
  have h := e_f c1 h
  by_cases c2 : x1 = 1
  · have h := e_t c2 h
    refine lv_tableIn (off := 59) (tgt := 60) hx hb dX5_count_1 (by rw [c2]; decide) (by rw [c2]; decide) (by rw [c2]; rfl) (by decide) ?_
    refine lv_aload_n hx hb dX5_count_60 rfl (lv_at hl 0 rfl) ?_
    refine va_get (D := D) (ci := 5) (v := .int block) (C := RX5) (T := TX5) (N := 12) hx hb hts iX5 hown hK hP 0 rfl rfl 8 (Nat.le_of_ble_eq_true rfl) f54 (fun _ h9 => h9) rfl dX5_count_61 ?_
    obtain rfl := e_s h
    exact hret hP hS rfl dX5_count_64
  have h := e_f c2 h
  by_cases c4 : x1 = 2
  · have h := e_t c4 h
    refine lv_tableIn (off := 64) (tgt := 65) hx hb dX5_count_1 (by rw [c4]; decide) (by rw [c4]; decide) (by rw [c4]; rfl) (by decide) ?_
    refine lv_aload_n hx hb dX5_count_65 rfl (lv_at hl 0 rfl) ?_
    refine lv_aload_n hx hb dX5_count_66 rfl (lv_at hl 0 rfl) ?_
    refine va_get (D := D) (ci := 5) (v := .ref (ad 7)) (C := RX5) (T := TX5) (N := 12) hx hb hts iX5 hown hK hP 0 rfl rfl 2 (Nat.le_of_ble_eq_true rfl) f26 (fun _ h9 => h9) rfl dX5_count_67 ?_
    obtain ⟨q3, eq3, h⟩ := e_b h
    refine xv_i (As := [.ref (ad 7)]) (rest := []) (ci := 5) (b := ad 0) ⟨hx, hb, hml, hown, hts⟩ hl.1 (kX5_blocksOf l D cA ad (fun i => ad (7 + i)) block ties lines pmn row   _ eq3) (cwV 1 hts gX5_count_X5_blocksOf rfl rfl rfl (by decide +kernel) ⟨Nat.le_of_ble_eq_true rfl, Nat.le_of_ble_eq_true rfl⟩) rfl hK hP hD hS hA 0 rfl rfl rfl [0, 3, 4, 5] rfl (by decide +kernel) rfl (Nat.le_of_ble_eq_true rfl) dX5_count_70 ⟨Nat.zero_le _, Nat.zero_le _⟩ (fun H locs hP hD hS hnq3 => ?_)
    have hP : va_P D vwCl (wD_tape_row_past_tally cA ad block ties lines pmn tape row past tally) H := hP
    have hD : va_D A (wD_tape_row_past_tally cA ad block ties lines pmn tape row past tally) := hD
    obtain rfl := e_s h
    exact hret hP hS rfl dX5_count_73
  have h := e_f c4 h
  by_cases c5 : x1 = 3
  · have h := e_t c5 h
    refine lv_tableIn (off := 73) (tgt := 74) hx hb dX5_count_1 (by rw [c5]; decide) (by rw [c5]; decide) (by rw [c5]; rfl) (by decide) ?_
    refine lv_aload_n hx hb dX5_count_74 rfl (lv_at hl 0 rfl) ?_
    refine va_get (D := D) (ci := 5) (v := .int ties) (C := RX5) (T := TX5) (N := 12) hx hb hts iX5 hown hK hP 0 rfl rfl 9 (Nat.le_of_ble_eq_true rfl) f58 (fun _ h9 => h9) rfl dX5_count_75 ?_
    obtain rfl := e_s h
    exact hret hP hS rfl dX5_count_78
  have h := e_f c5 h
  by_cases c6 : x1 = 4
  · have h := e_t c6 h
    refine lv_tableIn (off := 78) (tgt := 79) hx hb dX5_count_1 (by rw [c6]; decide) (by rw [c6]; decide) (by rw [c6]; rfl) (by decide) ?_
    refine lv_aload_n hx hb dX5_count_79 rfl (lv_at hl 0 rfl) ?_
    refine va_get (D := D) (ci := 5) (v := .int lines) (C := RX5) (T := TX5) (N := 12) hx hb hts iX5 hown hK hP 0 rfl rfl 10 (Nat.le_of_ble_eq_true rfl) f61 (fun _ h9 => h9) rfl dX5_count_80 ?_
    obtain rfl := e_s h
    exact hret hP hS rfl dX5_count_83
  have h := e_f c6 h
  by_cases c8 : x1 = 5
  · have h := e_t c8 h
    refine lv_tableIn (off := 83) (tgt := 84) hx hb dX5_count_1 (by rw [c8]; decide) (by rw [c8]; decide) (by rw [c8]; rfl) (by decide) ?_
    refine lv_aload_n hx hb dX5_count_84 rfl (lv_at hl 0 rfl) ?_
    refine lv_iconst (v := 0) hx hb dX5_count_85 (by decide) ?_
    refine lv_aload_n hx hb dX5_count_86 rfl (lv_at hl 0 rfl) ?_
    refine va_get (D := D) (ci := 5) (v := .ref (ad 7)) (C := RX5) (T := TX5) (N := 12) hx hb hts iX5 hown hK hP 0 rfl rfl 2 (Nat.le_of_ble_eq_true rfl) f26 (fun _ h9 => h9) rfl dX5_count_87 ?_
    refine va_get (D := D) (ci := 2) (v := .int row.2.2) (C := RX2) (T := TX2) (N := 3) hx hb hts iX2 hown hK hP 3 rfl rfl 2 (Nat.le_of_ble_eq_true rfl) f135 (fun _ h9 => h9) rfl dX5_count_90 ?_
    refine lv_iconst (v := 1) hx hb dX5_count_93 (by decide) ?_
    refine lv_isub hx hb dX5_count_94 ?_
    obtain ⟨q7, eq7, h⟩ := e_b h
    refine xv_v (As := [.int 0, .int (row.2.2 - 1)]) (rest := []) (ci := 5) (b := ad 0) ⟨hx, hb, hml, hown, hts⟩ hl.1 (kX5_tallySpan l D cA ad block ties lines pmn row tally 0 (row.2.2 - 1)  _ eq7) (cwV 2 hts gX5_count_X5_tallySpan rfl rfl rfl (by decide +kernel) ⟨Nat.le_of_ble_eq_true rfl, Nat.le_of_ble_eq_true rfl⟩) rfl hK hP hD hS hA 0 rfl rfl rfl [0, 3, 4, 5, 44, 45, 46, 47, 48] rfl (by decide +kernel) rfl (Nat.le_of_ble_eq_true rfl) dX5_count_95 ⟨Nat.zero_le _, Nat.zero_le _⟩ (fun H locs hP hD hS => ?_)
    have hP : va_P D vwCl (wD_tape_row_past_tally cA ad block ties lines pmn tape row past q7) H := hP
    have hD : va_D A (wD_tape_row_past_tally cA ad block ties lines pmn tape row past q7) := hD
    refine lv_aload_n hx hb dX5_count_98 rfl (lv_at hl 0 rfl) ?_
    refine va_get (D := D) (ci := 5) (v := .ref (ad 51)) (C := RX5) (T := TX5) (N := 12) hx hb hts iX5 hown hK hP 0 rfl rfl 5 (Nat.le_of_ble_eq_true rfl) f43 (fun _ h9 => h9) rfl dX5_count_99 ?_
    refine va_get (D := D) (ci := 3) (v := .int q7.2.2.2.2.1) (C := RX3) (T := TX3) (N := 8) hx hb hts iX3 hown hK hP 44 rfl rfl 4 (Nat.le_of_ble_eq_true rfl) f182 (fun _ h9 => h9) rfl dX5_count_102 ?_
    obtain rfl := e_s h
    exact hret hP hS rfl dX5_count_105
  have h := e_f c8 h
  by_cases c9 : x1 = 6
  · have h := e_t c9 h
    refine lv_tableIn (off := 105) (tgt := 106) hx hb dX5_count_1 (by rw [c9]; decide) (by rw [c9]; decide) (by rw [c9]; rfl) (by decide) ?_
    refine lv_aload_n hx hb dX5_count_106 rfl (lv_at hl 0 rfl) ?_
    refine va_get (D := D) (ci := 5) (v := .ref (ad 13)) (C := RX5) (T := TX5) (N := 12) hx hb hts iX5 hown hK hP 0 rfl rfl 4 (Nat.le_of_ble_eq_true rfl) f36 (fun _ h9 => h9) rfl dX5_count_107 ?_
    refine va_get (D := D) (ci := 0) (v := .int past.2.1) (C := RX0) (T := TX0) (N := 3) hx hb hts iX0 hown hK hP 6 rfl rfl 1 (Nat.le_of_ble_eq_true rfl) f86 (fun _ h9 => h9) rfl dX5_count_110 ?_
    obtain rfl := e_s h
    exact hret hP hS rfl dX5_count_113
  have h := e_f c9 h
  by_cases c11 : x1 = 7
  · have h := e_t c11 h
    refine lv_tableIn (off := 113) (tgt := 114) hx hb dX5_count_1 (by rw [c11]; decide) (by rw [c11]; decide) (by rw [c11]; rfl) (by decide) ?_
    refine lv_aload_n hx hb dX5_count_114 rfl (lv_at hl 0 rfl) ?_
    refine va_get (D := D) (ci := 5) (v := .ref (ad 7)) (C := RX5) (T := TX5) (N := 12) hx hb hts iX5 hown hK hP 0 rfl rfl 2 (Nat.le_of_ble_eq_true rfl) f26 (fun _ h9 => h9) rfl dX5_count_115 ?_
    obtain ⟨q10, eq10, h⟩ := e_b h
    refine xv_i (As := []) (rest := []) (ci := 2) (b := ad 7) ⟨hx, hb, hml, hown, hts⟩ hl.1 (kX2_allWeights l D cA (fun i => ad (7 + i)) row   _ eq10) (cwV 0 hts gX5_count_X2_allWeights rfl rfl rfl (by decide +kernel) ⟨Nat.le_of_ble_eq_true rfl, Nat.le_of_ble_eq_true rfl⟩) rfl hK hP hD hS hA 3 rfl rfl rfl [3, 4, 5] rfl (by decide +kernel) rfl (Nat.le_of_ble_eq_true rfl) dX5_count_118 ⟨Nat.zero_le _, Nat.zero_le _⟩ (fun H locs hP hD hS hnq10 => ?_)
    have hP : va_P D vwCl (wD_tape_row_past_tally cA ad block ties lines pmn tape row past tally) H := hP
    have hD : va_D A (wD_tape_row_past_tally cA ad block ties lines pmn tape row past tally) := hD
    obtain rfl := e_s h
    exact hret hP hS rfl dX5_count_121
  have h := e_f c11 h
  by_cases c12 : x1 = 8
  · have h := e_t c12 h
    refine lv_tableIn (off := 121) (tgt := 122) hx hb dX5_count_1 (by rw [c12]; decide) (by rw [c12]; decide) (by rw [c12]; rfl) (by decide) ?_
    refine lv_aload_n hx hb dX5_count_122 rfl (lv_at hl 0 rfl) ?_
    refine va_get (D := D) (ci := 5) (v := .ref (ad 1)) (C := RX5) (T := TX5) (N := 12) hx hb hts iX5 hown hK hP 0 rfl rfl 0 (Nat.le_of_ble_eq_true rfl) f10 (fun _ h9 => h9) rfl dX5_count_123 ?_
    refine va_get (D := D) (ci := 4) (v := .int tape.2.1) (C := RX4) (T := TX4) (N := 7) hx hb hts iX4 hown hK hP 1 rfl rfl 1 (Nat.le_of_ble_eq_true rfl) f67 (fun _ h9 => h9) rfl dX5_count_126 ?_
    obtain rfl := e_s h
    exact hret hP hS rfl dX5_count_129
  have h := e_f c12 h
  refine lv_tableOut (tgt := 130) hx hb dX5_count_1 (sw_out 8 (fun k hk => by match k, hk with | 0, _ => exact c1 | 1, _ => exact c2 | 2, _ => exact c4 | 3, _ => exact c5 | 4, _ => exact c6 | 5, _ => exact c8 | 6, _ => exact c9 | 7, _ => exact c11 | 8, _ => exact c12 | (n + 9), hk => exact absurd hk (by omega)) (by decide)) (by decide) ?_
  refine lv_iconst (v := (-1)) hx hb dX5_count_130 (by decide) ?_
  obtain rfl := e_s h
  exact hret hP hS rfl dX5_count_131

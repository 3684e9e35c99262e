set_option maxHeartbeats 4000000 in
set_option maxRecDepth 100000 in
theorem kX5_was (l : Launch) (D : va_G) (cA : Nat → ClassId) (ad : Nat → Nat) (block : Int32) (ties : Int32) (lines : Int32) (pmn : Int32) (row : RowT) (past : PasT) (x1 : Int32) (x2 : Int32) (q : Int32) (h : mX5_was row past x1 x2 = some q) : MI l yX5_was wsX5_was { frames := 2, cells := 0, slots := 0, locals := 45 } D cA .int [.ref (ad 0), .int x1, .int x2] (wD_row_past cA ad block ties lines pmn row past) (wD_row_past cA ad block ties lines pmn row past) q := by
  refine MI.of (cc := cX5_was) (maxL := 4) (by decide +kernel) rfl rfl rfl (Nat.le_of_ble_eq_true rfl) ?_
  intro p e s m args below meth c A ls Q hx hb hml hts hown hK hP hD hA hS hl hret
  have hl : lv_has ls 4 [(0, .ref (ad 0)), (1, .int x1), (2, .int x2)] := hl
  have f106 := hts (.fieldLink RX5 106 "ModeDesk$Row" "values" "[I") (by decide +kernel)
  have f26 := hts (.fieldLink RX5 26 "ModeDesk" "row" "LModeDesk$Row;") (by decide +kernel)
  have f36 := hts (.fieldLink RX5 36 "ModeDesk" "past" "LModeDesk$Past;") (by decide +kernel)
  have f86 := hts (.fieldLink RX5 86 "ModeDesk$Past" "held" "I") (by decide +kernel)
  have iX0 : ∀ w ∈ wsX00, w ∈ wsX5_was := by decide +kernel
  have iX2 : ∀ w ∈ wsX20, w ∈ wsX5_was := by decide +kernel
  have iX5 : ∀ w ∈ wsX50, w ∈ wsX5_was := by decide +kernel
  unfold mX5_was at h
  refine lv_iload_n hx hb dX5_was_0 rfl (lv_at hl 1 rfl) ?_
  refine lv_if_lt (tgt := 19) hx hb dX5_was_1 (by decide) (fun c1 => ?_) (fun c1 => ?_)
  · have h := e_t c1 h
    refine lv_iconst (v := (-1)) hx hb dX5_was_19 (by decide) ?_
    obtain rfl := e_s h
    exact hret hP hS rfl dX5_was_20
  · have h := e_f c1 h
    refine lv_iload_n hx hb dX5_was_4 rfl (lv_at hl 1 rfl) ?_
    refine lv_aload_n hx hb dX5_was_5 rfl (lv_at hl 0 rfl) ?_
    refine va_get (D := D) (ci := 5) (v := .ref (ad 13)) (C := RX5) (T := TX5) (N := 12) hx hb hts iX5 hown hK hP 0 rfl rfl 4 (Nat.le_of_ble_eq_true rfl) f36 (fun _ h9 => h9) rfl dX5_was_6 ?_
    refine va_get (D := D) (ci := 0) (v := .int past.2.1) (C := RX0) (T := TX0) (N := 3) hx hb hts iX0 hown hK hP 4 rfl rfl 1 (Nat.le_of_ble_eq_true rfl) f86 (fun _ h9 => h9) rfl dX5_was_9 ?_
    refine lv_icmp_gt (tgt := 19) hx hb dX5_was_12 (by decide) (fun c2 => ?_) (fun c2 => ?_)
    · have h := e_t c2 h
      refine lv_iconst (v := (-1)) hx hb dX5_was_19 (by decide) ?_
      obtain rfl := e_s h
      exact hret hP hS rfl dX5_was_20
    · have h := e_f c2 h
      refine lv_iload_n hx hb dX5_was_15 rfl (lv_at hl 2 rfl) ?_
      refine lv_if_ge (tgt := 21) hx hb dX5_was_16 (by decide) (fun c3 => ?_) (fun c3 => ?_)
      · have h := e_t c3 h
        refine lv_iload_n hx hb dX5_was_21 rfl (lv_at hl 1 rfl) ?_
        refine lv_if_ne (tgt := 32) hx hb dX5_was_22 (by decide) (fun c4 => ?_) (fun c4 => ?_)
        · have h := e_t c4 h
          refine lv_aload_n hx hb dX5_was_32 rfl (lv_at hl 0 rfl) ?_
          refine va_get (D := D) (ci := 5) (v := .ref (ad 13)) (C := RX5) (T := TX5) (N := 12) hx hb hts iX5 hown hK hP 0 rfl rfl 4 (Nat.le_of_ble_eq_true rfl) f36 (fun _ h9 => h9) rfl dX5_was_33 ?_
          refine lv_iload_n hx hb dX5_was_36 rfl (lv_at hl 1 rfl) ?_
          obtain ⟨q5, eq5, h⟩ := e_b h
          refine xv_r (As := [.int x1]) (rest := []) (ci := 0) (b := ad 13) ⟨hx, hb, hml, hown, hts⟩ hl.1 (kX0_ago l D cA (fun i => ad (13 + i)) past x1  _ eq5) (cwV 1 hts gX5_was_X0_ago rfl rfl rfl (by decide +kernel) ⟨Nat.le_of_ble_eq_true rfl, Nat.le_of_ble_eq_true rfl⟩) rfl hK hP hD hS hA 4 rfl rfl rfl [4, 5, 6, 7, 8, 9, 10, 11, 12, 13, 14, 15, 16, 17, 18, 19, 20, 21, 22, 23, 24, 25, 26, 27, 28, 29, 30, 31, 32, 33, 34, 35, 36, 37, 38, 39, 40, 41] rfl (by decide +kernel) rfl (Nat.le_of_ble_eq_true rfl) dX5_was_37 ⟨Nat.zero_le _, Nat.zero_le _⟩ (fun H locs hP hD hS => ?_)
          have hP : va_P D vwCl (wD_row_past cA ad block ties lines pmn row past) H := hP
          have hD : va_D A (wD_row_past cA ad block ties lines pmn row past) := hD
          obtain hjq5 := k12 (mX0_ago_lt eq5)
          rcases hjq5 with rfl | hjq5
          · refine lv_astore_n (lv' := [(3, .ref (ad 15)), (0, .ref (ad 0)), (1, .int x1), (2, .int x2)]) hx hb dX5_was_40 rfl hl (by decide) rfl (fun ls hl => ?_)
            refine lv_aload_n hx hb dX5_was_41 rfl (lv_at hl 0 rfl) ?_
            refine lv_iload_n hx hb dX5_was_42 rfl (lv_at hl 3 rfl) ?_
            obtain ⟨q6, eq6, h⟩ := e_b h
            refine xv_i (As := [.int x2]) (rest := []) (ci := 2) (b := ad 15) ⟨hx, hb, hml, hown, hts⟩ hl.1 (kX2_has l D cA (fun i => ad (15 + i)) (past.1 0) x2  _ eq6) (cwV 1 hts gX5_was_X2_has rfl rfl rfl (by decide +kernel) ⟨Nat.le_of_ble_eq_true rfl, Nat.le_of_ble_eq_true rfl⟩) rfl hK hP hD hS hA 6 rfl rfl rfl [6, 7, 8] rfl (by decide +kernel) rfl (Nat.le_of_ble_eq_true rfl) dX5_was_43 ⟨Nat.zero_le _, Nat.zero_le _⟩ (fun H locs hP hD hS hnq6 => ?_)
            have hP : va_P D vwCl (wD_row_past cA ad block ties lines pmn row past) H := hP
            have hD : va_D A (wD_row_past cA ad block ties lines pmn row past) := hD
            refine lv_if_eq (tgt := 58) hx hb dX5_was_46 (by decide) (fun c7 => ?_) (fun c7 => ?_)
            · have h := e_t c7 h
              refine lv_bipush (v := (-2)) hx hb dX5_was_58 (by decide) ?_
              obtain rfl := e_s h
              exact hret hP hS rfl dX5_was_60
            · have h := e_f c7 h
              refine lv_aload_n hx hb dX5_was_49 rfl (lv_at hl 0 rfl) ?_
              refine va_get (D := D) (ci := 2) (v := .ref (ad 16)) (C := RX2) (T := TX2) (N := 3) hx hb hts iX2 hown hK hP 6 rfl rfl 0 (Nat.le_of_ble_eq_true rfl) f106 (fun _ h9 => h9) rfl dX5_was_50 ?_
              refine lv_iload_n hx hb dX5_was_53 rfl (lv_at hl 3 rfl) ?_
              obtain ⟨v8, ev8, nv8, h⟩ := e_rd h
              refine xa_iald hx hb hK hP 7 rfl nv8 ev8 dX5_was_54 ?_
              refine lv_goto (tgt := 60) hx hb dX5_was_55 (by decide) ?_
              obtain rfl := e_s h
              exact hret hP hS rfl dX5_was_60
          rcases hjq5 with rfl | hjq5
          · refine lv_astore_n (lv' := [(3, .ref (ad 18)), (0, .ref (ad 0)), (1, .int x1), (2, .int x2)]) hx hb dX5_was_40 rfl hl (by decide) rfl (fun ls hl => ?_)
            refine lv_aload_n hx hb dX5_was_41 rfl (lv_at hl 0 rfl) ?_
            refine lv_iload_n hx hb dX5_was_42 rfl (lv_at hl 3 rfl) ?_
            obtain ⟨q6, eq6, h⟩ := e_b h
            refine xv_i (As := [.int x2]) (rest := []) (ci := 2) (b := ad 18) ⟨hx, hb, hml, hown, hts⟩ hl.1 (kX2_has l D cA (fun i => ad (18 + i)) (past.1 1) x2  _ eq6) (cwV 1 hts gX5_was_X2_has rfl rfl rfl (by decide +kernel) ⟨Nat.le_of_ble_eq_true rfl, Nat.le_of_ble_eq_true rfl⟩) rfl hK hP hD hS hA 9 rfl rfl rfl [9, 10, 11] rfl (by decide +kernel) rfl (Nat.le_of_ble_eq_true rfl) dX5_was_43 ⟨Nat.zero_le _, Nat.zero_le _⟩ (fun H locs hP hD hS hnq6 => ?_)
            have hP : va_P D vwCl (wD_row_past cA ad block ties lines pmn row past) H := hP
            have hD : va_D A (wD_row_past cA ad block ties lines pmn row past) := hD
            refine lv_if_eq (tgt := 58) hx hb dX5_was_46 (by decide) (fun c7 => ?_) (fun c7 => ?_)
            · have h := e_t c7 h
              refine lv_bipush (v := (-2)) hx hb dX5_was_58 (by decide) ?_
              obtain rfl := e_s h
              exact hret hP hS rfl dX5_was_60
            · have h := e_f c7 h
              refine lv_aload_n hx hb dX5_was_49 rfl (lv_at hl 0 rfl) ?_
              refine va_get (D := D) (ci := 2) (v := .ref (ad 19)) (C := RX2) (T := TX2) (N := 3) hx hb hts iX2 hown hK hP 9 rfl rfl 0 (Nat.le_of_ble_eq_true rfl) f106 (fun _ h9 => h9) rfl dX5_was_50 ?_
              refine lv_iload_n hx hb dX5_was_53 rfl (lv_at hl 3 rfl) ?_
              obtain ⟨v8, ev8, nv8, h⟩ := e_rd h
              refine xa_iald hx hb hK hP 10 rfl nv8 ev8 dX5_was_54 ?_
              refine lv_goto (tgt := 60) hx hb dX5_was_55 (by decide) ?_
              obtain rfl := e_s h
              exact hret hP hS rfl dX5_was_60
          rcases hjq5 with rfl | hjq5
          · refine lv_astore_n (lv' := [(3, .ref (ad 21)), (0, .ref (ad 0)), (1, .int x1), (2, .int x2)]) hx hb dX5_was_40 rfl hl (by decide) rfl (fun ls hl => ?_)
            refine lv_aload_n hx hb dX5_was_41 rfl (lv_at hl 0 rfl) ?_
            refine lv_iload_n hx hb dX5_was_42 rfl (lv_at hl 3 rfl) ?_
            obtain ⟨q6, eq6, h⟩ := e_b h
            refine xv_i (As := [.int x2]) (rest := []) (ci := 2) (b := ad 21) ⟨hx, hb, hml, hown, hts⟩ hl.1 (kX2_has l D cA (fun i => ad (21 + i)) (past.1 2) x2  _ eq6) (cwV 1 hts gX5_was_X2_has rfl rfl rfl (by decide +kernel) ⟨Nat.le_of_ble_eq_true rfl, Nat.le_of_ble_eq_true rfl⟩) rfl hK hP hD hS hA 12 rfl rfl rfl [12, 13, 14] rfl (by decide +kernel) rfl (Nat.le_of_ble_eq_true rfl) dX5_was_43 ⟨Nat.zero_le _, Nat.zero_le _⟩ (fun H locs hP hD hS hnq6 => ?_)
            have hP : va_P D vwCl (wD_row_past cA ad block ties lines pmn row past) H := hP
            have hD : va_D A (wD_row_past cA ad block ties lines pmn row past) := hD
            refine lv_if_eq (tgt := 58) hx hb dX5_was_46 (by decide) (fun c7 => ?_) (fun c7 => ?_)
            · have h := e_t c7 h
              refine lv_bipush (v := (-2)) hx hb dX5_was_58 (by decide) ?_
              obtain rfl := e_s h
              exact hret hP hS rfl dX5_was_60
            · have h := e_f c7 h
              refine lv_aload_n hx hb dX5_was_49 rfl (lv_at hl 0 rfl) ?_
              refine va_get (D := D) (ci := 2) (v := .ref (ad 22)) (C := RX2) (T := TX2) (N := 3) hx hb hts iX2 hown hK hP 12 rfl rfl 0 (Nat.le_of_ble_eq_true rfl) f106 (fun _ h9 => h9) rfl dX5_was_50 ?_
              refine lv_iload_n hx hb dX5_was_53 rfl (lv_at hl 3 rfl) ?_
              obtain ⟨v8, ev8, nv8, h⟩ := e_rd h
              refine xa_iald hx hb hK hP 13 rfl nv8 ev8 dX5_was_54 ?_
              refine lv_goto (tgt := 60) hx hb dX5_was_55 (by decide) ?_
              obtain rfl := e_s h
              exact hret hP hS rfl dX5_was_60
          rcases hjq5 with rfl | hjq5
          · refine lv_astore_n (lv' := [(3, .ref (ad 24)), (0, .ref (ad 0)), (1, .int x1), (2, .int x2)]) hx hb dX5_was_40 rfl hl (by decide) rfl (fun ls hl => ?_)
            refine lv_aload_n hx hb dX5_was_41 rfl (lv_at hl 0 rfl) ?_
            refine lv_iload_n hx hb dX5_was_42 rfl (lv_at hl 3 rfl) ?_
            obtain ⟨q6, eq6, h⟩ := e_b h
            refine xv_i (As := [.int x2]) (rest := []) (ci := 2) (b := ad 24) ⟨hx, hb, hml, hown, hts⟩ hl.1 (kX2_has l D cA (fun i => ad (24 + i)) (past.1 3) x2  _ eq6) (cwV 1 hts gX5_was_X2_has rfl rfl rfl (by decide +kernel) ⟨Nat.le_of_ble_eq_true rfl, Nat.le_of_ble_eq_true rfl⟩) rfl hK hP hD hS hA 15 rfl rfl rfl [15, 16, 17] rfl (by decide +kernel) rfl (Nat.le_of_ble_eq_true rfl) dX5_was_43 ⟨Nat.zero_le _, Nat.zero_le _⟩ (fun H locs hP hD hS hnq6 => ?_)
            have hP : va_P D vwCl (wD_row_past cA ad block ties lines pmn row past) H := hP
            have hD : va_D A (wD_row_past cA ad block ties lines pmn row past) := hD
            refine lv_if_eq (tgt := 58) hx hb dX5_was_46 (by decide) (fun c7 => ?_) (fun c7 => ?_)
            · have h := e_t c7 h
              refine lv_bipush (v := (-2)) hx hb dX5_was_58 (by decide) ?_
              obtain rfl := e_s h
              exact hret hP hS rfl dX5_was_60
            · have h := e_f c7 h
              refine lv_aload_n hx hb dX5_was_49 rfl (lv_at hl 0 rfl) ?_
              refine va_get (D := D) (ci := 2) (v := .ref (ad 25)) (C := RX2) (T := TX2) (N := 3) hx hb hts iX2 hown hK hP 15 rfl rfl 0 (Nat.le_of_ble_eq_true rfl) f106 (fun _ h9 => h9) rfl dX5_was_50 ?_
              refine lv_iload_n hx hb dX5_was_53 rfl (lv_at hl 3 rfl) ?_
              obtain ⟨v8, ev8, nv8, h⟩ := e_rd h
              refine xa_iald hx hb hK hP 16 rfl nv8 ev8 dX5_was_54 ?_
              refine lv_goto (tgt := 60) hx hb dX5_was_55 (by decide) ?_
              obtain rfl := e_s h
              exact hret hP hS rfl dX5_was_60
          rcases hjq5 with rfl | hjq5
          · refine lv_astore_n (lv' := [(3, .ref (ad 27)), (0, .ref (ad 0)), (1, .int x1), (2, .int x2)]) hx hb dX5_was_40 rfl hl (by decide) rfl (fun ls hl => ?_)
            refine lv_aload_n hx hb dX5_was_41 rfl (lv_at hl 0 rfl) ?_
            refine lv_iload_n hx hb dX5_was_42 rfl (lv_at hl 3 rfl) ?_
            obtain ⟨q6, eq6, h⟩ := e_b h
            refine xv_i (As := [.int x2]) (rest := []) (ci := 2) (b := ad 27) ⟨hx, hb, hml, hown, hts⟩ hl.1 (kX2_has l D cA (fun i => ad (27 + i)) (past.1 4) x2  _ eq6) (cwV 1 hts gX5_was_X2_has rfl rfl rfl (by decide +kernel) ⟨Nat.le_of_ble_eq_true rfl, Nat.le_of_ble_eq_true rfl⟩) rfl hK hP hD hS hA 18 rfl rfl rfl [18, 19, 20] rfl (by decide +kernel) rfl (Nat.le_of_ble_eq_true rfl) dX5_was_43 ⟨Nat.zero_le _, Nat.zero_le _⟩ (fun H locs hP hD hS hnq6 => ?_)
            have hP : va_P D vwCl (wD_row_past cA ad block ties lines pmn row past) H := hP
            have hD : va_D A (wD_row_past cA ad block ties lines pmn row past) := hD
            refine lv_if_eq (tgt := 58) hx hb dX5_was_46 (by decide) (fun c7 => ?_) (fun c7 => ?_)
            · have h := e_t c7 h
              refine lv_bipush (v := (-2)) hx hb dX5_was_58 (by decide) ?_
              obtain rfl := e_s h
              exact hret hP hS rfl dX5_was_60
            · have h := e_f c7 h
              refine lv_aload_n hx hb dX5_was_49 rfl (lv_at hl 0 rfl) ?_
              refine va_get (D := D) (ci := 2) (v := .ref (ad 28)) (C := RX2) (T := TX2) (N := 3) hx hb hts iX2 hown hK hP 18 rfl rfl 0 (Nat.le_of_ble_eq_true rfl) f106 (fun _ h9 => h9) rfl dX5_was_50 ?_
              refine lv_iload_n hx hb dX5_was_53 rfl (lv_at hl 3 rfl) ?_
              obtain ⟨v8, ev8, nv8, h⟩ := e_rd h
              refine xa_iald hx hb hK hP 19 rfl nv8 ev8 dX5_was_54 ?_
              refine lv_goto (tgt := 60) hx hb dX5_was_55 (by decide) ?_
              obtain rfl := e_s h
              exact hret hP hS rfl dX5_was_60
          rcases hjq5 with rfl | hjq5
          · refine lv_astore_n (lv' := [(3, .ref (ad 30)), (0, .ref (ad 0)), (1, .int x1), (2, .int x2)]) hx hb dX5_was_40 rfl hl (by decide) rfl (fun ls hl => ?_)
            refine lv_aload_n hx hb dX5_was_41 rfl (lv_at hl 0 rfl) ?_
            refine lv_iload_n hx hb dX5_was_42 rfl (lv_at hl 3 rfl) ?_
            obtain ⟨q6, eq6, h⟩ := e_b h
            refine xv_i (As := [.int x2]) (rest := []) (ci := 2) (b := ad 30) ⟨hx, hb, hml, hown, hts⟩ hl.1 (kX2_has l D cA (fun i => ad (30 + i)) (past.1 5) x2  _ eq6) (cwV 1 hts gX5_was_X2_has rfl rfl rfl (by decide +kernel) ⟨Nat.le_of_ble_eq_true rfl, Nat.le_of_ble_eq_true rfl⟩) rfl hK hP hD hS hA 21 rfl rfl rfl [21, 22, 23] rfl (by decide +kernel) rfl (Nat.le_of_ble_eq_true rfl) dX5_was_43 ⟨Nat.zero_le _, Nat.zero_le _⟩ (fun H locs hP hD hS hnq6 => ?_)
            have hP : va_P D vwCl (wD_row_past cA ad block ties lines pmn row past) H := hP
            have hD : va_D A (wD_row_past cA ad block ties lines pmn row past) := hD
            refine lv_if_eq (tgt := 58) hx hb dX5_was_46 (by decide) (fun c7 => ?_) (fun c7 => ?_)
            · have h := e_t c7 h
              refine lv_bipush (v := (-2)) hx hb dX5_was_58 (by decide) ?_
              obtain rfl := e_s h
              exact hret hP hS rfl dX5_was_60
            · have h := e_f c7 h
              refine lv_aload_n hx hb dX5_was_49 rfl (lv_at hl 0 rfl) ?_
              refine va_get (D := D) (ci := 2) (v := .ref (ad 31)) (C := RX2) (T := TX2) (N := 3) hx hb hts iX2 hown hK hP 21 rfl rfl 0 (Nat.le_of_ble_eq_true rfl) f106 (fun _ h9 => h9) rfl dX5_was_50 ?_
              refine lv_iload_n hx hb dX5_was_53 rfl (lv_at hl 3 rfl) ?_
              obtain ⟨v8, ev8, nv8, h⟩ := e_rd h
              refine xa_iald hx hb hK hP 22 rfl nv8 ev8 dX5_was_54 ?_
              refine lv_goto (tgt := 60) hx hb dX5_was_55 (by decide) ?_
              obtain rfl := e_s h
              exact hret hP hS rfl dX5_was_60
          rcases hjq5 with rfl | hjq5
          · refine lv_astore_n (lv' := [(3, .ref (ad 33)), (0, .ref (ad 0)), (1, .int x1), (2, .int x2)]) hx hb dX5_was_40 rfl hl (by decide) rfl (fun ls hl => ?_)
            refine lv_aload_n hx hb dX5_was_41 rfl (lv_at hl 0 rfl) ?_
            refine lv_iload_n hx hb dX5_was_42 rfl (lv_at hl 3 rfl) ?_
            obtain ⟨q6, eq6, h⟩ := e_b h
            refine xv_i (As := [.int x2]) (rest := []) (ci := 2) (b := ad 33) ⟨hx, hb, hml, hown, hts⟩ hl.1 (kX2_has l D cA (fun i => ad (33 + i)) (past.1 6) x2  _ eq6) (cwV 1 hts gX5_was_X2_has rfl rfl rfl (by decide +kernel) ⟨Nat.le_of_ble_eq_true rfl, Nat.le_of_ble_eq_true rfl⟩) rfl hK hP hD hS hA 24 rfl rfl rfl [24, 25, 26] rfl (by decide +kernel) rfl (Nat.le_of_ble_eq_true rfl) dX5_was_43 ⟨Nat.zero_le _, Nat.zero_le _⟩ (fun H locs hP hD hS hnq6 => ?_)
            have hP : va_P D vwCl (wD_row_past cA ad block ties lines pmn row past) H := hP
            have hD : va_D A (wD_row_past cA ad block ties lines pmn row past) := hD
            refine lv_if_eq (tgt := 58) hx hb dX5_was_46 (by decide) (fun c7 => ?_) (fun c7 => ?_)
            · have h := e_t c7 h
              refine lv_bipush (v := (-2)) hx hb dX5_was_58 (by decide) ?_
              obtain rfl := e_s h
              exact hret hP hS rfl dX5_was_60
            · have h := e_f c7 h
              refine lv_aload_n hx hb dX5_was_49 rfl (lv_at hl 0 rfl) ?_
              refine va_get (D := D) (ci := 2) (v := .ref (ad 34)) (C := RX2) (T := TX2) (N := 3) hx hb hts iX2 hown hK hP 24 rfl rfl 0 (Nat.le_of_ble_eq_true rfl) f106 (fun _ h9 => h9) rfl dX5_was_50 ?_
              refine lv_iload_n hx hb dX5_was_53 rfl (lv_at hl 3 rfl) ?_
              obtain ⟨v8, ev8, nv8, h⟩ := e_rd h
              refine xa_iald hx hb hK hP 25 rfl nv8 ev8 dX5_was_54 ?_
              refine lv_goto (tgt := 60) hx hb dX5_was_55 (by decide) ?_
              obtain rfl := e_s h
              exact hret hP hS rfl dX5_was_60
          rcases hjq5 with rfl | hjq5
          · refine lv_astore_n (lv' := [(3, .ref (ad 36)), (0, .ref (ad 0)), (1, .int x1), (2, .int x2)]) hx hb dX5_was_40 rfl hl (by decide) rfl (fun ls hl => ?_)
            refine lv_aload_n hx hb dX5_was_41 rfl (lv_at hl 0 rfl) ?_
            refine lv_iload_n hx hb dX5_was_42 rfl (lv_at hl 3 rfl) ?_
            obtain ⟨q6, eq6, h⟩ := e_b h
            refine xv_i (As := [.int x2]) (rest := []) (ci := 2) (b := ad 36) ⟨hx, hb, hml, hown, hts⟩ hl.1 (kX2_has l D cA (fun i => ad (36 + i)) (past.1 7) x2  _ eq6) (cwV 1 hts gX5_was_X2_has rfl rfl rfl (by decide +kernel) ⟨Nat.le_of_ble_eq_true rfl, Nat.le_of_ble_eq_true rfl⟩) rfl hK hP hD hS hA 27 rfl rfl rfl [27, 28, 29] rfl (by decide +kernel) rfl (Nat.le_of_ble_eq_true rfl) dX5_was_43 ⟨Nat.zero_le _, Nat.zero_le _⟩ (fun H locs hP hD hS hnq6 => ?_)
            have hP : va_P D vwCl (wD_row_past cA ad block ties lines pmn row past) H := hP
            have hD : va_D A (wD_row_past cA ad block ties lines pmn row past) := hD
            refine lv_if_eq (tgt := 58) hx hb dX5_was_46 (by decide) (fun c7 => ?_) (fun c7 => ?_)
            · have h := e_t c7 h
              refine lv_bipush (v := (-2)) hx hb dX5_was_58 (by decide) ?_
              obtain rfl := e_s h
              exact hret hP hS rfl dX5_was_60
            · have h := e_f c7 h
              refine lv_aload_n hx hb dX5_was_49 rfl (lv_at hl 0 rfl) ?_
              refine va_get (D := D) (ci := 2) (v := .ref (ad 37)) (C := RX2) (T := TX2) (N := 3) hx hb hts iX2 hown hK hP 27 rfl rfl 0 (Nat.le_of_ble_eq_true rfl) f106 (fun _ h9 => h9) rfl dX5_was_50 ?_
              refine lv_iload_n hx hb dX5_was_53 rfl (lv_at hl 3 rfl) ?_
              obtain ⟨v8, ev8, nv8, h⟩ := e_rd h
              refine xa_iald hx hb hK hP 28 rfl nv8 ev8 dX5_was_54 ?_
              refine lv_goto (tgt := 60) hx hb dX5_was_55 (by decide) ?_
              obtain rfl := e_s h
              exact hret hP hS rfl dX5_was_60
          rcases hjq5 with rfl | hjq5
          · refine lv_astore_n (lv' := [(3, .ref (ad 39)), (0, .ref (ad 0)), (1, .int x1), (2, .int x2)]) hx hb dX5_was_40 rfl hl (by decide) rfl (fun ls hl => ?_)
            refine lv_aload_n hx hb dX5_was_41 rfl (lv_at hl 0 rfl) ?_
            refine lv_iload_n hx hb dX5_was_42 rfl (lv_at hl 3 rfl) ?_
            obtain ⟨q6, eq6, h⟩ := e_b h
            refine xv_i (As := [.int x2]) (rest := []) (ci := 2) (b := ad 39) ⟨hx, hb, hml, hown, hts⟩ hl.1 (kX2_has l D cA (fun i => ad (39 + i)) (past.1 8) x2  _ eq6) (cwV 1 hts gX5_was_X2_has rfl rfl rfl (by decide +kernel) ⟨Nat.le_of_ble_eq_true rfl, Nat.le_of_ble_eq_true rfl⟩) rfl hK hP hD hS hA 30 rfl rfl rfl [30, 31, 32] rfl (by decide +kernel) rfl (Nat.le_of_ble_eq_true rfl) dX5_was_43 ⟨Nat.zero_le _, Nat.zero_le _⟩ (fun H locs hP hD hS hnq6 => ?_)
            have hP : va_P D vwCl (wD_row_past cA ad block ties lines pmn row past) H := hP
            have hD : va_D A (wD_row_past cA ad block ties lines pmn row past) := hD
            refine lv_if_eq (tgt := 58) hx hb dX5_was_46 (by decide) (fun c7 => ?_) (fun c7 => ?_)
            · have h := e_t c7 h
              refine lv_bipush (v := (-2)) hx hb dX5_was_58 (by decide) ?_
              obtain rfl := e_s h
              exact hret hP hS rfl dX5_was_60
            · have h := e_f c7 h
              refine lv_aload_n hx hb dX5_was_49 rfl (lv_at hl 0 rfl) ?_
              refine va_get (D := D) (ci := 2) (v := .ref (ad 40)) (C := RX2) (T := TX2) (N := 3) hx hb hts iX2 hown hK hP 30 rfl rfl 0 (Nat.le_of_ble_eq_true rfl) f106 (fun _ h9 => h9) rfl dX5_was_50 ?_
              refine lv_iload_n hx hb dX5_was_53 rfl (lv_at hl 3 rfl) ?_
              obtain ⟨v8, ev8, nv8, h⟩ := e_rd h
              refine xa_iald hx hb hK hP 31 rfl nv8 ev8 dX5_was_54 ?_
              refine lv_goto (tgt := 60) hx hb dX5_was_55 (by decide) ?_
              obtain rfl := e_s h
              exact hret hP hS rfl dX5_was_60
          rcases hjq5 with rfl | hjq5
          · refine lv_astore_n (lv' := [(3, .ref (ad 42)), (0, .ref (ad 0)), (1, .int x1), (2, .int x2)]) hx hb dX5_was_40 rfl hl (by decide) rfl (fun ls hl => ?_)
            refine lv_aload_n hx hb dX5_was_41 rfl (lv_at hl 0 rfl) ?_
            refine lv_iload_n hx hb dX5_was_42 rfl (lv_at hl 3 rfl) ?_
            obtain ⟨q6, eq6, h⟩ := e_b h
            refine xv_i (As := [.int x2]) (rest := []) (ci := 2) (b := ad 42) ⟨hx, hb, hml, hown, hts⟩ hl.1 (kX2_has l D cA (fun i => ad (42 + i)) (past.1 9) x2  _ eq6) (cwV 1 hts gX5_was_X2_has rfl rfl rfl (by decide +kernel) ⟨Nat.le_of_ble_eq_true rfl, Nat.le_of_ble_eq_true rfl⟩) rfl hK hP hD hS hA 33 rfl rfl rfl [33, 34, 35] rfl (by decide +kernel) rfl (Nat.le_of_ble_eq_true rfl) dX5_was_43 ⟨Nat.zero_le _, Nat.zero_le _⟩ (fun H locs hP hD hS hnq6 => ?_)
            have hP : va_P D vwCl (wD_row_past cA ad block ties lines pmn row past) H := hP
            have hD : va_D A (wD_row_past cA ad block ties lines pmn row past) := hD
            refine lv_if_eq (tgt := 58) hx hb dX5_was_46 (by decide) (fun c7 => ?_) (fun c7 => ?_)
            · have h := e_t c7 h
              refine lv_bipush (v := (-2)) hx hb dX5_was_58 (by decide) ?_
              obtain rfl := e_s h
              exact hret hP hS rfl dX5_was_60
            · have h := e_f c7 h
              refine lv_aload_n hx hb dX5_was_49 rfl (lv_at hl 0 rfl) ?_
              refine va_get (D := D) (ci := 2) (v := .ref (ad 43)) (C := RX2) (T := TX2) (N := 3) hx hb hts iX2 hown hK hP 33 rfl rfl 0 (Nat.le_of_ble_eq_true rfl) f106 (fun _ h9 => h9) rfl dX5_was_50 ?_
              refine lv_iload_n hx hb dX5_was_53 rfl (lv_at hl 3 rfl) ?_
              obtain ⟨v8, ev8, nv8, h⟩ := e_rd h
              refine xa_iald hx hb hK hP 34 rfl nv8 ev8 dX5_was_54 ?_
              refine lv_goto (tgt := 60) hx hb dX5_was_55 (by decide) ?_
              obtain rfl := e_s h
              exact hret hP hS rfl dX5_was_60
          rcases hjq5 with rfl | hjq5
          · refine lv_astore_n (lv' := [(3, .ref (ad 45)), (0, .ref (ad 0)), (1, .int x1), (2, .int x2)]) hx hb dX5_was_40 rfl hl (by decide) rfl (fun ls hl => ?_)
            refine lv_aload_n hx hb dX5_was_41 rfl (lv_at hl 0 rfl) ?_
            refine lv_iload_n hx hb dX5_was_42 rfl (lv_at hl 3 rfl) ?_
            obtain ⟨q6, eq6, h⟩ := e_b h
            refine xv_i (As := [.int x2]) (rest := []) (ci := 2) (b := ad 45) ⟨hx, hb, hml, hown, hts⟩ hl.1 (kX2_has l D cA (fun i => ad (45 + i)) (past.1 10) x2  _ eq6) (cwV 1 hts gX5_was_X2_has rfl rfl rfl (by decide +kernel) ⟨Nat.le_of_ble_eq_true rfl, Nat.le_of_ble_eq_true rfl⟩) rfl hK hP hD hS hA 36 rfl rfl rfl [36, 37, 38] rfl (by decide +kernel) rfl (Nat.le_of_ble_eq_true rfl) dX5_was_43 ⟨Nat.zero_le _, Nat.zero_le _⟩ (fun H locs hP hD hS hnq6 => ?_)
            have hP : va_P D vwCl (wD_row_past cA ad block ties lines pmn row past) H := hP
            have hD : va_D A (wD_row_past cA ad block ties lines pmn row past) := hD
            refine lv_if_eq (tgt := 58) hx hb dX5_was_46 (by decide) (fun c7 => ?_) (fun c7 => ?_)
            · have h := e_t c7 h
              refine lv_bipush (v := (-2)) hx hb dX5_was_58 (by decide) ?_
              obtain rfl := e_s h
              exact hret hP hS rfl dX5_was_60
            · have h := e_f c7 h
              refine lv_aload_n hx hb dX5_was_49 rfl (lv_at hl 0 rfl) ?_
              refine va_get (D := D) (ci := 2) (v := .ref (ad 46)) (C := RX2) (T := TX2) (N := 3) hx hb hts iX2 hown hK hP 36 rfl rfl 0 (Nat.le_of_ble_eq_true rfl) f106 (fun _ h9 => h9) rfl dX5_was_50 ?_
              refine lv_iload_n hx hb dX5_was_53 rfl (lv_at hl 3 rfl) ?_
              obtain ⟨v8, ev8, nv8, h⟩ := e_rd h
              refine xa_iald hx hb hK hP 37 rfl nv8 ev8 dX5_was_54 ?_
              refine lv_goto (tgt := 60) hx hb dX5_was_55 (by decide) ?_
              obtain rfl := e_s h
              exact hret hP hS rfl dX5_was_60
          subst hjq5
          refine lv_astore_n (lv' := [(3, .ref (ad 48)), (0, .ref (ad 0)), (1, .int x1), (2, .int x2)]) hx hb dX5_was_40 rfl hl (by decide) rfl (fun ls hl => ?_)
          refine lv_aload_n hx hb dX5_was_41 rfl (lv_at hl 0 rfl) ?_
          refine lv_iload_n hx hb dX5_was_42 rfl (lv_at hl 3 rfl) ?_
          obtain ⟨q6, eq6, h⟩ := e_b h
          refine xv_i (As := [.int x2]) (rest := []) (ci := 2) (b := ad 48) ⟨hx, hb, hml, hown, hts⟩ hl.1 (kX2_has l D cA (fun i => ad (48 + i)) (past.1 11) x2  _ eq6) (cwV 1 hts gX5_was_X2_has rfl rfl rfl (by decide +kernel) ⟨Nat.le_of_ble_eq_true rfl, Nat.le_of_ble_eq_true rfl⟩) rfl hK hP hD hS hA 39 rfl rfl rfl [39, 40, 41] rfl (by decide +kernel) rfl (Nat.le_of_ble_eq_true rfl) dX5_was_43 ⟨Nat.zero_le _, Nat.zero_le _⟩ (fun H locs hP hD hS hnq6 => ?_)
          have hP : va_P D vwCl (wD_row_past cA ad block ties lines pmn row past) H := hP
          have hD : va_D A (wD_row_past cA ad block ties lines pmn row past) := hD
          refine lv_if_eq (tgt := 58) hx hb dX5_was_46 (by decide) (fun c7 => ?_) (fun c7 => ?_)
          · have h := e_t c7 h
            refine lv_bipush (v := (-2)) hx hb dX5_was_58 (by decide) ?_
            obtain rfl := e_s h
            exact hret hP hS rfl dX5_was_60
          · have h := e_f c7 h
            refine lv_aload_n hx hb dX5_was_49 rfl (lv_at hl 0 rfl) ?_
            refine va_get (D := D) (ci := 2) (v := .ref (ad 49)) (C := RX2) (T := TX2) (N := 3) hx hb hts iX2 hown hK hP 39 rfl rfl 0 (Nat.le_of_ble_eq_true rfl) f106 (fun _ h9 => h9) rfl dX5_was_50 ?_
            refine lv_iload_n hx hb dX5_was_53 rfl (lv_at hl 3 rfl) ?_
            obtain ⟨v8, ev8, nv8, h⟩ := e_rd h
            refine xa_iald hx hb hK hP 40 rfl nv8 ev8 dX5_was_54 ?_
            refine lv_goto (tgt := 60) hx hb dX5_was_55 (by decide) ?_
            obtain rfl := e_s h
            exact hret hP hS rfl dX5_was_60
        · have h := e_f (not_not_intro c4) h
          refine lv_aload_n hx hb dX5_was_25 rfl (lv_at hl 0 rfl) ?_
          refine va_get (D := D) (ci := 5) (v := .ref (ad 7)) (C := RX5) (T := TX5) (N := 12) hx hb hts iX5 hown hK hP 0 rfl rfl 2 (Nat.le_of_ble_eq_true rfl) f26 (fun _ h9 => h9) rfl dX5_was_26 ?_
          refine lv_goto (tgt := 40) hx hb dX5_was_29 (by decide) ?_
          refine lv_astore_n (lv' := [(3, .ref (ad 7)), (0, .ref (ad 0)), (1, .int x1), (2, .int x2)]) hx hb dX5_was_40 rfl hl (by decide) rfl (fun ls hl => ?_)
          refine lv_aload_n hx hb dX5_was_41 rfl (lv_at hl 0 rfl) ?_
          refine lv_iload_n hx hb dX5_was_42 rfl (lv_at hl 3 rfl) ?_
          obtain ⟨q9, eq9, h⟩ := e_b h
          refine xv_i (As := [.int x2]) (rest := []) (ci := 2) (b := ad 7) ⟨hx, hb, hml, hown, hts⟩ hl.1 (kX2_has l D cA (fun i => ad (7 + i)) row x2  _ eq9) (cwV 1 hts gX5_was_X2_has rfl rfl rfl (by decide +kernel) ⟨Nat.le_of_ble_eq_true rfl, Nat.le_of_ble_eq_true rfl⟩) rfl hK hP hD hS hA 1 rfl rfl rfl [1, 2, 3] rfl (by decide +kernel) rfl (Nat.le_of_ble_eq_true rfl) dX5_was_43 ⟨Nat.zero_le _, Nat.zero_le _⟩ (fun H locs hP hD hS hnq9 => ?_)
          have hP : va_P D vwCl (wD_row_past cA ad block ties lines pmn row past) H := hP
          have hD : va_D A (wD_row_past cA ad block ties lines pmn row past) := hD
          refine lv_if_eq (tgt := 58) hx hb dX5_was_46 (by decide) (fun c10 => ?_) (fun c10 => ?_)
          · have h := e_t c10 h
            refine lv_bipush (v := (-2)) hx hb dX5_was_58 (by decide) ?_
            obtain rfl := e_s h
            exact hret hP hS rfl dX5_was_60
          · have h := e_f c10 h
            refine lv_aload_n hx hb dX5_was_49 rfl (lv_at hl 0 rfl) ?_
            refine va_get (D := D) (ci := 2) (v := .ref (ad 8)) (C := RX2) (T := TX2) (N := 3) hx hb hts iX2 hown hK hP 1 rfl rfl 0 (Nat.le_of_ble_eq_true rfl) f106 (fun _ h9 => h9) rfl dX5_was_50 ?_
            refine lv_iload_n hx hb dX5_was_53 rfl (lv_at hl 3 rfl) ?_
            obtain ⟨v11, ev11, nv11, h⟩ := e_rd h
            refine xa_iald hx hb hK hP 2 rfl nv11 ev11 dX5_was_54 ?_
            refine lv_goto (tgt := 60) hx hb dX5_was_55 (by decide) ?_
            obtain rfl := e_s h
            exact hret hP hS rfl dX5_was_60
      · have h := e_f c3 h
        refine lv_iconst (v := (-1)) hx hb dX5_was_19 (by decide) ?_
        obtain rfl := e_s h
        exact hret hP hS rfl dX5_was_20
set_option maxHeartbeats 4000000 in
set_option maxRecDepth 100000 in
theorem kX5_isBelow (l : Launch) (D : va_G) (cA : Nat → ClassId)   (x0 : Int32) (x1 : Int32) (q : Int32) (h : mX5_isBelow  x0 x1 = some q) : MI l yX5_isBelow wsX5_isBelow { frames := 0, cells := 0, slots := 0, locals := 0 } D cA .boolean [.int x0, .int x1] [] [] q := by
  refine MI.of (cc := cX5_isBelow) (maxL := 2) (by decide +kernel) rfl rfl rfl (Nat.le_of_ble_eq_true rfl) ?_
  intro p e s m args below meth c A ls Q hx hb hml hts hown hK hP hD hA hS hl hret
  have hl : lv_has ls 2 [(0, .int x0), (1, .int x1)] := hl
  unfold mX5_isBelow at h
  refine lv_iload_n hx hb dX5_isBelow_0 rfl (lv_at hl 0 rfl) ?_
  refine lv_if_lt (tgt := 13) hx hb dX5_isBelow_1 (by decide) (fun c1 => ?_) (fun c1 => ?_)
  · have h := e_t c1 h
    refine lv_iconst (v := 0) hx hb dX5_isBelow_13 (by decide) ?_
    obtain rfl := e_s h
    exact hret hP hS (show narrow .boolean (.int 0) = .int 0 from rfl) dX5_isBelow_14
  · have h := e_f c1 h
    refine lv_iload_n hx hb dX5_isBelow_4 rfl (lv_at hl 0 rfl) ?_
    refine lv_iload_n hx hb dX5_isBelow_5 rfl (lv_at hl 1 rfl) ?_
    refine lv_icmp_ge (tgt := 13) hx hb dX5_isBelow_6 (by decide) (fun c2 => ?_) (fun c2 => ?_)
    · have h := e_t c2 h
      refine lv_iconst (v := 0) hx hb dX5_isBelow_13 (by decide) ?_
      obtain rfl := e_s h
      exact hret hP hS (show narrow .boolean (.int 0) = .int 0 from rfl) dX5_isBelow_14
    · have h := e_f c2 h
      refine lv_iconst (v := 1) hx hb dX5_isBelow_9 (by decide) ?_
      refine lv_goto (tgt := 14) hx hb dX5_isBelow_10 (by decide) ?_
      obtain rfl := e_s h
      exact hret hP hS (show narrow .boolean (.int 1) = .int 1 from rfl) dX5_isBelow_14
set_option maxHeartbeats 4000000 in
set_option maxRecDepth 100000 in
theorem kX5_tallySpan (l : Launch) (D : va_G) (cA : Nat → ClassId) (ad : Nat → Nat) (block : Int32) (ties : Int32) (lines : Int32) (pmn : Int32) (row : RowT) (tally : TalT) (x1 : Int32) (x2 : Int32) (q : TalT) (h : mX5_tallySpan ties row tally x1 x2 = some q) : MV l yX5_tallySpan wsX5_tallySpan { frames := 2, cells := 0, slots := 0, locals := 43 } D cA [.ref (ad 0), .int x1, .int x2] (wD_row_tally cA ad block ties lines pmn row tally) (wD_row_tally cA ad block ties lines pmn row q) := by
  refine MV.of (cc := cX5_tallySpan) (maxL := 4) (by decide) rfl rfl rfl (Nat.le_of_ble_eq_true rfl) ?_
  intro p e s m args below meth c A ls Q hx hb hml hts hown hK hP hD hA hS hl hret
  have hl : lv_has ls 4 [(0, .ref (ad 0)), (1, .int x1), (2, .int x2)] := hl
  have f106 := hts (.fieldLink RX5 106 "ModeDesk$Row" "values" "[I") (by decide +kernel)
  have f26 := hts (.fieldLink RX5 26 "ModeDesk" "row" "LModeDesk$Row;") (by decide +kernel)
  have f43 := hts (.fieldLink RX5 43 "ModeDesk" "tally" "LModeDesk$Tally;") (by decide +kernel)
  have f58 := hts (.fieldLink RX5 58 "ModeDesk" "ties" "I") (by decide +kernel)
  have iX2 : ∀ w ∈ wsX20, w ∈ wsX5_tallySpan := by decide +kernel
  have iX5 : ∀ w ∈ wsX50, w ∈ wsX5_tallySpan := by decide +kernel
  unfold mX5_tallySpan at h
  refine lv_aload_n hx hb dX5_tallySpan_0 rfl (lv_at hl 0 rfl) ?_
  refine va_get (D := D) (ci := 5) (v := .ref (ad 51)) (C := RX5) (T := TX5) (N := 12) hx hb hts iX5 hown hK hP 0 rfl rfl 5 (Nat.le_of_ble_eq_true rfl) f43 (fun _ h9 => h9) rfl dX5_tallySpan_1 ?_
  refine lv_aload_n hx hb dX5_tallySpan_4 rfl (lv_at hl 0 rfl) ?_
  refine va_get (D := D) (ci := 5) (v := .int ties) (C := RX5) (T := TX5) (N := 12) hx hb hts iX5 hown hK hP 0 rfl rfl 9 (Nat.le_of_ble_eq_true rfl) f58 (fun _ h9 => h9) rfl dX5_tallySpan_5 ?_
  obtain ⟨q1, eq1, h⟩ := e_b h
  refine xv_v (As := [.int ties]) (rest := []) (ci := 3) (b := ad 51) ⟨hx, hb, hml, hown, hts⟩ hl.1 (kX3_begin l D cA (fun i => ad (51 + i)) tally ties  _ eq1) (cwV 1 hts gX5_tallySpan_X3_begin rfl rfl rfl (by decide +kernel) ⟨Nat.le_of_ble_eq_true rfl, Nat.le_of_ble_eq_true rfl⟩) rfl hK hP hD hS hA 4 rfl rfl rfl [4, 5, 6, 7, 8] rfl (by decide +kernel) rfl (Nat.le_of_ble_eq_true rfl) dX5_tallySpan_8 ⟨Nat.zero_le _, Nat.zero_le _⟩ (fun H locs hP hD hS => ?_)
  have hP : va_P D vwCl (wD_row_tally cA ad block ties lines pmn row q1) H := hP
  have hD : va_D A (wD_row_tally cA ad block ties lines pmn row q1) := hD
  refine lv_iload_n hx hb dX5_tallySpan_11 rfl (lv_at hl 1 rfl) ?_
  refine lv_istore_n (lv' := [(3, .int x1), (0, .ref (ad 0)), (1, .int x1), (2, .int x2)]) hx hb dX5_tallySpan_12 rfl hl (by decide) rfl (fun ls hl => ?_)
  have hL13 : ∀ (n : Nat) (x2 : Int32) (x3 : Int32) (block : Int32) (ties : Int32) (lines : Int32) (pmn : Int32) (row : RowT) (tally : TalT) (z2 : TalT) (ls : Array Slot) (H : Heap) (locs : List Loc), lv_has ls 4 [(0, .ref (ad 0)), (2, .int x2), (3, .int x3)] → va_P D vwCl (wD_row_tally cA ad block ties lines pmn row tally) H → va_D A (wD_row_tally cA ad block ties lines pmn row tally) → va_S A s.heap H locs → mX5_tallySpan_L13 row x2 n x3 tally = some z2 → (∀ (ls : Array Slot) (H : Heap) (locs : List Loc), lv_has ls 4 [] → va_P D vwCl (wD_row_tally cA ad block ties lines pmn row z2) H → va_D A (wD_row_tally cA ad block ties lines pmn row z2) → va_S A s.heap H locs → W p l e (headSpec wsX5_tallySpan { frames := 2, cells := 0, slots := 0, locals := 43 }).room s m args below meth c H locs 0 0 Q (F0 m 40 ls [])) → W p l e (headSpec wsX5_tallySpan { frames := 2, cells := 0, slots := 0, locals := 43 }).room s m args below meth c H locs 0 0 Q (F0 m 13 ls []) := by
    intro n
    induction n with
    | zero => intro x2 x3 block ties lines pmn row tally z2 ls H locs hl hP hD hS h hk13; exact e_n h
    | succ n ih13 =>
      intro x2 x3 block ties lines pmn row tally z2 ls H locs hl hP hD hS h hk13
      rw [mX5_tallySpan_L13.eq_2] at h
      refine lv_iload_n hx hb dX5_tallySpan_13 rfl (lv_at hl 2 rfl) ?_
      refine lv_iload_n hx hb dX5_tallySpan_14 rfl (lv_at hl 1 rfl) ?_
      refine lv_icmp_gt (tgt := 40) hx hb dX5_tallySpan_15 (by decide) (fun c3 => ?_) (fun c3 => ?_)
      · have h := e_t c3 h
        obtain rfl := e_s h
        exact hk13 _ _ _ (lv_sub hl [] rfl) hP hD hS
      · have h := e_f c3 h
        refine lv_aload_n hx hb dX5_tallySpan_18 rfl (lv_at hl 0 rfl) ?_
        refine va_get (D := D) (ci := 5) (v := .ref (ad 51)) (C := RX5) (T := TX5) (N := 12) hx hb hts iX5 hown hK hP 0 rfl rfl 5 (Nat.le_of_ble_eq_true rfl) f43 (fun _ h9 => h9) rfl dX5_tallySpan_19 ?_
        refine lv_aload_n hx hb dX5_tallySpan_22 rfl (lv_at hl 0 rfl) ?_
        refine va_get (D := D) (ci := 5) (v := .ref (ad 7)) (C := RX5) (T := TX5) (N := 12) hx hb hts iX5 hown hK hP 0 rfl rfl 2 (Nat.le_of_ble_eq_true rfl) f26 (fun _ h9 => h9) rfl dX5_tallySpan_23 ?_
        refine va_get (D := D) (ci := 2) (v := .ref (ad 8)) (C := RX2) (T := TX2) (N := 3) hx hb hts iX2 hown hK hP 1 rfl rfl 0 (Nat.le_of_ble_eq_true rfl) f106 (fun _ h9 => h9) rfl dX5_tallySpan_26 ?_
        refine lv_iload_n hx hb dX5_tallySpan_29 rfl (lv_at hl 2 rfl) ?_
        obtain ⟨v4, ev4, nv4, h⟩ := e_rd h
        refine xa_iald hx hb hK hP 2 rfl nv4 ev4 dX5_tallySpan_30 ?_
        obtain ⟨q5, eq5, h⟩ := e_b h
        refine xv_v (As := [.int v4]) (rest := []) (ci := 3) (b := ad 51) ⟨hx, hb, hml, hown, hts⟩ hl.1 (kX3_push l D cA (fun i => ad (51 + i)) tally v4  _ eq5) (cwV 1 hts gX5_tallySpan_X3_push rfl rfl rfl (by decide +kernel) ⟨Nat.le_of_ble_eq_true rfl, Nat.le_of_ble_eq_true rfl⟩) rfl hK hP hD hS hA 4 rfl rfl rfl [4, 5, 6, 7, 8] rfl (by decide +kernel) rfl (Nat.le_of_ble_eq_true rfl) dX5_tallySpan_31 ⟨Nat.zero_le _, Nat.zero_le _⟩ (fun H locs hP hD hS => ?_)
        have hP : va_P D vwCl (wD_row_tally cA ad block ties lines pmn row q5) H := hP
        have hD : va_D A (wD_row_tally cA ad block ties lines pmn row q5) := hD
        refine lv_iinc (v := (x3 + 1)) (lv' := [(3, .int (x3 + 1)), (0, .ref (ad 0)), (2, .int x2)]) hx hb dX5_tallySpan_34 hl (k := 2) rfl rfl (by decide) rfl (fun ls hl => ?_)
        refine lv_goto (tgt := 13) hx hb dX5_tallySpan_37 (by decide) ?_
        exact ih13 x2 (x3 + 1) block ties lines pmn row q5 z2 _ _ _ (lv_sub hl [1, 2, 0] rfl) hP hD hS h hk13
  obtain ⟨z6, ez6, h⟩ := e_b h
  refine hL13 FU x2 x1 block ties lines pmn row q1 z6 _ _ _ (lv_sub hl [1, 3, 0] rfl) hP hD hS ez6 (fun ls H locs hl hP hD hS => ?_)
  obtain rfl := e_s h
  exact hret hP hS dX5_tallySpan_40
set_option maxHeartbeats 4000000 in
set_option maxRecDepth 100000 in
theorem kX5_mode (l : Launch) (D : va_G) (cA : Nat → ClassId) (ad : Nat → Nat) (block : Int32) (ties : Int32) (lines : Int32) (pmn : Int32) (row : RowT) (tally : TalT) (x1 : Int32) (x2 : Int32) (x3 : Int32) (q : Int32 × TalT) (h : mX5_mode ties row tally x1 x2 x3 = some q) : MI l yX5_mode wsX5_mode { frames := 3, cells := 0, slots := 0, locals := 66 } D cA .int [.ref (ad 0), .int x1, .int x2, .int x3] (wD_row_tally cA ad block ties lines pmn row tally) (wD_row_tally cA ad block ties lines pmn row q.2) q.1 := by
  refine MI.of (cc := cX5_mode) (maxL := 4) (by decide +kernel) rfl rfl rfl (Nat.le_of_ble_eq_true rfl) ?_
  intro p e s m args below meth c A ls Q hx hb hml hts hown hK hP hD hA hS hl hret
  have hl : lv_has ls 4 [(0, .ref (ad 0)), (1, .int x1), (2, .int x2), (3, .int x3)] := hl
  have f176 := hts (.fieldLink RX5 176 "ModeDesk$Tally" "best" "I") (by decide +kernel)
  have f26 := hts (.fieldLink RX5 26 "ModeDesk" "row" "LModeDesk$Row;") (by decide +kernel)
  have f43 := hts (.fieldLink RX5 43 "ModeDesk" "tally" "LModeDesk$Tally;") (by decide +kernel)
  have iX3 : ∀ w ∈ wsX30, w ∈ wsX5_mode := by decide +kernel
  have iX5 : ∀ w ∈ wsX50, w ∈ wsX5_mode := by decide +kernel
  unfold mX5_mode at h
  refine lv_aload_n hx hb dX5_mode_0 rfl (lv_at hl 0 rfl) ?_
  refine va_get (D := D) (ci := 5) (v := .ref (ad 7)) (C := RX5) (T := TX5) (N := 12) hx hb hts iX5 hown hK hP 0 rfl rfl 2 (Nat.le_of_ble_eq_true rfl) f26 (fun _ h9 => h9) rfl dX5_mode_1 ?_
  refine lv_iload_n hx hb dX5_mode_4 rfl (lv_at hl 1 rfl) ?_
  refine lv_iload_n hx hb dX5_mode_5 rfl (lv_at hl 2 rfl) ?_
  obtain ⟨q1, eq1, h⟩ := e_b h
  refine xv_i (As := [.int x1, .int x2]) (rest := []) (ci := 2) (b := ad 7) ⟨hx, hb, hml, hown, hts⟩ hl.1 (kX2_hasSpan l D cA (fun i => ad (7 + i)) row x1 x2  _ eq1) (cwV 2 hts gX5_mode_X2_hasSpan rfl rfl rfl (by decide +kernel) ⟨Nat.le_of_ble_eq_true rfl, Nat.le_of_ble_eq_true rfl⟩) rfl hK hP hD hS hA 1 rfl rfl rfl [1, 2, 3] rfl (by decide +kernel) rfl (Nat.le_of_ble_eq_true rfl) dX5_mode_6 ⟨Nat.zero_le _, Nat.zero_le _⟩ (fun H locs hP hD hS hnq1 => ?_)
  have hP : va_P D vwCl (wD_row_tally cA ad block ties lines pmn row tally) H := hP
  have hD : va_D A (wD_row_tally cA ad block ties lines pmn row tally) := hD
  refine lv_if_eq (tgt := 20) hx hb dX5_mode_9 (by decide) (fun c2 => ?_) (fun c2 => ?_)
  · have h := e_t c2 h
    refine lv_iconst (v := (-1)) hx hb dX5_mode_20 (by decide) ?_
    obtain rfl := e_s h
    exact hret hP hS rfl dX5_mode_21
  · have h := e_f c2 h
    refine lv_iload_n hx hb dX5_mode_12 rfl (lv_at hl 3 rfl) ?_
    refine lv_iconst (v := 4) hx hb dX5_mode_13 (by decide) ?_
    obtain ⟨q3, eq3, h⟩ := e_b h
    refine xs_i (As := [.int x3, .int 4]) (rest := []) ⟨hx, hb, hml, hown, hts⟩ hl.1 (kX5_isBelow l D cA   x3 4  _ eq3) (va_cwS 2 hts gX5_mode_X5_isBelow rfl rfl rfl (by decide +kernel) ⟨Nat.le_of_ble_eq_true rfl, Nat.le_of_ble_eq_true rfl⟩) rfl hK hP hD hS hA [] rfl (by decide +kernel) rfl (Nat.le_of_ble_eq_true rfl) dX5_mode_14 ⟨Nat.zero_le _, Nat.zero_le _⟩ (fun H locs hP hD hS hnq3 => ?_)
    have hP : va_P D vwCl (wD_row_tally cA ad block ties lines pmn row tally) H := hP
    have hD : va_D A (wD_row_tally cA ad block ties lines pmn row tally) := hD
    refine lv_if_ne (tgt := 22) hx hb dX5_mode_17 (by decide) (fun c4 => ?_) (fun c4 => ?_)
    · have h := e_t c4 h
      refine lv_aload_n hx hb dX5_mode_22 rfl (lv_at hl 0 rfl) ?_
      refine lv_iload_n hx hb dX5_mode_23 rfl (lv_at hl 1 rfl) ?_
      refine lv_iload_n hx hb dX5_mode_24 rfl (lv_at hl 2 rfl) ?_
      obtain ⟨q5, eq5, h⟩ := e_b h
      refine xv_v0 (As := [.int x1, .int x2]) (rest := []) (ci := 5) (b := ad 0) ⟨hx, hb, hml, hown, hts⟩ hl.1 (kX5_tallySpan l D cA ad block ties lines pmn row tally x1 x2  _ eq5) (cwV 2 hts gX5_mode_X5_tallySpan rfl rfl rfl (by decide +kernel) ⟨Nat.le_of_ble_eq_true rfl, Nat.le_of_ble_eq_true rfl⟩) rfl hK hP hD hS hA 0 rfl rfl rfl rfl (Nat.le_of_ble_eq_true rfl) dX5_mode_25 ⟨Nat.zero_le _, Nat.zero_le _⟩ (fun H locs hP hD hS => ?_)
      have hP : va_P D vwCl (wD_row_tally cA ad block ties lines pmn row q5) H := hP
      have hD : va_D A (wD_row_tally cA ad block ties lines pmn row q5) := hD
      refine lv_aload_n hx hb dX5_mode_28 rfl (lv_at hl 0 rfl) ?_
      refine va_get (D := D) (ci := 5) (v := .ref (ad 51)) (C := RX5) (T := TX5) (N := 12) hx hb hts iX5 hown hK hP 0 rfl rfl 5 (Nat.le_of_ble_eq_true rfl) f43 (fun _ h9 => h9) rfl dX5_mode_29 ?_
      refine lv_aload_n hx hb dX5_mode_32 rfl (lv_at hl 0 rfl) ?_
      refine va_get (D := D) (ci := 5) (v := .ref (ad 51)) (C := RX5) (T := TX5) (N := 12) hx hb hts iX5 hown hK hP 0 rfl rfl 5 (Nat.le_of_ble_eq_true rfl) f43 (fun _ h9 => h9) rfl dX5_mode_33 ?_
      refine va_get (D := D) (ci := 3) (v := .int q5.2.2.2.2.2.2.1) (C := RX3) (T := TX3) (N := 8) hx hb hts iX3 hown hK hP 4 rfl rfl 6 (Nat.le_of_ble_eq_true rfl) f176 (fun _ h9 => h9) rfl dX5_mode_36 ?_
      refine lv_iload_n hx hb dX5_mode_39 rfl (lv_at hl 3 rfl) ?_
      refine lv_iload_n hx hb dX5_mode_40 rfl (lv_at hl 1 rfl) ?_
      obtain ⟨q6, eq6, h⟩ := e_b h
      refine xv_i (As := [.int q5.2.2.2.2.2.2.1, .int x3, .int x1]) (rest := []) (ci := 3) (b := ad 51) ⟨hx, hb, hml, hown, hts⟩ hl.1 (kX3_told l D cA (fun i => ad (51 + i)) q5 q5.2.2.2.2.2.2.1 x3 x1  _ eq6) (cwV 3 hts gX5_mode_X3_told rfl rfl rfl (by decide +kernel) ⟨Nat.le_of_ble_eq_true rfl, Nat.le_of_ble_eq_true rfl⟩) rfl hK hP hD hS hA 4 rfl rfl rfl [4, 5, 6, 7, 8] rfl (by decide +kernel) rfl (Nat.le_of_ble_eq_true rfl) dX5_mode_41 ⟨Nat.zero_le _, Nat.zero_le _⟩ (fun H locs hP hD hS hnq6 => ?_)
      have hP : va_P D vwCl (wD_row_tally cA ad block ties lines pmn row q5) H := hP
      have hD : va_D A (wD_row_tally cA ad block ties lines pmn row q5) := hD
      obtain rfl := e_s h
      exact hret hP hS rfl dX5_mode_44
    · have h := e_f (not_not_intro c4) h
      refine lv_iconst (v := (-1)) hx hb dX5_mode_20 (by decide) ?_
      obtain rfl := e_s h
      exact hret hP hS rfl dX5_mode_21
set_option maxHeartbeats 4000000 in
set_option maxRecDepth 100000 in
theorem kX5_ranked (l : Launch) (D : va_G) (cA : Nat → ClassId) (ad : Nat → Nat) (block : Int32) (ties : Int32) (lines : Int32) (pmn : Int32) (row : RowT) (tally : TalT) (x1 : Int32) (x2 : Int32) (x3 : Int32) (x4 : Int32) (q : Int32 × TalT) (h : mX5_ranked ties row tally x1 x2 x3 x4 = some q) : MI l yX5_ranked wsX5_ranked { frames := 3, cells := 0, slots := 0, locals := 66 } D cA .int [.ref (ad 0), .int x1, .int x2, .int x3, .int x4] (wD_row_tally cA ad block ties lines pmn row tally) (wD_row_tally cA ad block ties lines pmn row q.2) q.1 := by
  refine MI.of (cc := cX5_ranked) (maxL := 5) (by decide +kernel) rfl rfl rfl (Nat.le_of_ble_eq_true rfl) ?_
  intro p e s m args below meth c A ls Q hx hb hml hts hown hK hP hD hA hS hl hret
  have hl : lv_has ls 5 [(0, .ref (ad 0)), (1, .int x1), (2, .int x2), (3, .int x3), (4, .int x4)] := hl
  have f182 := hts (.fieldLink RX5 182 "ModeDesk$Tally" "kinds" "I") (by decide +kernel)
  have f187 := hts (.fieldLink RX5 187 "ModeDesk$Tally" "kind" "[I") (by decide +kernel)
  have f26 := hts (.fieldLink RX5 26 "ModeDesk" "row" "LModeDesk$Row;") (by decide +kernel)
  have f43 := hts (.fieldLink RX5 43 "ModeDesk" "tally" "LModeDesk$Tally;") (by decide +kernel)
  have iX3 : ∀ w ∈ wsX30, w ∈ wsX5_ranked := by decide +kernel
  have iX5 : ∀ w ∈ wsX50, w ∈ wsX5_ranked := by decide +kernel
  unfold mX5_ranked at h
  refine lv_aload_n hx hb dX5_ranked_0 rfl (lv_at hl 0 rfl) ?_
  refine va_get (D := D) (ci := 5) (v := .ref (ad 7)) (C := RX5) (T := TX5) (N := 12) hx hb hts iX5 hown hK hP 0 rfl rfl 2 (Nat.le_of_ble_eq_true rfl) f26 (fun _ h9 => h9) rfl dX5_ranked_1 ?_
  refine lv_iload_n hx hb dX5_ranked_4 rfl (lv_at hl 1 rfl) ?_
  refine lv_iload_n hx hb dX5_ranked_5 rfl (lv_at hl 2 rfl) ?_
  obtain ⟨q1, eq1, h⟩ := e_b h
  refine xv_i (As := [.int x1, .int x2]) (rest := []) (ci := 2) (b := ad 7) ⟨hx, hb, hml, hown, hts⟩ hl.1 (kX2_hasSpan l D cA (fun i => ad (7 + i)) row x1 x2  _ eq1) (cwV 2 hts gX5_ranked_X2_hasSpan rfl rfl rfl (by decide +kernel) ⟨Nat.le_of_ble_eq_true rfl, Nat.le_of_ble_eq_true rfl⟩) rfl hK hP hD hS hA 1 rfl rfl rfl [1, 2, 3] rfl (by decide +kernel) rfl (Nat.le_of_ble_eq_true rfl) dX5_ranked_6 ⟨Nat.zero_le _, Nat.zero_le _⟩ (fun H locs hP hD hS hnq1 => ?_)
  have hP : va_P D vwCl (wD_row_tally cA ad block ties lines pmn row tally) H := hP
  have hD : va_D A (wD_row_tally cA ad block ties lines pmn row tally) := hD
  refine lv_if_eq (tgt := 25) hx hb dX5_ranked_9 (by decide) (fun c2 => ?_) (fun c2 => ?_)
  · have h := e_t c2 h
    refine lv_iconst (v := (-1)) hx hb dX5_ranked_25 (by decide) ?_
    obtain rfl := e_s h
    exact hret hP hS rfl dX5_ranked_26
  · have h := e_f c2 h
    refine lv_iload_n hx hb dX5_ranked_12 rfl (lv_at hl 3 rfl) ?_
    refine lv_if_lt (tgt := 25) hx hb dX5_ranked_13 (by decide) (fun c3 => ?_) (fun c3 => ?_)
    · have h := e_t c3 h
      refine lv_iconst (v := (-1)) hx hb dX5_ranked_25 (by decide) ?_
      obtain rfl := e_s h
      exact hret hP hS rfl dX5_ranked_26
    · have h := e_f c3 h
      refine lv_iload hx hb dX5_ranked_16 (lv_at hl 4 rfl) ?_
      refine lv_iconst (v := 4) hx hb dX5_ranked_18 (by decide) ?_
      obtain ⟨q4, eq4, h⟩ := e_b h
      refine xs_i (As := [.int x4, .int 4]) (rest := []) ⟨hx, hb, hml, hown, hts⟩ hl.1 (kX5_isBelow l D cA   x4 4  _ eq4) (va_cwS 2 hts gX5_ranked_X5_isBelow rfl rfl rfl (by decide +kernel) ⟨Nat.le_of_ble_eq_true rfl, Nat.le_of_ble_eq_true rfl⟩) rfl hK hP hD hS hA [] rfl (by decide +kernel) rfl (Nat.le_of_ble_eq_true rfl) dX5_ranked_19 ⟨Nat.zero_le _, Nat.zero_le _⟩ (fun H locs hP hD hS hnq4 => ?_)
      have hP : va_P D vwCl (wD_row_tally cA ad block ties lines pmn row tally) H := hP
      have hD : va_D A (wD_row_tally cA ad block ties lines pmn row tally) := hD
      refine lv_if_ne (tgt := 27) hx hb dX5_ranked_22 (by decide) (fun c5 => ?_) (fun c5 => ?_)
      · have h := e_t c5 h
        refine lv_aload_n hx hb dX5_ranked_27 rfl (lv_at hl 0 rfl) ?_
        refine lv_iload_n hx hb dX5_ranked_28 rfl (lv_at hl 1 rfl) ?_
        refine lv_iload_n hx hb dX5_ranked_29 rfl (lv_at hl 2 rfl) ?_
        obtain ⟨q6, eq6, h⟩ := e_b h
        refine xv_v0 (As := [.int x1, .int x2]) (rest := []) (ci := 5) (b := ad 0) ⟨hx, hb, hml, hown, hts⟩ hl.1 (kX5_tallySpan l D cA ad block ties lines pmn row tally x1 x2  _ eq6) (cwV 2 hts gX5_ranked_X5_tallySpan rfl rfl rfl (by decide +kernel) ⟨Nat.le_of_ble_eq_true rfl, Nat.le_of_ble_eq_true rfl⟩) rfl hK hP hD hS hA 0 rfl rfl rfl rfl (Nat.le_of_ble_eq_true rfl) dX5_ranked_30 ⟨Nat.zero_le _, Nat.zero_le _⟩ (fun H locs hP hD hS => ?_)
        have hP : va_P D vwCl (wD_row_tally cA ad block ties lines pmn row q6) H := hP
        have hD : va_D A (wD_row_tally cA ad block ties lines pmn row q6) := hD
        refine lv_iload_n hx hb dX5_ranked_33 rfl (lv_at hl 3 rfl) ?_
        refine lv_aload_n hx hb dX5_ranked_34 rfl (lv_at hl 0 rfl) ?_
        refine va_get (D := D) (ci := 5) (v := .ref (ad 51)) (C := RX5) (T := TX5) (N := 12) hx hb hts iX5 hown hK hP 0 rfl rfl 5 (Nat.le_of_ble_eq_true rfl) f43 (fun _ h9 => h9) rfl dX5_ranked_35 ?_
        refine va_get (D := D) (ci := 3) (v := .int q6.2.2.2.2.1) (C := RX3) (T := TX3) (N := 8) hx hb hts iX3 hown hK hP 4 rfl rfl 4 (Nat.le_of_ble_eq_true rfl) f182 (fun _ h9 => h9) rfl dX5_ranked_38 ?_
        refine lv_icmp_lt (tgt := 47) hx hb dX5_ranked_41 (by decide) (fun c7 => ?_) (fun c7 => ?_)
        · have h := e_t c7 h
          refine lv_aload_n hx hb dX5_ranked_47 rfl (lv_at hl 0 rfl) ?_
          refine va_get (D := D) (ci := 5) (v := .ref (ad 51)) (C := RX5) (T := TX5) (N := 12) hx hb hts iX5 hown hK hP 0 rfl rfl 5 (Nat.le_of_ble_eq_true rfl) f43 (fun _ h9 => h9) rfl dX5_ranked_48 ?_
          obtain ⟨q8, eq8, h⟩ := e_b h
          refine xv_v (As := []) (rest := []) (ci := 3) (b := ad 51) ⟨hx, hb, hml, hown, hts⟩ hl.1 (kX3_order l D cA (fun i => ad (51 + i)) q6   _ eq8) (cwV 0 hts gX5_ranked_X3_order rfl rfl rfl (by decide +kernel) ⟨Nat.le_of_ble_eq_true rfl, Nat.le_of_ble_eq_true rfl⟩) rfl hK hP hD hS hA 4 rfl rfl rfl [4, 5, 6, 7, 8] rfl (by decide +kernel) rfl (Nat.le_of_ble_eq_true rfl) dX5_ranked_51 ⟨Nat.zero_le _, Nat.zero_le _⟩ (fun H locs hP hD hS => ?_)
          have hP : va_P D vwCl (wD_row_tally cA ad block ties lines pmn row q8) H := hP
          have hD : va_D A (wD_row_tally cA ad block ties lines pmn row q8) := hD
          refine lv_aload_n hx hb dX5_ranked_54 rfl (lv_at hl 0 rfl) ?_
          refine va_get (D := D) (ci := 5) (v := .ref (ad 51)) (C := RX5) (T := TX5) (N := 12) hx hb hts iX5 hown hK hP 0 rfl rfl 5 (Nat.le_of_ble_eq_true rfl) f43 (fun _ h9 => h9) rfl dX5_ranked_55 ?_
          refine lv_aload_n hx hb dX5_ranked_58 rfl (lv_at hl 0 rfl) ?_
          refine va_get (D := D) (ci := 5) (v := .ref (ad 51)) (C := RX5) (T := TX5) (N := 12) hx hb hts iX5 hown hK hP 0 rfl rfl 5 (Nat.le_of_ble_eq_true rfl) f43 (fun _ h9 => h9) rfl dX5_ranked_59 ?_
          refine va_get (D := D) (ci := 3) (v := .ref (ad 55)) (C := RX3) (T := TX3) (N := 8) hx hb hts iX3 hown hK hP 4 rfl rfl 3 (Nat.le_of_ble_eq_true rfl) f187 (fun _ h9 => h9) rfl dX5_ranked_62 ?_
          refine lv_iload_n hx hb dX5_ranked_65 rfl (lv_at hl 3 rfl) ?_
          obtain ⟨v9, ev9, nv9, h⟩ := e_rd h
          refine xa_iald hx hb hK hP 8 rfl nv9 ev9 dX5_ranked_66 ?_
          refine lv_iload hx hb dX5_ranked_67 (lv_at hl 4 rfl) ?_
          refine lv_iload_n hx hb dX5_ranked_69 rfl (lv_at hl 1 rfl) ?_
          obtain ⟨q10, eq10, h⟩ := e_b h
          refine xv_i (As := [.int v9, .int x4, .int x1]) (rest := []) (ci := 3) (b := ad 51) ⟨hx, hb, hml, hown, hts⟩ hl.1 (kX3_told l D cA (fun i => ad (51 + i)) q8 v9 x4 x1  _ eq10) (cwV 3 hts gX5_ranked_X3_told rfl rfl rfl (by decide +kernel) ⟨Nat.le_of_ble_eq_true rfl, Nat.le_of_ble_eq_true rfl⟩) rfl hK hP hD hS hA 4 rfl rfl rfl [4, 5, 6, 7, 8] rfl (by decide +kernel) rfl (Nat.le_of_ble_eq_true rfl) dX5_ranked_70 ⟨Nat.zero_le _, Nat.zero_le _⟩ (fun H locs hP hD hS hnq10 => ?_)
          have hP : va_P D vwCl (wD_row_tally cA ad block ties lines pmn row q8) H := hP
          have hD : va_D A (wD_row_tally cA ad block ties lines pmn row q8) := hD
          obtain rfl := e_s h
          exact hret hP hS rfl dX5_ranked_73
        · have h := e_f c7 h
          refine lv_bipush (v := (-2)) hx hb dX5_ranked_44 (by decide) ?_
          obtain rfl := e_s h
          exact hret hP hS rfl dX5_ranked_46
      · have h := e_f (not_not_intro c5) h
        refine lv_iconst (v := (-1)) hx hb dX5_ranked_25 (by decide) ?_
        obtain rfl := e_s h
        exact hret hP hS rfl dX5_ranked_26
set_option maxHeartbeats 4000000 in
set_option maxRecDepth 100000 in
theorem kX5_rank (l : Launch) (D : va_G) (cA : Nat → ClassId) (ad : Nat → Nat) (block : Int32) (ties : Int32) (lines : Int32) (pmn : Int32) (row : RowT) (tally : TalT) (x1 : Int32) (x2 : Int32) (x3 : Int32) (q : Int32 × TalT) (h : mX5_rank ties row tally x1 x2 x3 = some q) : MI l yX5_rank wsX5_rank { frames := 3, cells := 0, slots := 0, locals := 66 } D cA .int [.ref (ad 0), .int x1, .int x2, .int x3] (wD_row_tally cA ad block ties lines pmn row tally) (wD_row_tally cA ad block ties lines pmn row q.2) q.1 := by
  refine MI.of (cc := cX5_rank) (maxL := 6) (by decide +kernel) rfl rfl rfl (Nat.le_of_ble_eq_true rfl) ?_
  intro p e s m args below meth c A ls Q hx hb hml hts hown hK hP hD hA hS hl hret
  have hl : lv_has ls 6 [(0, .ref (ad 0)), (1, .int x1), (2, .int x2), (3, .int x3)] := hl
  have f182 := hts (.fieldLink RX5 182 "ModeDesk$Tally" "kinds" "I") (by decide +kernel)
  have f187 := hts (.fieldLink RX5 187 "ModeDesk$Tally" "kind" "[I") (by decide +kernel)
  have f190 := hts (.fieldLink RX5 190 "ModeDesk$Tally" "number" "[I") (by decide +kernel)
  have f26 := hts (.fieldLink RX5 26 "ModeDesk" "row" "LModeDesk$Row;") (by decide +kernel)
  have f43 := hts (.fieldLink RX5 43 "ModeDesk" "tally" "LModeDesk$Tally;") (by decide +kernel)
  have iX3 : ∀ w ∈ wsX30, w ∈ wsX5_rank := by decide +kernel
  have iX5 : ∀ w ∈ wsX50, w ∈ wsX5_rank := by decide +kernel
  unfold mX5_rank at h
  refine lv_aload_n hx hb dX5_rank_0 rfl (lv_at hl 0 rfl) ?_
  refine va_get (D := D) (ci := 5) (v := .ref (ad 7)) (C := RX5) (T := TX5) (N := 12) hx hb hts iX5 hown hK hP 0 rfl rfl 2 (Nat.le_of_ble_eq_true rfl) f26 (fun _ h9 => h9) rfl dX5_rank_1 ?_
  refine lv_iload_n hx hb dX5_rank_4 rfl (lv_at hl 1 rfl) ?_
  refine lv_iload_n hx hb dX5_rank_5 rfl (lv_at hl 2 rfl) ?_
  obtain ⟨q1, eq1, h⟩ := e_b h
  refine xv_i (As := [.int x1, .int x2]) (rest := []) (ci := 2) (b := ad 7) ⟨hx, hb, hml, hown, hts⟩ hl.1 (kX2_hasSpan l D cA (fun i => ad (7 + i)) row x1 x2  _ eq1) (cwV 2 hts gX5_rank_X2_hasSpan rfl rfl rfl (by decide +kernel) ⟨Nat.le_of_ble_eq_true rfl, Nat.le_of_ble_eq_true rfl⟩) rfl hK hP hD hS hA 1 rfl rfl rfl [1, 2, 3] rfl (by decide +kernel) rfl (Nat.le_of_ble_eq_true rfl) dX5_rank_6 ⟨Nat.zero_le _, Nat.zero_le _⟩ (fun H locs hP hD hS hnq1 => ?_)
  have hP : va_P D vwCl (wD_row_tally cA ad block ties lines pmn row tally) H := hP
  have hD : va_D A (wD_row_tally cA ad block ties lines pmn row tally) := hD
  refine lv_if_eq (tgt := 19) hx hb dX5_rank_9 (by decide) (fun c2 => ?_) (fun c2 => ?_)
  · have h := e_t c2 h
    refine lv_iconst (v := (-1)) hx hb dX5_rank_19 (by decide) ?_
    obtain rfl := e_s h
    exact hret hP hS rfl dX5_rank_20
  · have h := e_f c2 h
    refine lv_iload_n hx hb dX5_rank_12 rfl (lv_at hl 3 rfl) ?_
    obtain ⟨q3, eq3, h⟩ := e_b h
    refine xs_i (As := [.int x3]) (rest := []) ⟨hx, hb, hml, hown, hts⟩ hl.1 (kX5_isValue l D cA   x3  _ eq3) (va_cwS 1 hts gX5_rank_X5_isValue rfl rfl rfl (by decide +kernel) ⟨Nat.le_of_ble_eq_true rfl, Nat.le_of_ble_eq_true rfl⟩) rfl hK hP hD hS hA [] rfl (by decide +kernel) rfl (Nat.le_of_ble_eq_true rfl) dX5_rank_13 ⟨Nat.zero_le _, Nat.zero_le _⟩ (fun H locs hP hD hS hnq3 => ?_)
    have hP : va_P D vwCl (wD_row_tally cA ad block ties lines pmn row tally) H := hP
    have hD : va_D A (wD_row_tally cA ad block ties lines pmn row tally) := hD
    refine lv_if_ne (tgt := 21) hx hb dX5_rank_16 (by decide) (fun c4 => ?_) (fun c4 => ?_)
    · have h := e_t c4 h
      refine lv_aload_n hx hb dX5_rank_21 rfl (lv_at hl 0 rfl) ?_
      refine lv_iload_n hx hb dX5_rank_22 rfl (lv_at hl 1 rfl) ?_
      refine lv_iload_n hx hb dX5_rank_23 rfl (lv_at hl 2 rfl) ?_
      obtain ⟨q5, eq5, h⟩ := e_b h
      refine xv_v0 (As := [.int x1, .int x2]) (rest := []) (ci := 5) (b := ad 0) ⟨hx, hb, hml, hown, hts⟩ hl.1 (kX5_tallySpan l D cA ad block ties lines pmn row tally x1 x2  _ eq5) (cwV 2 hts gX5_rank_X5_tallySpan rfl rfl rfl (by decide +kernel) ⟨Nat.le_of_ble_eq_true rfl, Nat.le_of_ble_eq_true rfl⟩) rfl hK hP hD hS hA 0 rfl rfl rfl rfl (Nat.le_of_ble_eq_true rfl) dX5_rank_24 ⟨Nat.zero_le _, Nat.zero_le _⟩ (fun H locs hP hD hS => ?_)
      have hP : va_P D vwCl (wD_row_tally cA ad block ties lines pmn row q5) H := hP
      have hD : va_D A (wD_row_tally cA ad block ties lines pmn row q5) := hD
      refine lv_aload_n hx hb dX5_rank_27 rfl (lv_at hl 0 rfl) ?_
      refine va_get (D := D) (ci := 5) (v := .ref (ad 51)) (C := RX5) (T := TX5) (N := 12) hx hb hts iX5 hown hK hP 0 rfl rfl 5 (Nat.le_of_ble_eq_true rfl) f43 (fun _ h9 => h9) rfl dX5_rank_28 ?_
      refine va_get (D := D) (ci := 3) (v := .ref (ad 52)) (C := RX3) (T := TX3) (N := 8) hx hb hts iX3 hown hK hP 4 rfl rfl 0 (Nat.le_of_ble_eq_true rfl) f190 (fun _ h9 => h9) rfl dX5_rank_31 ?_
      refine lv_iload_n hx hb dX5_rank_34 rfl (lv_at hl 3 rfl) ?_
      obtain ⟨v6, ev6, nv6, h⟩ := e_rd h
      refine xa_iald hx hb hK hP 5 rfl nv6 ev6 dX5_rank_35 ?_
      refine lv_if_ne (tgt := 42) hx hb dX5_rank_36 (by decide) (fun c7 => ?_) (fun c7 => ?_)
      · have h := e_t c7 h
        refine lv_iconst (v := 0) hx hb dX5_rank_42 (by decide) ?_
        refine lv_istore (lv' := [(4, .int 0), (0, .ref (ad 0)), (1, .int x1), (2, .int x2), (3, .int x3)]) hx hb dX5_rank_43 hl (by decide) rfl (fun ls hl => ?_)
        refine lv_iconst (v := 0) hx hb dX5_rank_45 (by decide) ?_
        refine lv_istore (lv' := [(5, .int 0), (4, .int 0), (0, .ref (ad 0)), (1, .int x1), (2, .int x2), (3, .int x3)]) hx hb dX5_rank_46 hl (by decide) rfl (fun ls hl => ?_)
        have hL48 : ∀ (n : Nat) (x3 : Int32) (x4 : Int32) (x5 : Int32) (block : Int32) (ties : Int32) (lines : Int32) (pmn : Int32) (row : RowT) (tally : TalT) (z8 : Int32) (ls : Array Slot) (H : Heap) (locs : List Loc), lv_has ls 6 [(0, .ref (ad 0)), (3, .int x3), (4, .int x4), (5, .int x5)] → va_P D vwCl (wD_row_tally cA ad block ties lines pmn row tally) H → va_D A (wD_row_tally cA ad block ties lines pmn row tally) → va_S A s.heap H locs → mX5_rank_L48 tally x3 n x4 x5 = some z8 → (∀ (ls : Array Slot) (H : Heap) (locs : List Loc), lv_has ls 6 [(4, .int z8)] → va_P D vwCl (wD_row_tally cA ad block ties lines pmn row tally) H → va_D A (wD_row_tally cA ad block ties lines pmn row tally) → va_S A s.heap H locs → W p l e (headSpec wsX5_rank { frames := 3, cells := 0, slots := 0, locals := 66 }).room s m args below meth c H locs 0 0 Q (F0 m 90 ls [])) → W p l e (headSpec wsX5_rank { frames := 3, cells := 0, slots := 0, locals := 66 }).room s m args below meth c H locs 0 0 Q (F0 m 48 ls []) := by
          intro n
          induction n with
          | zero => intro x3 x4 x5 block ties lines pmn row tally z8 ls H locs hl hP hD hS h hk48; exact e_n h
          | succ n ih48 =>
            intro x3 x4 x5 block ties lines pmn row tally z8 ls H locs hl hP hD hS h hk48
            rw [mX5_rank_L48.eq_2] at h
            refine lv_iload hx hb dX5_rank_48 (lv_at hl 3 rfl) ?_
            refine lv_aload_n hx hb dX5_rank_50 rfl (lv_at hl 0 rfl) ?_
            refine va_get (D := D) (ci := 5) (v := .ref (ad 51)) (C := RX5) (T := TX5) (N := 12) hx hb hts iX5 hown hK hP 0 rfl rfl 5 (Nat.le_of_ble_eq_true rfl) f43 (fun _ h9 => h9) rfl dX5_rank_51 ?_
            refine va_get (D := D) (ci := 3) (v := .int tally.2.2.2.2.1) (C := RX3) (T := TX3) (N := 8) hx hb hts iX3 hown hK hP 4 rfl rfl 4 (Nat.le_of_ble_eq_true rfl) f182 (fun _ h9 => h9) rfl dX5_rank_54 ?_
            refine lv_icmp_ge (tgt := 90) hx hb dX5_rank_57 (by decide) (fun c9 => ?_) (fun c9 => ?_)
            · have h := e_t c9 h
              obtain rfl := e_s h
              exact hk48 _ _ _ (lv_sub hl [2] rfl) hP hD hS
            · have h := e_f c9 h
              refine lv_aload_n hx hb dX5_rank_60 rfl (lv_at hl 0 rfl) ?_
              refine va_get (D := D) (ci := 5) (v := .ref (ad 51)) (C := RX5) (T := TX5) (N := 12) hx hb hts iX5 hown hK hP 0 rfl rfl 5 (Nat.le_of_ble_eq_true rfl) f43 (fun _ h9 => h9) rfl dX5_rank_61 ?_
              refine lv_aload_n hx hb dX5_rank_64 rfl (lv_at hl 0 rfl) ?_
              refine va_get (D := D) (ci := 5) (v := .ref (ad 51)) (C := RX5) (T := TX5) (N := 12) hx hb hts iX5 hown hK hP 0 rfl rfl 5 (Nat.le_of_ble_eq_true rfl) f43 (fun _ h9 => h9) rfl dX5_rank_65 ?_
              refine va_get (D := D) (ci := 3) (v := .ref (ad 55)) (C := RX3) (T := TX3) (N := 8) hx hb hts iX3 hown hK hP 4 rfl rfl 3 (Nat.le_of_ble_eq_true rfl) f187 (fun _ h9 => h9) rfl dX5_rank_68 ?_
              refine lv_iload hx hb dX5_rank_71 (lv_at hl 3 rfl) ?_
              obtain ⟨v10, ev10, nv10, h⟩ := e_rd h
              refine xa_iald hx hb hK hP 8 rfl nv10 ev10 dX5_rank_73 ?_
              refine lv_iload_n hx hb dX5_rank_74 rfl (lv_at hl 1 rfl) ?_
              obtain ⟨q11, eq11, h⟩ := e_b h
              refine xv_i (As := [.int v10, .int x3]) (rest := []) (ci := 3) (b := ad 51) ⟨hx, hb, hml, hown, hts⟩ hl.1 (kX3_isAhead l D cA (fun i => ad (51 + i)) tally v10 x3  _ eq11) (cwV 2 hts gX5_rank_X3_isAhead rfl rfl rfl (by decide +kernel) ⟨Nat.le_of_ble_eq_true rfl, Nat.le_of_ble_eq_true rfl⟩) rfl hK hP hD hS hA 4 rfl rfl rfl [4, 5, 6, 7, 8] rfl (by decide +kernel) rfl (Nat.le_of_ble_eq_true rfl) dX5_rank_75 ⟨Nat.zero_le _, Nat.zero_le _⟩ (fun H locs hP hD hS hnq11 => ?_)
              have hP : va_P D vwCl (wD_row_tally cA ad block ties lines pmn row tally) H := hP
              have hD : va_D A (wD_row_tally cA ad block ties lines pmn row tally) := hD
              refine lv_if_eq (tgt := 84) hx hb dX5_rank_78 (by decide) (fun c12 => ?_) (fun c12 => ?_)
              · have h := e_t c12 h
                refine lv_iinc (v := (x5 + 1)) (lv' := [(5, .int (x5 + 1)), (0, .ref (ad 0)), (3, .int x3), (4, .int x4)]) hx hb dX5_rank_84 hl (k := 3) rfl rfl (by decide) rfl (fun ls hl => ?_)
                refine lv_goto (tgt := 48) hx hb dX5_rank_87 (by decide) ?_
                exact ih48 x3 x4 (x5 + 1) block ties lines pmn row tally z8 _ _ _ (lv_sub hl [1, 2, 3, 0] rfl) hP hD hS h hk48
              · have h := e_f c12 h
                refine lv_iinc (v := (x4 + 1)) (lv' := [(4, .int (x4 + 1)), (0, .ref (ad 0)), (3, .int x3), (5, .int x5)]) hx hb dX5_rank_81 hl (k := 2) rfl rfl (by decide) rfl (fun ls hl => ?_)
                refine lv_iinc (v := (x5 + 1)) (lv' := [(5, .int (x5 + 1)), (4, .int (x4 + 1)), (0, .ref (ad 0)), (3, .int x3)]) hx hb dX5_rank_84 hl (k := 3) rfl rfl (by decide) rfl (fun ls hl => ?_)
                refine lv_goto (tgt := 48) hx hb dX5_rank_87 (by decide) ?_
                exact ih48 x3 (x4 + 1) (x5 + 1) block ties lines pmn row tally z8 _ _ _ (lv_sub hl [2, 3, 1, 0] rfl) hP hD hS h hk48
        obtain ⟨z13, ez13, h⟩ := e_b h
        refine hL48 FU x3 0 0 block ties lines pmn row q5 z13 _ _ _ (lv_sub hl [2, 5, 1, 0] rfl) hP hD hS ez13 (fun ls H locs hl hP hD hS => ?_)
        refine lv_iload hx hb dX5_rank_90 (lv_at hl 0 rfl) ?_
        obtain rfl := e_s h
        exact hret hP hS rfl dX5_rank_92
      · have h := e_f (not_not_intro c7) h
        refine lv_bipush (v := (-2)) hx hb dX5_rank_39 (by decide) ?_
        obtain rfl := e_s h
        exact hret hP hS rfl dX5_rank_41
    · have h := e_f (not_not_intro c4) h
      refine lv_iconst (v := (-1)) hx hb dX5_rank_19 (by decide) ?_
      obtain rfl := e_s h
      exact hret hP hS rfl dX5_rank_20
set_option maxHeartbeats 4000000 in
set_option maxRecDepth 100000 in
theorem kX5_often (l : Launch) (D : va_G) (cA : Nat → ClassId) (ad : Nat → Nat) (block : Int32) (ties : Int32) (lines : Int32) (pmn : Int32) (row : RowT) (x1 : Int32) (x2 : Int32) (x3 : Int32) (q : Int32) (h : mX5_often row x1 x2 x3 = some q) : MI l yX5_often wsX5_often { frames := 1, cells := 0, slots := 0, locals := 25 } D cA .int [.ref (ad 0), .int x1, .int x2, .int x3] (wD_row cA ad block ties lines pmn row) (wD_row cA ad block ties lines pmn row) q := by
  refine MI.of (cc := cX5_often) (maxL := 4) (by decide +kernel) rfl rfl rfl (Nat.le_of_ble_eq_true rfl) ?_
  intro p e s m args below meth c A ls Q hx hb hml hts hown hK hP hD hA hS hl hret
  have hl : lv_has ls 4 [(0, .ref (ad 0)), (1, .int x1), (2, .int x2), (3, .int x3)] := hl
  have f26 := hts (.fieldLink RX5 26 "ModeDesk" "row" "LModeDesk$Row;") (by decide +kernel)
  have iX5 : ∀ w ∈ wsX50, w ∈ wsX5_often := by decide +kernel
  unfold mX5_often at h
  refine lv_aload_n hx hb dX5_often_0 rfl (lv_at hl 0 rfl) ?_
  refine va_get (D := D) (ci := 5) (v := .ref (ad 7)) (C := RX5) (T := TX5) (N := 12) hx hb hts iX5 hown hK hP 0 rfl rfl 2 (Nat.le_of_ble_eq_true rfl) f26 (fun _ h9 => h9) rfl dX5_often_1 ?_
  refine lv_iload_n hx hb dX5_often_4 rfl (lv_at hl 1 rfl) ?_
  refine lv_iload_n hx hb dX5_often_5 rfl (lv_at hl 2 rfl) ?_
  obtain ⟨q1, eq1, h⟩ := e_b h
  refine xv_i (As := [.int x1, .int x2]) (rest := []) (ci := 2) (b := ad 7) ⟨hx, hb, hml, hown, hts⟩ hl.1 (kX2_hasSpan l D cA (fun i => ad (7 + i)) row x1 x2  _ eq1) (cwV 2 hts gX5_often_X2_hasSpan rfl rfl rfl (by decide +kernel) ⟨Nat.le_of_ble_eq_true rfl, Nat.le_of_ble_eq_true rfl⟩) rfl hK hP hD hS hA 1 rfl rfl rfl [1, 2, 3] rfl (by decide +kernel) rfl (Nat.le_of_ble_eq_true rfl) dX5_often_6 ⟨Nat.zero_le _, Nat.zero_le _⟩ (fun H locs hP hD hS hnq1 => ?_)
  have hP : va_P D vwCl (wD_row cA ad block ties lines pmn row) H := hP
  have hD : va_D A (wD_row cA ad block ties lines pmn row) := hD
  refine lv_if_eq (tgt := 19) hx hb dX5_often_9 (by decide) (fun c2 => ?_) (fun c2 => ?_)
  · have h := e_t c2 h
    refine lv_iconst (v := (-1)) hx hb dX5_often_19 (by decide) ?_
    obtain rfl := e_s h
    exact hret hP hS rfl dX5_often_20
  · have h := e_f c2 h
    refine lv_iload_n hx hb dX5_often_12 rfl (lv_at hl 3 rfl) ?_
    obtain ⟨q3, eq3, h⟩ := e_b h
    refine xs_i (As := [.int x3]) (rest := []) ⟨hx, hb, hml, hown, hts⟩ hl.1 (kX5_isValue l D cA   x3  _ eq3) (va_cwS 1 hts gX5_often_X5_isValue rfl rfl rfl (by decide +kernel) ⟨Nat.le_of_ble_eq_true rfl, Nat.le_of_ble_eq_true rfl⟩) rfl hK hP hD hS hA [] rfl (by decide +kernel) rfl (Nat.le_of_ble_eq_true rfl) dX5_often_13 ⟨Nat.zero_le _, Nat.zero_le _⟩ (fun H locs hP hD hS hnq3 => ?_)
    have hP : va_P D vwCl (wD_row cA ad block ties lines pmn row) H := hP
    have hD : va_D A (wD_row cA ad block ties lines pmn row) := hD
    refine lv_if_ne (tgt := 21) hx hb dX5_often_16 (by decide) (fun c4 => ?_) (fun c4 => ?_)
    · have h := e_t c4 h
      refine lv_aload_n hx hb dX5_often_21 rfl (lv_at hl 0 rfl) ?_
      refine va_get (D := D) (ci := 5) (v := .ref (ad 7)) (C := RX5) (T := TX5) (N := 12) hx hb hts iX5 hown hK hP 0 rfl rfl 2 (Nat.le_of_ble_eq_true rfl) f26 (fun _ h9 => h9) rfl dX5_often_22 ?_
      refine lv_iload_n hx hb dX5_often_25 rfl (lv_at hl 3 rfl) ?_
      refine lv_iload_n hx hb dX5_often_26 rfl (lv_at hl 1 rfl) ?_
      refine lv_iload_n hx hb dX5_often_27 rfl (lv_at hl 2 rfl) ?_
      obtain ⟨q5, eq5, h⟩ := e_b h
      refine xv_i (As := [.int x3, .int x1, .int x2]) (rest := []) (ci := 2) (b := ad 7) ⟨hx, hb, hml, hown, hts⟩ hl.1 (kX2_howOften l D cA (fun i => ad (7 + i)) row x3 x1 x2  _ eq5) (cwV 3 hts gX5_often_X2_howOften rfl rfl rfl (by decide +kernel) ⟨Nat.le_of_ble_eq_true rfl, Nat.le_of_ble_eq_true rfl⟩) rfl hK hP hD hS hA 1 rfl rfl rfl [1, 2, 3] rfl (by decide +kernel) rfl (Nat.le_of_ble_eq_true rfl) dX5_often_28 ⟨Nat.zero_le _, Nat.zero_le _⟩ (fun H locs hP hD hS hnq5 => ?_)
      have hP : va_P D vwCl (wD_row cA ad block ties lines pmn row) H := hP
      have hD : va_D A (wD_row cA ad block ties lines pmn row) := hD
      obtain rfl := e_s h
      exact hret hP hS rfl dX5_often_31
    · have h := e_f (not_not_intro c4) h
      refine lv_iconst (v := (-1)) hx hb dX5_often_19 (by decide) ?_
      obtain rfl := e_s h
      exact hret hP hS rfl dX5_often_20
set_option maxHeartbeats 4000000 in
set_option maxRecDepth 100000 in
theorem kX5_unlike (l : Launch) (D : va_G) (cA : Nat → ClassId) (ad : Nat → Nat) (block : Int32) (ties : Int32) (lines : Int32) (pmn : Int32) (row : RowT) (tally : TalT) (x1 : Int32) (x2 : Int32) (q : Int32 × TalT) (h : mX5_unlike ties row tally x1 x2 = some q) : MI l yX5_unlike wsX5_unlike { frames := 3, cells := 0, slots := 0, locals := 66 } D cA .int [.ref (ad 0), .int x1, .int x2] (wD_row_tally cA ad block ties lines pmn row tally) (wD_row_tally cA ad block ties lines pmn row q.2) q.1 := by
  refine MI.of (cc := cX5_unlike) (maxL := 3) (by decide +kernel) rfl rfl rfl (Nat.le_of_ble_eq_true rfl) ?_
  intro p e s m args below meth c A ls Q hx hb hml hts hown hK hP hD hA hS hl hret
  have hl : lv_has ls 3 [(0, .ref (ad 0)), (1, .int x1), (2, .int x2)] := hl
  have f182 := hts (.fieldLink RX5 182 "ModeDesk$Tally" "kinds" "I") (by decide +kernel)
  have f26 := hts (.fieldLink RX5 26 "ModeDesk" "row" "LModeDesk$Row;") (by decide +kernel)
  have f43 := hts (.fieldLink RX5 43 "ModeDesk" "tally" "LModeDesk$Tally;") (by decide +kernel)
  have iX3 : ∀ w ∈ wsX30, w ∈ wsX5_unlike := by decide +kernel
  have iX5 : ∀ w ∈ wsX50, w ∈ wsX5_unlike := by decide +kernel
  unfold mX5_unlike at h
  refine lv_aload_n hx hb dX5_unlike_0 rfl (lv_at hl 0 rfl) ?_
  refine va_get (D := D) (ci := 5) (v := .ref (ad 7)) (C := RX5) (T := TX5) (N := 12) hx hb hts iX5 hown hK hP 0 rfl rfl 2 (Nat.le_of_ble_eq_true rfl) f26 (fun _ h9 => h9) rfl dX5_unlike_1 ?_
  refine lv_iload_n hx hb dX5_unlike_4 rfl (lv_at hl 1 rfl) ?_
  refine lv_iload_n hx hb dX5_unlike_5 rfl (lv_at hl 2 rfl) ?_
  obtain ⟨q1, eq1, h⟩ := e_b h
  refine xv_i (As := [.int x1, .int x2]) (rest := []) (ci := 2) (b := ad 7) ⟨hx, hb, hml, hown, hts⟩ hl.1 (kX2_hasSpan l D cA (fun i => ad (7 + i)) row x1 x2  _ eq1) (cwV 2 hts gX5_unlike_X2_hasSpan rfl rfl rfl (by decide +kernel) ⟨Nat.le_of_ble_eq_true rfl, Nat.le_of_ble_eq_true rfl⟩) rfl hK hP hD hS hA 1 rfl rfl rfl [1, 2, 3] rfl (by decide +kernel) rfl (Nat.le_of_ble_eq_true rfl) dX5_unlike_6 ⟨Nat.zero_le _, Nat.zero_le _⟩ (fun H locs hP hD hS hnq1 => ?_)
  have hP : va_P D vwCl (wD_row_tally cA ad block ties lines pmn row tally) H := hP
  have hD : va_D A (wD_row_tally cA ad block ties lines pmn row tally) := hD
  refine lv_if_ne (tgt := 14) hx hb dX5_unlike_9 (by decide) (fun c2 => ?_) (fun c2 => ?_)
  · have h := e_t c2 h
    refine lv_aload_n hx hb dX5_unlike_14 rfl (lv_at hl 0 rfl) ?_
    refine lv_iload_n hx hb dX5_unlike_15 rfl (lv_at hl 1 rfl) ?_
    refine lv_iload_n hx hb dX5_unlike_16 rfl (lv_at hl 2 rfl) ?_
    obtain ⟨q3, eq3, h⟩ := e_b h
    refine xv_v0 (As := [.int x1, .int x2]) (rest := []) (ci := 5) (b := ad 0) ⟨hx, hb, hml, hown, hts⟩ hl.1 (kX5_tallySpan l D cA ad block ties lines pmn row tally x1 x2  _ eq3) (cwV 2 hts gX5_unlike_X5_tallySpan rfl rfl rfl (by decide +kernel) ⟨Nat.le_of_ble_eq_true rfl, Nat.le_of_ble_eq_true rfl⟩) rfl hK hP hD hS hA 0 rfl rfl rfl rfl (Nat.le_of_ble_eq_true rfl) dX5_unlike_17 ⟨Nat.zero_le _, Nat.zero_le _⟩ (fun H locs hP hD hS => ?_)
    have hP : va_P D vwCl (wD_row_tally cA ad block ties lines pmn row q3) H := hP
    have hD : va_D A (wD_row_tally cA ad block ties lines pmn row q3) := hD
    refine lv_aload_n hx hb dX5_unlike_20 rfl (lv_at hl 0 rfl) ?_
    refine va_get (D := D) (ci := 5) (v := .ref (ad 51)) (C := RX5) (T := TX5) (N := 12) hx hb hts iX5 hown hK hP 0 rfl rfl 5 (Nat.le_of_ble_eq_true rfl) f43 (fun _ h9 => h9) rfl dX5_unlike_21 ?_
    refine va_get (D := D) (ci := 3) (v := .int q3.2.2.2.2.1) (C := RX3) (T := TX3) (N := 8) hx hb hts iX3 hown hK hP 4 rfl rfl 4 (Nat.le_of_ble_eq_true rfl) f182 (fun _ h9 => h9) rfl dX5_unlike_24 ?_
    obtain rfl := e_s h
    exact hret hP hS rfl dX5_unlike_27
  · have h := e_f (not_not_intro c2) h
    refine lv_iconst (v := (-1)) hx hb dX5_unlike_12 (by decide) ?_
    obtain rfl := e_s h
    exact hret hP hS rfl dX5_unlike_13
set_option maxHeartbeats 4000000 in
set_option maxRecDepth 100000 in
theorem kX5_majority (l : Launch) (D : va_G) (cA : Nat → ClassId) (ad : Nat → Nat) (block : Int32) (ties : Int32) (lines : Int32) (pmn : Int32) (row : RowT) (tally : TalT) (x1 : Int32) (x2 : Int32) (q : Int32 × TalT) (h : mX5_majority ties row tally x1 x2 = some q) : MI l yX5_majority wsX5_majority { frames := 3, cells := 0, slots := 0, locals := 66 } D cA .int [.ref (ad 0), .int x1, .int x2] (wD_row_tally cA ad block ties lines pmn row tally) (wD_row_tally cA ad block ties lines pmn row q.2) q.1 := by
  refine MI.of (cc := cX5_majority) (maxL := 3) (by decide +kernel) rfl rfl rfl (Nat.le_of_ble_eq_true rfl) ?_
  intro p e s m args below meth c A ls Q hx hb hml hts hown hK hP hD hA hS hl hret
  have hl : lv_has ls 3 [(0, .ref (ad 0)), (1, .int x1), (2, .int x2)] := hl
  have f176 := hts (.fieldLink RX5 176 "ModeDesk$Tally" "best" "I") (by decide +kernel)
  have f26 := hts (.fieldLink RX5 26 "ModeDesk" "row" "LModeDesk$Row;") (by decide +kernel)
  have f43 := hts (.fieldLink RX5 43 "ModeDesk" "tally" "LModeDesk$Tally;") (by decide +kernel)
  have iX3 : ∀ w ∈ wsX30, w ∈ wsX5_majority := by decide +kernel
  have iX5 : ∀ w ∈ wsX50, w ∈ wsX5_majority := by decide +kernel
  unfold mX5_majority at h
  refine lv_aload_n hx hb dX5_majority_0 rfl (lv_at hl 0 rfl) ?_
  refine va_get (D := D) (ci := 5) (v := .ref (ad 7)) (C := RX5) (T := TX5) (N := 12) hx hb hts iX5 hown hK hP 0 rfl rfl 2 (Nat.le_of_ble_eq_true rfl) f26 (fun _ h9 => h9) rfl dX5_majority_1 ?_
  refine lv_iload_n hx hb dX5_majority_4 rfl (lv_at hl 1 rfl) ?_
  refine lv_iload_n hx hb dX5_majority_5 rfl (lv_at hl 2 rfl) ?_
  obtain ⟨q1, eq1, h⟩ := e_b h
  refine xv_i (As := [.int x1, .int x2]) (rest := []) (ci := 2) (b := ad 7) ⟨hx, hb, hml, hown, hts⟩ hl.1 (kX2_hasSpan l D cA (fun i => ad (7 + i)) row x1 x2  _ eq1) (cwV 2 hts gX5_majority_X2_hasSpan rfl rfl rfl (by decide +kernel) ⟨Nat.le_of_ble_eq_true rfl, Nat.le_of_ble_eq_true rfl⟩) rfl hK hP hD hS hA 1 rfl rfl rfl [1, 2, 3] rfl (by decide +kernel) rfl (Nat.le_of_ble_eq_true rfl) dX5_majority_6 ⟨Nat.zero_le _, Nat.zero_le _⟩ (fun H locs hP hD hS hnq1 => ?_)
  have hP : va_P D vwCl (wD_row_tally cA ad block ties lines pmn row tally) H := hP
  have hD : va_D A (wD_row_tally cA ad block ties lines pmn row tally) := hD
  refine lv_if_ne (tgt := 14) hx hb dX5_majority_9 (by decide) (fun c2 => ?_) (fun c2 => ?_)
  · have h := e_t c2 h
    refine lv_aload_n hx hb dX5_majority_14 rfl (lv_at hl 0 rfl) ?_
    refine lv_iload_n hx hb dX5_majority_15 rfl (lv_at hl 1 rfl) ?_
    refine lv_iload_n hx hb dX5_majority_16 rfl (lv_at hl 2 rfl) ?_
    obtain ⟨q3, eq3, h⟩ := e_b h
    refine xv_v0 (As := [.int x1, .int x2]) (rest := []) (ci := 5) (b := ad 0) ⟨hx, hb, hml, hown, hts⟩ hl.1 (kX5_tallySpan l D cA ad block ties lines pmn row tally x1 x2  _ eq3) (cwV 2 hts gX5_majority_X5_tallySpan rfl rfl rfl (by decide +kernel) ⟨Nat.le_of_ble_eq_true rfl, Nat.le_of_ble_eq_true rfl⟩) rfl hK hP hD hS hA 0 rfl rfl rfl rfl (Nat.le_of_ble_eq_true rfl) dX5_majority_17 ⟨Nat.zero_le _, Nat.zero_le _⟩ (fun H locs hP hD hS => ?_)
    have hP : va_P D vwCl (wD_row_tally cA ad block ties lines pmn row q3) H := hP
    have hD : va_D A (wD_row_tally cA ad block ties lines pmn row q3) := hD
    refine lv_aload_n hx hb dX5_majority_20 rfl (lv_at hl 0 rfl) ?_
    refine va_get (D := D) (ci := 5) (v := .ref (ad 51)) (C := RX5) (T := TX5) (N := 12) hx hb hts iX5 hown hK hP 0 rfl rfl 5 (Nat.le_of_ble_eq_true rfl) f43 (fun _ h9 => h9) rfl dX5_majority_21 ?_
    obtain ⟨q4, eq4, h⟩ := e_b h
    refine xv_i (As := []) (rest := []) (ci := 3) (b := ad 51) ⟨hx, hb, hml, hown, hts⟩ hl.1 (kX3_hasMajority l D cA (fun i => ad (51 + i)) q3   _ eq4) (cwV 0 hts gX5_majority_X3_hasMajority rfl rfl rfl (by decide +kernel) ⟨Nat.le_of_ble_eq_true rfl, Nat.le_of_ble_eq_true rfl⟩) rfl hK hP hD hS hA 4 rfl rfl rfl [4, 5, 6, 7, 8] rfl (by decide +kernel) rfl (Nat.le_of_ble_eq_true rfl) dX5_majority_24 ⟨Nat.zero_le _, Nat.zero_le _⟩ (fun H locs hP hD hS hnq4 => ?_)
    have hP : va_P D vwCl (wD_row_tally cA ad block ties lines pmn row q3) H := hP
    have hD : va_D A (wD_row_tally cA ad block ties lines pmn row q3) := hD
    refine lv_if_eq (tgt := 40) hx hb dX5_majority_27 (by decide) (fun c5 => ?_) (fun c5 => ?_)
    · have h := e_t c5 h
      refine lv_bipush (v := (-2)) hx hb dX5_majority_40 (by decide) ?_
      obtain rfl := e_s h
      exact hret hP hS rfl dX5_majority_42
    · have h := e_f c5 h
      refine lv_aload_n hx hb dX5_majority_30 rfl (lv_at hl 0 rfl) ?_
      refine va_get (D := D) (ci := 5) (v := .ref (ad 51)) (C := RX5) (T := TX5) (N := 12) hx hb hts iX5 hown hK hP 0 rfl rfl 5 (Nat.le_of_ble_eq_true rfl) f43 (fun _ h9 => h9) rfl dX5_majority_31 ?_
      refine va_get (D := D) (ci := 3) (v := .int q3.2.2.2.2.2.2.1) (C := RX3) (T := TX3) (N := 8) hx hb hts iX3 hown hK hP 4 rfl rfl 6 (Nat.le_of_ble_eq_true rfl) f176 (fun _ h9 => h9) rfl dX5_majority_34 ?_
      refine lv_goto (tgt := 42) hx hb dX5_majority_37 (by decide) ?_
      obtain rfl := e_s h
      exact hret hP hS rfl dX5_majority_42
  · have h := e_f (not_not_intro c2) h
    refine lv_iconst (v := (-1)) hx hb dX5_majority_12 (by decide) ?_
    obtain rfl := e_s h
    exact hret hP hS rfl dX5_majority_13
set_option maxHeartbeats 4000000 in
set_option maxRecDepth 100000 in
theorem kX5_heaviest (l : Launch) (D : va_G) (cA : Nat → ClassId) (ad : Nat → Nat) (block : Int32) (ties : Int32) (lines : Int32) (pmn : Int32) (row : RowT) (tally : TalT) (x1 : Int32) (x2 : Int32) (x3 : Int32) (q : Int32 × TalT) (h : mX5_heaviest ties row tally x1 x2 x3 = some q) : MI l yX5_heaviest wsX5_heaviest { frames := 3, cells := 0, slots := 0, locals := 66 } D cA .int [.ref (ad 0), .int x1, .int x2, .int x3] (wD_row_tally cA ad block ties lines pmn row tally) (wD_row_tally cA ad block ties lines pmn row q.2) q.1 := by
  refine MI.of (cc := cX5_heaviest) (maxL := 9) (by decide +kernel) rfl rfl rfl (Nat.le_of_ble_eq_true rfl) ?_
  intro p e s m args below meth c A ls Q hx hb hml hts hown hK hP hD hA hS hl hret
  have hl : lv_has ls 9 [(0, .ref (ad 0)), (1, .int x1), (2, .int x2), (3, .int x3)] := hl
  have f176 := hts (.fieldLink RX5 176 "ModeDesk$Tally" "best" "I") (by decide +kernel)
  have f182 := hts (.fieldLink RX5 182 "ModeDesk$Tally" "kinds" "I") (by decide +kernel)
  have f187 := hts (.fieldLink RX5 187 "ModeDesk$Tally" "kind" "[I") (by decide +kernel)
  have f26 := hts (.fieldLink RX5 26 "ModeDesk" "row" "LModeDesk$Row;") (by decide +kernel)
  have f43 := hts (.fieldLink RX5 43 "ModeDesk" "tally" "LModeDesk$Tally;") (by decide +kernel)
  have iX3 : ∀ w ∈ wsX30, w ∈ wsX5_heaviest := by decide +kernel
  have iX5 : ∀ w ∈ wsX50, w ∈ wsX5_heaviest := by decide +kernel
  unfold mX5_heaviest at h
  refine lv_aload_n hx hb dX5_heaviest_0 rfl (lv_at hl 0 rfl) ?_
  refine va_get (D := D) (ci := 5) (v := .ref (ad 7)) (C := RX5) (T := TX5) (N := 12) hx hb hts iX5 hown hK hP 0 rfl rfl 2 (Nat.le_of_ble_eq_true rfl) f26 (fun _ h9 => h9) rfl dX5_heaviest_1 ?_
  refine lv_iload_n hx hb dX5_heaviest_4 rfl (lv_at hl 1 rfl) ?_
  refine lv_iload_n hx hb dX5_heaviest_5 rfl (lv_at hl 2 rfl) ?_
  obtain ⟨q1, eq1, h⟩ := e_b h
  refine xv_i (As := [.int x1, .int x2]) (rest := []) (ci := 2) (b := ad 7) ⟨hx, hb, hml, hown, hts⟩ hl.1 (kX2_hasSpan l D cA (fun i => ad (7 + i)) row x1 x2  _ eq1) (cwV 2 hts gX5_heaviest_X2_hasSpan rfl rfl rfl (by decide +kernel) ⟨Nat.le_of_ble_eq_true rfl, Nat.le_of_ble_eq_true rfl⟩) rfl hK hP hD hS hA 1 rfl rfl rfl [1, 2, 3] rfl (by decide +kernel) rfl (Nat.le_of_ble_eq_true rfl) dX5_heaviest_6 ⟨Nat.zero_le _, Nat.zero_le _⟩ (fun H locs hP hD hS hnq1 => ?_)
  have hP : va_P D vwCl (wD_row_tally cA ad block ties lines pmn row tally) H := hP
  have hD : va_D A (wD_row_tally cA ad block ties lines pmn row tally) := hD
  refine lv_if_eq (tgt := 20) hx hb dX5_heaviest_9 (by decide) (fun c2 => ?_) (fun c2 => ?_)
  · have h := e_t c2 h
    refine lv_iconst (v := (-1)) hx hb dX5_heaviest_20 (by decide) ?_
    obtain rfl := e_s h
    exact hret hP hS rfl dX5_heaviest_21
  · have h := e_f c2 h
    refine lv_iload_n hx hb dX5_heaviest_12 rfl (lv_at hl 3 rfl) ?_
    refine lv_iconst (v := 2) hx hb dX5_heaviest_13 (by decide) ?_
    obtain ⟨q3, eq3, h⟩ := e_b h
    refine xs_i (As := [.int x3, .int 2]) (rest := []) ⟨hx, hb, hml, hown, hts⟩ hl.1 (kX5_isBelow l D cA   x3 2  _ eq3) (va_cwS 2 hts gX5_heaviest_X5_isBelow rfl rfl rfl (by decide +kernel) ⟨Nat.le_of_ble_eq_true rfl, Nat.le_of_ble_eq_true rfl⟩) rfl hK hP hD hS hA [] rfl (by decide +kernel) rfl (Nat.le_of_ble_eq_true rfl) dX5_heaviest_14 ⟨Nat.zero_le _, Nat.zero_le _⟩ (fun H locs hP hD hS hnq3 => ?_)
    have hP : va_P D vwCl (wD_row_tally cA ad block ties lines pmn row tally) H := hP
    have hD : va_D A (wD_row_tally cA ad block ties lines pmn row tally) := hD
    refine lv_if_ne (tgt := 22) hx hb dX5_heaviest_17 (by decide) (fun c4 => ?_) (fun c4 => ?_)
    · have h := e_t c4 h
      refine lv_aload_n hx hb dX5_heaviest_22 rfl (lv_at hl 0 rfl) ?_
      refine lv_iload_n hx hb dX5_heaviest_23 rfl (lv_at hl 1 rfl) ?_
      refine lv_iload_n hx hb dX5_heaviest_24 rfl (lv_at hl 2 rfl) ?_
      obtain ⟨q5, eq5, h⟩ := e_b h
      refine xv_v0 (As := [.int x1, .int x2]) (rest := []) (ci := 5) (b := ad 0) ⟨hx, hb, hml, hown, hts⟩ hl.1 (kX5_tallySpan l D cA ad block ties lines pmn row tally x1 x2  _ eq5) (cwV 2 hts gX5_heaviest_X5_tallySpan rfl rfl rfl (by decide +kernel) ⟨Nat.le_of_ble_eq_true rfl, Nat.le_of_ble_eq_true rfl⟩) rfl hK hP hD hS hA 0 rfl rfl rfl rfl (Nat.le_of_ble_eq_true rfl) dX5_heaviest_25 ⟨Nat.zero_le _, Nat.zero_le _⟩ (fun H locs hP hD hS => ?_)
      have hP : va_P D vwCl (wD_row_tally cA ad block ties lines pmn row q5) H := hP
      have hD : va_D A (wD_row_tally cA ad block ties lines pmn row q5) := hD
      refine lv_aload_n hx hb dX5_heaviest_28 rfl (lv_at hl 0 rfl) ?_
      refine va_get (D := D) (ci := 5) (v := .ref (ad 51)) (C := RX5) (T := TX5) (N := 12) hx hb hts iX5 hown hK hP 0 rfl rfl 5 (Nat.le_of_ble_eq_true rfl) f43 (fun _ h9 => h9) rfl dX5_heaviest_29 ?_
      refine va_get (D := D) (ci := 3) (v := .int q5.2.2.2.2.2.2.1) (C := RX3) (T := TX3) (N := 8) hx hb hts iX3 hown hK hP 4 rfl rfl 6 (Nat.le_of_ble_eq_true rfl) f176 (fun _ h9 => h9) rfl dX5_heaviest_32 ?_
      refine lv_istore (lv' := [(4, .int q5.2.2.2.2.2.2.1), (0, .ref (ad 0)), (1, .int x1), (2, .int x2), (3, .int x3)]) hx hb dX5_heaviest_35 hl (by decide) rfl (fun ls hl => ?_)
      refine lv_iconst (v := 0) hx hb dX5_heaviest_37 (by decide) ?_
      refine lv_istore (lv' := [(5, .int 0), (4, .int q5.2.2.2.2.2.2.1), (0, .ref (ad 0)), (1, .int x1), (2, .int x2), (3, .int x3)]) hx hb dX5_heaviest_38 hl (by decide) rfl (fun ls hl => ?_)
      refine lv_iconst (v := 0) hx hb dX5_heaviest_40 (by decide) ?_
      refine lv_istore (lv' := [(6, .int 0), (5, .int 0), (4, .int q5.2.2.2.2.2.2.1), (0, .ref (ad 0)), (1, .int x1), (2, .int x2), (3, .int x3)]) hx hb dX5_heaviest_41 hl (by decide) rfl (fun ls hl => ?_)
      have hL43 : ∀ (n : Nat) (x1 : Int32) (x2 : Int32) (x3 : Int32) (x4 : Int32) (x5 : Int32) (x6 : Int32) (block : Int32) (ties : Int32) (lines : Int32) (pmn : Int32) (row : RowT) (tally : TalT) (z6 : Int32 × Int32) (ls : Array Slot) (H : Heap) (locs : List Loc), lv_has ls 9 [(0, .ref (ad 0)), (1, .int x1), (2, .int x2), (3, .int x3), (4, .int x4), (5, .int x5), (6, .int x6)] → va_P D vwCl (wD_row_tally cA ad block ties lines pmn row tally) H → va_D A (wD_row_tally cA ad block ties lines pmn row tally) → va_S A s.heap H locs → mX5_heaviest_L43 row tally x1 x2 n x4 x5 x6 = some z6 → (∀ (ls : Array Slot) (H : Heap) (locs : List Loc), lv_has ls 9 [(3, .int x3), (4, .int z6.1), (5, .int z6.2)] → va_P D vwCl (wD_row_tally cA ad block ties lines pmn row tally) H → va_D A (wD_row_tally cA ad block ties lines pmn row tally) → va_S A s.heap H locs → W p l e (headSpec wsX5_heaviest { frames := 3, cells := 0, slots := 0, locals := 66 }).room s m args below meth c H locs 0 0 Q (F0 m 122 ls [])) → W p l e (headSpec wsX5_heaviest { frames := 3, cells := 0, slots := 0, locals := 66 }).room s m args below meth c H locs 0 0 Q (F0 m 43 ls []) := by
        intro n
        induction n with
        | zero => intro x1 x2 x3 x4 x5 x6 block ties lines pmn row tally z6 ls H locs hl hP hD hS h hk43; exact e_n h
        | succ n ih43 =>
          intro x1 x2 x3 x4 x5 x6 block ties lines pmn row tally z6 ls H locs hl hP hD hS h hk43
          rw [mX5_heaviest_L43.eq_2] at h
          refine lv_iload hx hb dX5_heaviest_43 (lv_at hl 6 rfl) ?_
          refine lv_aload_n hx hb dX5_heaviest_45 rfl (lv_at hl 0 rfl) ?_
          refine va_get (D := D) (ci := 5) (v := .ref (ad 51)) (C := RX5) (T := TX5) (N := 12) hx hb hts iX5 hown hK hP 0 rfl rfl 5 (Nat.le_of_ble_eq_true rfl) f43 (fun _ h9 => h9) rfl dX5_heaviest_46 ?_
          refine va_get (D := D) (ci := 3) (v := .int tally.2.2.2.2.1) (C := RX3) (T := TX3) (N := 8) hx hb hts iX3 hown hK hP 4 rfl rfl 4 (Nat.le_of_ble_eq_true rfl) f182 (fun _ h9 => h9) rfl dX5_heaviest_49 ?_
          refine lv_icmp_ge (tgt := 122) hx hb dX5_heaviest_52 (by decide) (fun c7 => ?_) (fun c7 => ?_)
          · have h := e_t c7 h
            obtain rfl := e_s h
            exact hk43 _ _ _ (lv_sub hl [3, 4, 5] rfl) hP hD hS
          · have h := e_f c7 h
            refine lv_aload_n hx hb dX5_heaviest_55 rfl (lv_at hl 0 rfl) ?_
            refine va_get (D := D) (ci := 5) (v := .ref (ad 51)) (C := RX5) (T := TX5) (N := 12) hx hb hts iX5 hown hK hP 0 rfl rfl 5 (Nat.le_of_ble_eq_true rfl) f43 (fun _ h9 => h9) rfl dX5_heaviest_56 ?_
            refine va_get (D := D) (ci := 3) (v := .ref (ad 55)) (C := RX3) (T := TX3) (N := 8) hx hb hts iX3 hown hK hP 4 rfl rfl 3 (Nat.le_of_ble_eq_true rfl) f187 (fun _ h9 => h9) rfl dX5_heaviest_59 ?_
            refine lv_iload hx hb dX5_heaviest_62 (lv_at hl 6 rfl) ?_
            obtain ⟨v8, ev8, nv8, h⟩ := e_rd h
            refine xa_iald hx hb hK hP 8 rfl nv8 ev8 dX5_heaviest_64 ?_
            refine lv_istore (lv' := [(7, .int v8), (0, .ref (ad 0)), (1, .int x1), (2, .int x2), (3, .int x3), (4, .int x4), (5, .int x5), (6, .int x6)]) hx hb dX5_heaviest_65 hl (by decide) rfl (fun ls hl => ?_)
            refine lv_aload_n hx hb dX5_heaviest_67 rfl (lv_at hl 1 rfl) ?_
            refine va_get (D := D) (ci := 5) (v := .ref (ad 7)) (C := RX5) (T := TX5) (N := 12) hx hb hts iX5 hown hK hP 0 rfl rfl 2 (Nat.le_of_ble_eq_true rfl) f26 (fun _ h9 => h9) rfl dX5_heaviest_68 ?_
            refine lv_iload hx hb dX5_heaviest_71 (lv_at hl 0 rfl) ?_
            refine lv_iload_n hx hb dX5_heaviest_73 rfl (lv_at hl 2 rfl) ?_
            refine lv_iload_n hx hb dX5_heaviest_74 rfl (lv_at hl 3 rfl) ?_
            obtain ⟨q9, eq9, h⟩ := e_b h
            refine xv_i (As := [.int v8, .int x1, .int x2]) (rest := []) (ci := 2) (b := ad 7) ⟨hx, hb, hml, hown, hts⟩ hl.1 (kX2_weightOf l D cA (fun i => ad (7 + i)) row v8 x1 x2  _ eq9) (cwV 3 hts gX5_heaviest_X2_weightOf rfl rfl rfl (by decide +kernel) ⟨Nat.le_of_ble_eq_true rfl, Nat.le_of_ble_eq_true rfl⟩) rfl hK hP hD hS hA 1 rfl rfl rfl [1, 2, 3] rfl (by decide +kernel) rfl (Nat.le_of_ble_eq_true rfl) dX5_heaviest_75 ⟨Nat.zero_le _, Nat.zero_le _⟩ (fun H locs hP hD hS hnq9 => ?_)
            have hP : va_P D vwCl (wD_row_tally cA ad block ties lines pmn row tally) H := hP
            have hD : va_D A (wD_row_tally cA ad block ties lines pmn row tally) := hD
            refine lv_istore (lv' := [(8, .int q9), (7, .int v8), (0, .ref (ad 0)), (1, .int x1), (2, .int x2), (3, .int x3), (4, .int x4), (5, .int x5), (6, .int x6)]) hx hb dX5_heaviest_78 hl (by decide) rfl (fun ls hl => ?_)
            refine lv_iload hx hb dX5_heaviest_80 (lv_at hl 0 rfl) ?_
            refine lv_iload hx hb dX5_heaviest_82 (lv_at hl 7 rfl) ?_
            refine lv_icmp_gt (tgt := 108) hx hb dX5_heaviest_84 (by decide) (fun c10 => ?_) (fun c10 => ?_)
            · have h := e_t c10 h
              refine lv_iload hx hb dX5_heaviest_108 (lv_at hl 1 rfl) ?_
              refine lv_istore (lv' := [(4, .int v8), (8, .int q9), (7, .int v8), (0, .ref (ad 0)), (1, .int x1), (2, .int x2), (3, .int x3), (5, .int x5), (6, .int x6)]) hx hb dX5_heaviest_110 hl (by decide) rfl (fun ls hl => ?_)
              refine lv_iload hx hb dX5_heaviest_112 (lv_at hl 1 rfl) ?_
              refine lv_istore (lv' := [(5, .int q9), (4, .int v8), (8, .int q9), (7, .int v8), (0, .ref (ad 0)), (1, .int x1), (2, .int x2), (3, .int x3), (6, .int x6)]) hx hb dX5_heaviest_114 hl (by decide) rfl (fun ls hl => ?_)
              refine lv_iinc (v := (x6 + 1)) (lv' := [(6, .int (x6 + 1)), (5, .int q9), (4, .int v8), (8, .int q9), (7, .int v8), (0, .ref (ad 0)), (1, .int x1), (2, .int x2), (3, .int x3)]) hx hb dX5_heaviest_116 hl (k := 8) rfl rfl (by decide) rfl (fun ls hl => ?_)
              refine lv_goto (tgt := 43) hx hb dX5_heaviest_119 (by decide) ?_
              exact ih43 x1 x2 x3 v8 q9 (x6 + 1) block ties lines pmn row tally z6 _ _ _ (lv_sub hl [5, 6, 7, 8, 2, 1, 0] rfl) hP hD hS h hk43
            · have h := e_f c10 h
              refine lv_iload hx hb dX5_heaviest_87 (lv_at hl 0 rfl) ?_
              refine lv_iload hx hb dX5_heaviest_89 (lv_at hl 7 rfl) ?_
              refine lv_icmp_ne (tgt := 116) hx hb dX5_heaviest_91 (by decide) (fun c11 => ?_) (fun c11 => ?_)
              · have h := e_t c11 h
                refine lv_iinc (v := (x6 + 1)) (lv' := [(6, .int (x6 + 1)), (8, .int q9), (7, .int v8), (0, .ref (ad 0)), (1, .int x1), (2, .int x2), (3, .int x3), (4, .int x4), (5, .int x5)]) hx hb dX5_heaviest_116 hl (k := 8) rfl rfl (by decide) rfl (fun ls hl => ?_)
                refine lv_goto (tgt := 43) hx hb dX5_heaviest_119 (by decide) ?_
                exact ih43 x1 x2 x3 x4 x5 (x6 + 1) block ties lines pmn row tally z6 _ _ _ (lv_sub hl [3, 4, 5, 6, 7, 8, 0] rfl) hP hD hS h hk43
              · have h := e_f (not_not_intro c11) h
                refine lv_aload_n hx hb dX5_heaviest_94 rfl (lv_at hl 2 rfl) ?_
                refine va_get (D := D) (ci := 5) (v := .ref (ad 51)) (C := RX5) (T := TX5) (N := 12) hx hb hts iX5 hown hK hP 0 rfl rfl 5 (Nat.le_of_ble_eq_true rfl) f43 (fun _ h9 => h9) rfl dX5_heaviest_95 ?_
                refine lv_iload hx hb dX5_heaviest_98 (lv_at hl 1 rfl) ?_
                refine lv_iload hx hb dX5_heaviest_100 (lv_at hl 6 rfl) ?_
                obtain ⟨q12, eq12, h⟩ := e_b h
                refine xv_i (As := [.int v8, .int x4]) (rest := []) (ci := 3) (b := ad 51) ⟨hx, hb, hml, hown, hts⟩ hl.1 (kX3_isAhead l D cA (fun i => ad (51 + i)) tally v8 x4  _ eq12) (cwV 2 hts gX5_heaviest_X3_isAhead rfl rfl rfl (by decide +kernel) ⟨Nat.le_of_ble_eq_true rfl, Nat.le_of_ble_eq_true rfl⟩) rfl hK hP hD hS hA 4 rfl rfl rfl [4, 5, 6, 7, 8] rfl (by decide +kernel) rfl (Nat.le_of_ble_eq_true rfl) dX5_heaviest_102 ⟨Nat.zero_le _, Nat.zero_le _⟩ (fun H locs hP hD hS hnq12 => ?_)
                have hP : va_P D vwCl (wD_row_tally cA ad block ties lines pmn row tally) H := hP
                have hD : va_D A (wD_row_tally cA ad block ties lines pmn row tally) := hD
                refine lv_if_eq (tgt := 116) hx hb dX5_heaviest_105 (by decide) (fun c13 => ?_) (fun c13 => ?_)
                · have h := e_t c13 h
                  refine lv_iinc (v := (x6 + 1)) (lv' := [(6, .int (x6 + 1)), (8, .int q9), (7, .int v8), (0, .ref (ad 0)), (1, .int x1), (2, .int x2), (3, .int x3), (4, .int x4), (5, .int x5)]) hx hb dX5_heaviest_116 hl (k := 8) rfl rfl (by decide) rfl (fun ls hl => ?_)
                  refine lv_goto (tgt := 43) hx hb dX5_heaviest_119 (by decide) ?_
                  exact ih43 x1 x2 x3 x4 x5 (x6 + 1) block ties lines pmn row tally z6 _ _ _ (lv_sub hl [3, 4, 5, 6, 7, 8, 0] rfl) hP hD hS h hk43
                · have h := e_f c13 h
                  refine lv_iload hx hb dX5_heaviest_108 (lv_at hl 1 rfl) ?_
                  refine lv_istore (lv' := [(4, .int v8), (8, .int q9), (7, .int v8), (0, .ref (ad 0)), (1, .int x1), (2, .int x2), (3, .int x3), (5, .int x5), (6, .int x6)]) hx hb dX5_heaviest_110 hl (by decide) rfl (fun ls hl => ?_)
                  refine lv_iload hx hb dX5_heaviest_112 (lv_at hl 1 rfl) ?_
                  refine lv_istore (lv' := [(5, .int q9), (4, .int v8), (8, .int q9), (7, .int v8), (0, .ref (ad 0)), (1, .int x1), (2, .int x2), (3, .int x3), (6, .int x6)]) hx hb dX5_heaviest_114 hl (by decide) rfl (fun ls hl => ?_)
                  refine lv_iinc (v := (x6 + 1)) (lv' := [(6, .int (x6 + 1)), (5, .int q9), (4, .int v8), (8, .int q9), (7, .int v8), (0, .ref (ad 0)), (1, .int x1), (2, .int x2), (3, .int x3)]) hx hb dX5_heaviest_116 hl (k := 8) rfl rfl (by decide) rfl (fun ls hl => ?_)
                  refine lv_goto (tgt := 43) hx hb dX5_heaviest_119 (by decide) ?_
                  exact ih43 x1 x2 x3 v8 q9 (x6 + 1) block ties lines pmn row tally z6 _ _ _ (lv_sub hl [5, 6, 7, 8, 2, 1, 0] rfl) hP hD hS h hk43
      obtain ⟨z14, ez14, h⟩ := e_b h
      refine hL43 FU x1 x2 x3 q5.2.2.2.2.2.2.1 0 0 block ties lines pmn row q5 z14 _ _ _ (lv_sub hl [3, 4, 5, 6, 2, 1, 0] rfl) hP hD hS ez14 (fun ls H locs hl hP hD hS => ?_)
      refine lv_iload_n hx hb dX5_heaviest_122 rfl (lv_at hl 0 rfl) ?_
      refine lv_if_ne (tgt := 131) hx hb dX5_heaviest_123 (by decide) (fun c15 => ?_) (fun c15 => ?_)
      · have h := e_t c15 h
        refine lv_iload hx hb dX5_heaviest_131 (lv_at hl 2 rfl) ?_
        obtain rfl := e_s h
        exact hret hP hS rfl dX5_heaviest_133
      · have h := e_f (not_not_intro c15) h
        refine lv_iload hx hb dX5_heaviest_126 (lv_at hl 1 rfl) ?_
        refine lv_goto (tgt := 133) hx hb dX5_heaviest_128 (by decide) ?_
        obtain rfl := e_s h
        exact hret hP hS rfl dX5_heaviest_133
    · have h := e_f (not_not_intro c4) h
      refine lv_iconst (v := (-1)) hx hb dX5_heaviest_20 (by decide) ?_
      obtain rfl := e_s h
      exact hret hP hS rfl dX5_heaviest_21

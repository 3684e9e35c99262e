set_option maxHeartbeats 4000000 in
set_option maxRecDepth 100000 in
theorem kX5_feed (l : Launch) (D : va_G) (cA : Nat → ClassId) (ad : Nat → Nat) (block : Int32) (ties : Int32) (lines : Int32) (pmn : Int32) (tape : TapT) (x1 : Int32) (x2 : Int32) (x3 : Int32) (x4 : Int32) (x5 : Int32) (q : Int32 × TapT) (h : mX5_feed tape x1 x2 x3 x4 x5 = some q) : MI l yX5_feed wsX5_feed { frames := 1, cells := 0, slots := 0, locals := 22 } D cA .int [.ref (ad 0), .int x1, .int x2, .int x3, .int x4, .int x5] (wD_tape cA ad block ties lines pmn tape) (wD_tape cA ad block ties lines pmn q.2) q.1 := by
  refine MI.of (cc := cX5_feed) (maxL := 6) (by decide +kernel) rfl rfl rfl (Nat.le_of_ble_eq_true rfl) ?_
  intro p e s m args below meth c A ls Q hx hb hml hts hown hK hP hD hA hS hl hret
  have hl : lv_has ls 6 [(0, .ref (ad 0)), (1, .int x1), (2, .int x2), (3, .int x3), (4, .int x4), (5, .int x5)] := hl
  have f10 := hts (.fieldLink RX5 10 "ModeDesk" "tape" "LModeDesk$Tape;") (by decide +kernel)
  have f67 := hts (.fieldLink RX5 67 "ModeDesk$Tape" "fed" "I") (by decide +kernel)
  have iX4 : ∀ w ∈ wsX40, w ∈ wsX5_feed := by decide +kernel
  have iX5 : ∀ w ∈ wsX50, w ∈ wsX5_feed := by decide +kernel
  unfold mX5_feed at h
  refine lv_aload_n hx hb dX5_feed_0 rfl (lv_at hl 0 rfl) ?_
  refine va_get (D := D) (ci := 5) (v := .ref (ad 1)) (C := RX5) (T := TX5) (N := 12) hx hb hts iX5 hown hK hP 0 rfl rfl 0 (Nat.le_of_ble_eq_true rfl) f10 (fun _ h9 => h9) rfl dX5_feed_1 ?_
  refine va_get (D := D) (ci := 4) (v := .int tape.2.1) (C := RX4) (T := TX4) (N := 7) hx hb hts iX4 hown hK hP 1 rfl rfl 1 (Nat.le_of_ble_eq_true rfl) f67 (fun _ h9 => h9) rfl dX5_feed_4 ?_
  refine lv_bipush (v := 20) hx hb dX5_feed_7 (by decide) ?_
  refine lv_iadd hx hb dX5_feed_9 ?_
  refine lv_sipush (v := 900) hx hb dX5_feed_10 (by decide) ?_
  refine lv_icmp_le (tgt := 18) hx hb dX5_feed_13 (by decide) (fun c1 => ?_) (fun c1 => ?_)
  · have h := e_t c1 h
    refine lv_aload_n hx hb dX5_feed_18 rfl (lv_at hl 0 rfl) ?_
    refine va_get (D := D) (ci := 5) (v := .ref (ad 1)) (C := RX5) (T := TX5) (N := 12) hx hb hts iX5 hown hK hP 0 rfl rfl 0 (Nat.le_of_ble_eq_true rfl) f10 (fun _ h9 => h9) rfl dX5_feed_19 ?_
    refine lv_iload_n hx hb dX5_feed_22 rfl (lv_at hl 1 rfl) ?_
    obtain ⟨q2, eq2, h⟩ := e_b h
    refine xv_v (As := [.int x1]) (rest := []) (ci := 4) (b := ad 1) ⟨hx, hb, hml, hown, hts⟩ hl.1 (kX4_put l D cA (fun i => ad (1 + i)) tape x1  _ eq2) (cwV 1 hts gX5_feed_X4_put rfl rfl rfl (by decide +kernel) ⟨Nat.le_of_ble_eq_true rfl, Nat.le_of_ble_eq_true rfl⟩) rfl hK hP hD hS hA 1 rfl rfl rfl [1, 2] rfl (by decide +kernel) rfl (Nat.le_of_ble_eq_true rfl) dX5_feed_23 ⟨Nat.zero_le _, Nat.zero_le _⟩ (fun H locs hP hD hS => ?_)
    have hP : va_P D vwCl (wD_tape cA ad block ties lines pmn q2) H := hP
    have hD : va_D A (wD_tape cA ad block ties lines pmn q2) := hD
    refine lv_aload_n hx hb dX5_feed_26 rfl (lv_at hl 0 rfl) ?_
    refine va_get (D := D) (ci := 5) (v := .ref (ad 1)) (C := RX5) (T := TX5) (N := 12) hx hb hts iX5 hown hK hP 0 rfl rfl 0 (Nat.le_of_ble_eq_true rfl) f10 (fun _ h9 => h9) rfl dX5_feed_27 ?_
    refine lv_iload_n hx hb dX5_feed_30 rfl (lv_at hl 2 rfl) ?_
    obtain ⟨q3, eq3, h⟩ := e_b h
    refine xv_v (As := [.int x2]) (rest := []) (ci := 4) (b := ad 1) ⟨hx, hb, hml, hown, hts⟩ hl.1 (kX4_put l D cA (fun i => ad (1 + i)) q2 x2  _ eq3) (cwV 1 hts gX5_feed_X4_put rfl rfl rfl (by decide +kernel) ⟨Nat.le_of_ble_eq_true rfl, Nat.le_of_ble_eq_true rfl⟩) rfl hK hP hD hS hA 1 rfl rfl rfl [1, 2] rfl (by decide +kernel) rfl (Nat.le_of_ble_eq_true rfl) dX5_feed_31 ⟨Nat.zero_le _, Nat.zero_le _⟩ (fun H locs hP hD hS => ?_)
    have hP : va_P D vwCl (wD_tape cA ad block ties lines pmn q3) H := hP
    have hD : va_D A (wD_tape cA ad block ties lines pmn q3) := hD
    refine lv_aload_n hx hb dX5_feed_34 rfl (lv_at hl 0 rfl) ?_
    refine va_get (D := D) (ci := 5) (v := .ref (ad 1)) (C := RX5) (T := TX5) (N := 12) hx hb hts iX5 hown hK hP 0 rfl rfl 0 (Nat.le_of_ble_eq_true rfl) f10 (fun _ h9 => h9) rfl dX5_feed_35 ?_
    refine lv_iload_n hx hb dX5_feed_38 rfl (lv_at hl 3 rfl) ?_
    obtain ⟨q4, eq4, h⟩ := e_b h
    refine xv_v (As := [.int x3]) (rest := []) (ci := 4) (b := ad 1) ⟨hx, hb, hml, hown, hts⟩ hl.1 (kX4_put l D cA (fun i => ad (1 + i)) q3 x3  _ eq4) (cwV 1 hts gX5_feed_X4_put rfl rfl rfl (by decide +kernel) ⟨Nat.le_of_ble_eq_true rfl, Nat.le_of_ble_eq_true rfl⟩) rfl hK hP hD hS hA 1 rfl rfl rfl [1, 2] rfl (by decide +kernel) rfl (Nat.le_of_ble_eq_true rfl) dX5_feed_39 ⟨Nat.zero_le _, Nat.zero_le _⟩ (fun H locs hP hD hS => ?_)
    have hP : va_P D vwCl (wD_tape cA ad block ties lines pmn q4) H := hP
    have hD : va_D A (wD_tape cA ad block ties lines pmn q4) := hD
    refine lv_aload_n hx hb dX5_feed_42 rfl (lv_at hl 0 rfl) ?_
    refine va_get (D := D) (ci := 5) (v := .ref (ad 1)) (C := RX5) (T := TX5) (N := 12) hx hb hts iX5 hown hK hP 0 rfl rfl 0 (Nat.le_of_ble_eq_true rfl) f10 (fun _ h9 => h9) rfl dX5_feed_43 ?_
    refine lv_iload hx hb dX5_feed_46 (lv_at hl 4 rfl) ?_
    obtain ⟨q5, eq5, h⟩ := e_b h
    refine xv_v (As := [.int x4]) (rest := []) (ci := 4) (b := ad 1) ⟨hx, hb, hml, hown, hts⟩ hl.1 (kX4_put l D cA (fun i => ad (1 + i)) q4 x4  _ eq5) (cwV 1 hts gX5_feed_X4_put rfl rfl rfl (by decide +kernel) ⟨Nat.le_of_ble_eq_true rfl, Nat.le_of_ble_eq_true rfl⟩) rfl hK hP hD hS hA 1 rfl rfl rfl [1, 2] rfl (by decide +kernel) rfl (Nat.le_of_ble_eq_true rfl) dX5_feed_48 ⟨Nat.zero_le _, Nat.zero_le _⟩ (fun H locs hP hD hS => ?_)
    have hP : va_P D vwCl (wD_tape cA ad block ties lines pmn q5) H := hP
    have hD : va_D A (wD_tape cA ad block ties lines pmn q5) := hD
    refine lv_aload_n hx hb dX5_feed_51 rfl (lv_at hl 0 rfl) ?_
    refine va_get (D := D) (ci := 5) (v := .ref (ad 1)) (C := RX5) (T := TX5) (N := 12) hx hb hts iX5 hown hK hP 0 rfl rfl 0 (Nat.le_of_ble_eq_true rfl) f10 (fun _ h9 => h9) rfl dX5_feed_52 ?_
    refine lv_iload hx hb dX5_feed_55 (lv_at hl 5 rfl) ?_
    obtain ⟨q6, eq6, h⟩ := e_b h
    refine xv_v (As := [.int x5]) (rest := []) (ci := 4) (b := ad 1) ⟨hx, hb, hml, hown, hts⟩ hl.1 (kX4_put l D cA (fun i => ad (1 + i)) q5 x5  _ eq6) (cwV 1 hts gX5_feed_X4_put rfl rfl rfl (by decide +kernel) ⟨Nat.le_of_ble_eq_true rfl, Nat.le_of_ble_eq_true rfl⟩) rfl hK hP hD hS hA 1 rfl rfl rfl [1, 2] rfl (by decide +kernel) rfl (Nat.le_of_ble_eq_true rfl) dX5_feed_57 ⟨Nat.zero_le _, Nat.zero_le _⟩ (fun H locs hP hD hS => ?_)
    have hP : va_P D vwCl (wD_tape cA ad block ties lines pmn q6) H := hP
    have hD : va_D A (wD_tape cA ad block ties lines pmn q6) := hD
    refine lv_aload_n hx hb dX5_feed_60 rfl (lv_at hl 0 rfl) ?_
    refine va_get (D := D) (ci := 5) (v := .ref (ad 1)) (C := RX5) (T := TX5) (N := 12) hx hb hts iX5 hown hK hP 0 rfl rfl 0 (Nat.le_of_ble_eq_true rfl) f10 (fun _ h9 => h9) rfl dX5_feed_61 ?_
    refine va_get (D := D) (ci := 4) (v := .int q6.2.1) (C := RX4) (T := TX4) (N := 7) hx hb hts iX4 hown hK hP 1 rfl rfl 1 (Nat.le_of_ble_eq_true rfl) f67 (fun _ h9 => h9) rfl dX5_feed_64 ?_
    obtain rfl := e_s h
    exact hret hP hS rfl dX5_feed_67
  · have h := e_f c1 h
    refine lv_iconst (v := (-1)) hx hb dX5_feed_16 (by decide) ?_
    obtain rfl := e_s h
    exact hret hP hS rfl dX5_feed_17
set_option maxHeartbeats 4000000 in
set_option maxRecDepth 100000 in
theorem kX5_text (l : Launch) (D : va_G) (cA : Nat → ClassId) (adK adV : Nat → Nat) (ad : Nat → Nat) (block : Int32) (ties : Int32) (lines : Int32) (pmn : Int32) (tape : TapT) (rdr : RdrT) (rrow : RowT) (row : RowT) (past : PasT) (x1 : Int32) (q : Int32 × Int32 × Int32 × Int32 × Int32 × TapT × RdrT × RowT × RowT × PasT) (h : mX5_text block ties lines pmn tape rdr rrow row past x1 = some q) : MIe l yX5_text wsX5_text { frames := 10, cells := 0, slots := 0, locals := 192 } D cA adK adV .int [.ref (ad 0), .int x1] (wD_tape_rdr_row_past cA ad block ties lines pmn tape rdr rrow row past) (wD_tape_rdr_row_past cA ad q.2.1 q.2.2.1 q.2.2.2.1 q.2.2.2.2.1 q.2.2.2.2.2.1 q.2.2.2.2.2.2.1 q.2.2.2.2.2.2.2.1 q.2.2.2.2.2.2.2.2.1 q.2.2.2.2.2.2.2.2.2) q.1 := by
  refine MIe.of (cc := cX5_text) (maxL := 3) (by decide +kernel) rfl rfl rfl (Nat.le_of_ble_eq_true rfl) ?_
  intro p e s m args below meth c A ls Q hx hb hml hts hown hK hP hD hA hS hE hR hl hret
  have hl : lv_has ls 3 [(0, .ref (ad 0)), (1, .int x1)] := hl
  have f10 := hts (.fieldLink RX5 10 "ModeDesk" "tape" "LModeDesk$Tape;") (by decide +kernel)
  have f19 := hts (.fieldLink RX5 19 "ModeDesk" "reader" "LModeDesk$Reader;") (by decide +kernel)
  have f26 := hts (.fieldLink RX5 26 "ModeDesk" "row" "LModeDesk$Row;") (by decide +kernel)
  have f36 := hts (.fieldLink RX5 36 "ModeDesk" "past" "LModeDesk$Past;") (by decide +kernel)
  have f54 := hts (.fieldLink RX5 54 "ModeDesk" "block" "I") (by decide +kernel)
  have f58 := hts (.fieldLink RX5 58 "ModeDesk" "ties" "I") (by decide +kernel)
  have f61 := hts (.fieldLink RX5 61 "ModeDesk" "lines" "I") (by decide +kernel)
  have f64 := hts (.fieldLink RX5 64 "ModeDesk" "pairsMadeNew" "I") (by decide +kernel)
  have f67 := hts (.fieldLink RX5 67 "ModeDesk$Tape" "fed" "I") (by decide +kernel)
  have f78 := hts (.fieldLink RX5 78 "ModeDesk$Reader" "row" "LModeDesk$Row;") (by decide +kernel)
  have f83 := hts (.fieldLink RX5 83 "ModeDesk$Reader" "block" "I") (by decide +kernel)
  have f84 := hts (.fieldLink RX5 84 "ModeDesk$Reader" "ties" "I") (by decide +kernel)
  have f85 := hts (.fieldLink RX5 85 "ModeDesk$Reader" "lines" "I") (by decide +kernel)
  have f86 := hts (.fieldLink RX5 86 "ModeDesk$Past" "held" "I") (by decide +kernel)
  have iX0 : ∀ w ∈ wsX00, w ∈ wsX5_text := by decide +kernel
  have iX1 : ∀ w ∈ wsX10, w ∈ wsX5_text := by decide +kernel
  have iX4 : ∀ w ∈ wsX40, w ∈ wsX5_text := by decide +kernel
  have iX5 : ∀ w ∈ wsX50, w ∈ wsX5_text := by decide +kernel
  unfold mX5_text at h
  refine lv_iload_n hx hb dX5_text_0 rfl (lv_at hl 1 rfl) ?_
  refine lv_if_lt (tgt := 15) hx hb dX5_text_1 (by decide) (fun c1 => ?_) (fun c1 => ?_)
  · have h := e_t c1 h
    refine lv_bipush (v := (-2)) hx hb dX5_text_15 (by decide) ?_
    obtain rfl := e_s h
    exact hret hP hS rfl dX5_text_17
  · have h := e_f c1 h
    refine lv_iload_n hx hb dX5_text_4 rfl (lv_at hl 1 rfl) ?_
    refine lv_aload_n hx hb dX5_text_5 rfl (lv_at hl 0 rfl) ?_
    refine va_get (D := D) (ci := 5) (v := .ref (ad 1)) (C := RX5) (T := TX5) (N := 12) hx hb hts iX5 hown hK hP 0 rfl rfl 0 (Nat.le_of_ble_eq_true rfl) f10 (fun _ h9 => h9) rfl dX5_text_6 ?_
    refine va_get (D := D) (ci := 4) (v := .int tape.2.1) (C := RX4) (T := TX4) (N := 7) hx hb hts iX4 hown hK hP 1 rfl rfl 1 (Nat.le_of_ble_eq_true rfl) f67 (fun _ h9 => h9) rfl dX5_text_9 ?_
    refine lv_icmp_le (tgt := 18) hx hb dX5_text_12 (by decide) (fun c2 => ?_) (fun c2 => ?_)
    · have h := e_t c2 h
      refine lv_aload_n hx hb dX5_text_18 rfl (lv_at hl 0 rfl) ?_
      refine va_get (D := D) (ci := 5) (v := .ref (ad 3)) (C := RX5) (T := TX5) (N := 12) hx hb hts iX5 hown hK hP 0 rfl rfl 1 (Nat.le_of_ble_eq_true rfl) f19 (fun _ h9 => h9) rfl dX5_text_19 ?_
      refine lv_aload_n hx hb dX5_text_22 rfl (lv_at hl 0 rfl) ?_
      refine va_get (D := D) (ci := 5) (v := .ref (ad 1)) (C := RX5) (T := TX5) (N := 12) hx hb hts iX5 hown hK hP 0 rfl rfl 0 (Nat.le_of_ble_eq_true rfl) f10 (fun _ h9 => h9) rfl dX5_text_23 ?_
      refine lv_iload_n hx hb dX5_text_26 rfl (lv_at hl 1 rfl) ?_
      obtain ⟨q3, eq3, h⟩ := e_b h
      refine xv_ie (As := [.ref (ad 1), .int x1]) (rest := []) (b := ad 3) hE hR ⟨hx, hb, hml, hown, hts⟩ hl.1 (kX1_read l D cA adK adV (fun i => ad (3 + i)) (fun i => ad (1 + i)) rdr rrow tape x1  _ eq3) (cwV 2 hts gX5_text_X1_read rfl rfl rfl (by decide +kernel) ⟨Nat.le_of_ble_eq_true rfl, Nat.le_of_ble_eq_true rfl⟩) rfl hK hP hD hS hA (va_recv hK hP (ci := 1) (q0 := 3) rfl rfl) [3, 4, 5, 6, 1, 2] rfl (by decide +kernel) rfl (Nat.le_of_ble_eq_true rfl) dX5_text_27 ⟨Nat.zero_le _, Nat.zero_le _⟩ (fun H locs hP hD hS hnq3 => ?_)
      have hP : va_P D vwCl (wD_tape_rdr_row_past cA ad block ties lines pmn q3.2.2.2 q3.2.1 q3.2.2.1 row past) H := hP
      have hD : va_D A (wD_tape_rdr_row_past cA ad block ties lines pmn q3.2.2.2 q3.2.1 q3.2.2.1 row past) := hD
      refine lv_istore_n (lv' := [(2, .int q3.1), (0, .ref (ad 0)), (1, .int x1)]) hx hb dX5_text_30 rfl hl (by decide) rfl (fun ls hl => ?_)
      refine lv_aload_n hx hb dX5_text_31 rfl (lv_at hl 1 rfl) ?_
      refine va_get (D := D) (ci := 5) (v := .ref (ad 1)) (C := RX5) (T := TX5) (N := 12) hx hb hts iX5 hown hK hP 0 rfl rfl 0 (Nat.le_of_ble_eq_true rfl) f10 (fun _ h9 => h9) rfl dX5_text_32 ?_
      refine lv_iconst (v := 0) hx hb dX5_text_35 (by decide) ?_
      refine va_put (D := D) (ci := 4) (v := .int 0) (ty := .int) (C := RX4) (T := TX4) (N := 7) hx hb hts iX4 tyX4 tyX4_ok nmX4 hown hK hP hD hS 1 rfl rfl 1 (Nat.le_of_ble_eq_true rfl) f67 (fun _ h9 => h9) rfl (tyX4_ok 1 (Nat.le_of_ble_eq_true rfl)) rfl rfl (Nat.le_of_ble_eq_true rfl) dX5_text_36 (fun H locs hP hD hS => ?_)
      have hP : va_P D vwCl (wD_tape_rdr_row_past cA ad block ties lines pmn (q3.2.2.2.1, 0, q3.2.2.2.2.2.1, q3.2.2.2.2.2.2.1, q3.2.2.2.2.2.2.2.1, q3.2.2.2.2.2.2.2.2.1, q3.2.2.2.2.2.2.2.2.2) q3.2.1 q3.2.2.1 row past) H := hP
      have hD : va_D A (wD_tape_rdr_row_past cA ad block ties lines pmn (q3.2.2.2.1, 0, q3.2.2.2.2.2.1, q3.2.2.2.2.2.2.1, q3.2.2.2.2.2.2.2.1, q3.2.2.2.2.2.2.2.2.1, q3.2.2.2.2.2.2.2.2.2) q3.2.1 q3.2.2.1 row past) := hD
      refine lv_iload_n hx hb dX5_text_39 rfl (lv_at hl 0 rfl) ?_
      refine lv_if_ne (tgt := 45) hx hb dX5_text_40 (by decide) (fun c4 => ?_) (fun c4 => ?_)
      · have h := e_t c4 h
        refine lv_aload_n hx hb dX5_text_45 rfl (lv_at hl 1 rfl) ?_
        refine va_get (D := D) (ci := 5) (v := .ref (ad 7)) (C := RX5) (T := TX5) (N := 12) hx hb hts iX5 hown hK hP 0 rfl rfl 2 (Nat.le_of_ble_eq_true rfl) f26 (fun _ h9 => h9) rfl dX5_text_46 ?_
        refine lv_aload_n hx hb dX5_text_49 rfl (lv_at hl 1 rfl) ?_
        refine va_get (D := D) (ci := 5) (v := .ref (ad 3)) (C := RX5) (T := TX5) (N := 12) hx hb hts iX5 hown hK hP 0 rfl rfl 1 (Nat.le_of_ble_eq_true rfl) f19 (fun _ h9 => h9) rfl dX5_text_50 ?_
        refine va_get (D := D) (ci := 1) (v := .ref (ad 4)) (C := RX1) (T := TX1) (N := 8) hx hb hts iX1 hown hK hP 3 rfl rfl 0 (Nat.le_of_ble_eq_true rfl) f78 (fun _ h9 => h9) rfl dX5_text_53 ?_
        obtain ⟨q5, eq5, h⟩ := e_b h
        refine xv_v (As := [.ref (ad 4)]) (rest := []) (ci := 2) (b := ad 7) ⟨hx, hb, hml, hown, hts⟩ hl.1 (kX2_take l D cA (fun i => ad (7 + i)) (fun i => ad (4 + i)) row q3.2.2.1   _ eq5) (cwV 1 hts gX5_text_X2_take rfl rfl rfl (by decide +kernel) ⟨Nat.le_of_ble_eq_true rfl, Nat.le_of_ble_eq_true rfl⟩) rfl hK hP hD hS hA 7 rfl rfl rfl [7, 8, 9, 4, 5, 6] rfl (by decide +kernel) rfl (Nat.le_of_ble_eq_true rfl) dX5_text_56 ⟨Nat.zero_le _, Nat.zero_le _⟩ (fun H locs hP hD hS => ?_)
        have hP : va_P D vwCl (wD_tape_rdr_row_past cA ad block ties lines pmn (q3.2.2.2.1, 0, q3.2.2.2.2.2.1, q3.2.2.2.2.2.2.1, q3.2.2.2.2.2.2.2.1, q3.2.2.2.2.2.2.2.2.1, q3.2.2.2.2.2.2.2.2.2) q3.2.1 q3.2.2.1 q5 past) H := hP
        have hD : va_D A (wD_tape_rdr_row_past cA ad block ties lines pmn (q3.2.2.2.1, 0, q3.2.2.2.2.2.1, q3.2.2.2.2.2.2.1, q3.2.2.2.2.2.2.2.1, q3.2.2.2.2.2.2.2.2.1, q3.2.2.2.2.2.2.2.2.2) q3.2.1 q3.2.2.1 q5 past) := hD
        refine lv_aload_n hx hb dX5_text_59 rfl (lv_at hl 1 rfl) ?_
        refine lv_aload_n hx hb dX5_text_60 rfl (lv_at hl 1 rfl) ?_
        refine va_get (D := D) (ci := 5) (v := .ref (ad 3)) (C := RX5) (T := TX5) (N := 12) hx hb hts iX5 hown hK hP 0 rfl rfl 1 (Nat.le_of_ble_eq_true rfl) f19 (fun _ h9 => h9) rfl dX5_text_61 ?_
        refine va_get (D := D) (ci := 1) (v := .int q3.2.1.1) (C := RX1) (T := TX1) (N := 8) hx hb hts iX1 hown hK hP 3 rfl rfl 1 (Nat.le_of_ble_eq_true rfl) f83 (fun _ h9 => h9) rfl dX5_text_64 ?_
        refine va_put (D := D) (ci := 5) (v := .int q3.2.1.1) (ty := .int) (C := RX5) (T := TX5) (N := 12) hx hb hts iX5 tyX5 tyX5_ok nmX5 hown hK hP hD hS 0 rfl rfl 8 (Nat.le_of_ble_eq_true rfl) f54 (fun _ h9 => h9) rfl (tyX5_ok 8 (Nat.le_of_ble_eq_true rfl)) rfl rfl (Nat.le_of_ble_eq_true rfl) dX5_text_67 (fun H locs hP hD hS => ?_)
        have hP : va_P D vwCl (wD_tape_rdr_row_past cA ad q3.2.1.1 ties lines pmn (q3.2.2.2.1, 0, q3.2.2.2.2.2.1, q3.2.2.2.2.2.2.1, q3.2.2.2.2.2.2.2.1, q3.2.2.2.2.2.2.2.2.1, q3.2.2.2.2.2.2.2.2.2) q3.2.1 q3.2.2.1 q5 past) H := hP
        have hD : va_D A (wD_tape_rdr_row_past cA ad q3.2.1.1 ties lines pmn (q3.2.2.2.1, 0, q3.2.2.2.2.2.1, q3.2.2.2.2.2.2.1, q3.2.2.2.2.2.2.2.1, q3.2.2.2.2.2.2.2.2.1, q3.2.2.2.2.2.2.2.2.2) q3.2.1 q3.2.2.1 q5 past) := hD
        refine lv_aload_n hx hb dX5_text_70 rfl (lv_at hl 1 rfl) ?_
        refine lv_aload_n hx hb dX5_text_71 rfl (lv_at hl 1 rfl) ?_
        refine va_get (D := D) (ci := 5) (v := .ref (ad 3)) (C := RX5) (T := TX5) (N := 12) hx hb hts iX5 hown hK hP 0 rfl rfl 1 (Nat.le_of_ble_eq_true rfl) f19 (fun _ h9 => h9) rfl dX5_text_72 ?_
        refine va_get (D := D) (ci := 1) (v := .int q3.2.1.2.1) (C := RX1) (T := TX1) (N := 8) hx hb hts iX1 hown hK hP 3 rfl rfl 2 (Nat.le_of_ble_eq_true rfl) f84 (fun _ h9 => h9) rfl dX5_text_75 ?_
        refine va_put (D := D) (ci := 5) (v := .int q3.2.1.2.1) (ty := .int) (C := RX5) (T := TX5) (N := 12) hx hb hts iX5 tyX5 tyX5_ok nmX5 hown hK hP hD hS 0 rfl rfl 9 (Nat.le_of_ble_eq_true rfl) f58 (fun _ h9 => h9) rfl (tyX5_ok 9 (Nat.le_of_ble_eq_true rfl)) rfl rfl (Nat.le_of_ble_eq_true rfl) dX5_text_78 (fun H locs hP hD hS => ?_)
        have hP : va_P D vwCl (wD_tape_rdr_row_past cA ad q3.2.1.1 q3.2.1.2.1 lines pmn (q3.2.2.2.1, 0, q3.2.2.2.2.2.1, q3.2.2.2.2.2.2.1, q3.2.2.2.2.2.2.2.1, q3.2.2.2.2.2.2.2.2.1, q3.2.2.2.2.2.2.2.2.2) q3.2.1 q3.2.2.1 q5 past) H := hP
        have hD : va_D A (wD_tape_rdr_row_past cA ad q3.2.1.1 q3.2.1.2.1 lines pmn (q3.2.2.2.1, 0, q3.2.2.2.2.2.1, q3.2.2.2.2.2.2.1, q3.2.2.2.2.2.2.2.1, q3.2.2.2.2.2.2.2.2.1, q3.2.2.2.2.2.2.2.2.2) q3.2.1 q3.2.2.1 q5 past) := hD
        refine lv_aload_n hx hb dX5_text_81 rfl (lv_at hl 1 rfl) ?_
        refine lv_aload_n hx hb dX5_text_82 rfl (lv_at hl 1 rfl) ?_
        refine va_get (D := D) (ci := 5) (v := .ref (ad 3)) (C := RX5) (T := TX5) (N := 12) hx hb hts iX5 hown hK hP 0 rfl rfl 1 (Nat.le_of_ble_eq_true rfl) f19 (fun _ h9 => h9) rfl dX5_text_83 ?_
        refine va_get (D := D) (ci := 1) (v := .int q3.2.1.2.2.1) (C := RX1) (T := TX1) (N := 8) hx hb hts iX1 hown hK hP 3 rfl rfl 3 (Nat.le_of_ble_eq_true rfl) f85 (fun _ h9 => h9) rfl dX5_text_86 ?_
        refine va_put (D := D) (ci := 5) (v := .int q3.2.1.2.2.1) (ty := .int) (C := RX5) (T := TX5) (N := 12) hx hb hts iX5 tyX5 tyX5_ok nmX5 hown hK hP hD hS 0 rfl rfl 10 (Nat.le_of_ble_eq_true rfl) f61 (fun _ h9 => h9) rfl (tyX5_ok 10 (Nat.le_of_ble_eq_true rfl)) rfl rfl (Nat.le_of_ble_eq_true rfl) dX5_text_89 (fun H locs hP hD hS => ?_)
        have hP : va_P D vwCl (wD_tape_rdr_row_past cA ad q3.2.1.1 q3.2.1.2.1 q3.2.1.2.2.1 pmn (q3.2.2.2.1, 0, q3.2.2.2.2.2.1, q3.2.2.2.2.2.2.1, q3.2.2.2.2.2.2.2.1, q3.2.2.2.2.2.2.2.2.1, q3.2.2.2.2.2.2.2.2.2) q3.2.1 q3.2.2.1 q5 past) H := hP
        have hD : va_D A (wD_tape_rdr_row_past cA ad q3.2.1.1 q3.2.1.2.1 q3.2.1.2.2.1 pmn (q3.2.2.2.1, 0, q3.2.2.2.2.2.1, q3.2.2.2.2.2.2.1, q3.2.2.2.2.2.2.2.1, q3.2.2.2.2.2.2.2.2.1, q3.2.2.2.2.2.2.2.2.2) q3.2.1 q3.2.2.1 q5 past) := hD
        refine lv_aload_n hx hb dX5_text_92 rfl (lv_at hl 1 rfl) ?_
        refine va_get (D := D) (ci := 5) (v := .ref (ad 13)) (C := RX5) (T := TX5) (N := 12) hx hb hts iX5 hown hK hP 0 rfl rfl 4 (Nat.le_of_ble_eq_true rfl) f36 (fun _ h9 => h9) rfl dX5_text_93 ?_
        refine lv_iconst (v := 0) hx hb dX5_text_96 (by decide) ?_
        refine va_put (D := D) (ci := 0) (v := .int 0) (ty := .int) (C := RX0) (T := TX0) (N := 3) hx hb hts iX0 tyX0 tyX0_ok nmX0 hown hK hP hD hS 10 rfl rfl 1 (Nat.le_of_ble_eq_true rfl) f86 (fun _ h9 => h9) rfl (tyX0_ok 1 (Nat.le_of_ble_eq_true rfl)) rfl rfl (Nat.le_of_ble_eq_true rfl) dX5_text_97 (fun H locs hP hD hS => ?_)
        have hP : va_P D vwCl (wD_tape_rdr_row_past cA ad q3.2.1.1 q3.2.1.2.1 q3.2.1.2.2.1 pmn (q3.2.2.2.1, 0, q3.2.2.2.2.2.1, q3.2.2.2.2.2.2.1, q3.2.2.2.2.2.2.2.1, q3.2.2.2.2.2.2.2.2.1, q3.2.2.2.2.2.2.2.2.2) q3.2.1 q3.2.2.1 q5 (past.1, 0, past.2.2)) H := hP
        have hD : va_D A (wD_tape_rdr_row_past cA ad q3.2.1.1 q3.2.1.2.1 q3.2.1.2.2.1 pmn (q3.2.2.2.1, 0, q3.2.2.2.2.2.1, q3.2.2.2.2.2.2.1, q3.2.2.2.2.2.2.2.1, q3.2.2.2.2.2.2.2.2.1, q3.2.2.2.2.2.2.2.2.2) q3.2.1 q3.2.2.1 q5 (past.1, 0, past.2.2)) := hD
        refine lv_aload_n hx hb dX5_text_100 rfl (lv_at hl 1 rfl) ?_
        refine lv_bipush (v := (-2)) hx hb dX5_text_101 (by decide) ?_
        refine va_put (D := D) (ci := 5) (v := .int (-2)) (ty := .int) (C := RX5) (T := TX5) (N := 12) hx hb hts iX5 tyX5 tyX5_ok nmX5 hown hK hP hD hS 0 rfl rfl 11 (Nat.le_of_ble_eq_true rfl) f64 (fun _ h9 => h9) rfl (tyX5_ok 11 (Nat.le_of_ble_eq_true rfl)) rfl rfl (Nat.le_of_ble_eq_true rfl) dX5_text_103 (fun H locs hP hD hS => ?_)
        have hP : va_P D vwCl (wD_tape_rdr_row_past cA ad q3.2.1.1 q3.2.1.2.1 q3.2.1.2.2.1 (-2) (q3.2.2.2.1, 0, q3.2.2.2.2.2.1, q3.2.2.2.2.2.2.1, q3.2.2.2.2.2.2.2.1, q3.2.2.2.2.2.2.2.2.1, q3.2.2.2.2.2.2.2.2.2) q3.2.1 q3.2.2.1 q5 (past.1, 0, past.2.2)) H := hP
        have hD : va_D A (wD_tape_rdr_row_past cA ad q3.2.1.1 q3.2.1.2.1 q3.2.1.2.2.1 (-2) (q3.2.2.2.1, 0, q3.2.2.2.2.2.1, q3.2.2.2.2.2.2.1, q3.2.2.2.2.2.2.2.1, q3.2.2.2.2.2.2.2.2.1, q3.2.2.2.2.2.2.2.2.2) q3.2.1 q3.2.2.1 q5 (past.1, 0, past.2.2)) := hD
        refine lv_aload_n hx hb dX5_text_106 rfl (lv_at hl 1 rfl) ?_
        refine va_get (D := D) (ci := 5) (v := .int q3.2.1.2.2.1) (C := RX5) (T := TX5) (N := 12) hx hb hts iX5 hown hK hP 0 rfl rfl 10 (Nat.le_of_ble_eq_true rfl) f61 (fun _ h9 => h9) rfl dX5_text_107 ?_
        obtain rfl := e_s h
        exact hret hP hS rfl dX5_text_110
      · have h := e_f (not_not_intro c4) h
        refine lv_iconst (v := (-1)) hx hb dX5_text_43 (by decide) ?_
        obtain rfl := e_s h
        exact hret hP hS rfl dX5_text_44
    · have h := e_f c2 h
      refine lv_bipush (v := (-2)) hx hb dX5_text_15 (by decide) ?_
      obtain rfl := e_s h
      exact hret hP hS rfl dX5_text_17
set_option maxHeartbeats 4000000 in
set_option maxRecDepth 100000 in
theorem kX5_place (l : Launch) (D : va_G) (cA : Nat → ClassId) (ad : Nat → Nat) (block : Int32) (ties : Int32) (lines : Int32) (pmn : Int32) (row : RowT) (x1 : Int32) (x2 : Int32) (q : Int32) (h : mX5_place block row x1 x2 = some q) : MI l yX5_place wsX5_place { frames := 2, cells := 0, slots := 0, locals := 47 } D cA .int [.ref (ad 0), .int x1, .int x2] (wD_row cA ad block ties lines pmn row) (wD_row cA ad block ties lines pmn row) q := by
  refine MI.of (cc := cX5_place) (maxL := 4) (by decide +kernel) rfl rfl rfl (Nat.le_of_ble_eq_true rfl) ?_
  intro p e s m args below meth c A ls Q hx hb hml hts hown hK hP hD hA hS hl hret
  have hl : lv_has ls 4 [(0, .ref (ad 0)), (1, .int x1), (2, .int x2)] := hl
  have f106 := hts (.fieldLink RX5 106 "ModeDesk$Row" "values" "[I") (by decide +kernel)
  have f109 := hts (.fieldLink RX5 109 "ModeDesk$Row" "weights" "[I") (by decide +kernel)
  have f26 := hts (.fieldLink RX5 26 "ModeDesk" "row" "LModeDesk$Row;") (by decide +kernel)
  have f54 := hts (.fieldLink RX5 54 "ModeDesk" "block" "I") (by decide +kernel)
  have iX2 : ∀ w ∈ wsX20, w ∈ wsX5_place := by decide +kernel
  have iX5 : ∀ w ∈ wsX50, w ∈ wsX5_place := by decide +kernel
  unfold mX5_place at h
  refine lv_aload_n hx hb dX5_place_0 rfl (lv_at hl 0 rfl) ?_
  refine va_get (D := D) (ci := 5) (v := .ref (ad 7)) (C := RX5) (T := TX5) (N := 12) hx hb hts iX5 hown hK hP 0 rfl rfl 2 (Nat.le_of_ble_eq_true rfl) f26 (fun _ h9 => h9) rfl dX5_place_1 ?_
  refine lv_iload_n hx hb dX5_place_4 rfl (lv_at hl 1 rfl) ?_
  obtain ⟨q1, eq1, h⟩ := e_b h
  refine xv_i (As := [.int x1]) (rest := []) (ci := 2) (b := ad 7) ⟨hx, hb, hml, hown, hts⟩ hl.1 (kX2_has l D cA (fun i => ad (7 + i)) row x1  _ eq1) (cwV 1 hts gX5_place_X2_has rfl rfl rfl (by decide +kernel) ⟨Nat.le_of_ble_eq_true rfl, Nat.le_of_ble_eq_true rfl⟩) rfl hK hP hD hS hA 1 rfl rfl rfl [1, 2, 3] rfl (by decide +kernel) rfl (Nat.le_of_ble_eq_true rfl) dX5_place_5 ⟨Nat.zero_le _, Nat.zero_le _⟩ (fun H locs hP hD hS hnq1 => ?_)
  have hP : va_P D vwCl (wD_row cA ad block ties lines pmn row) H := hP
  have hD : va_D A (wD_row cA ad block ties lines pmn row) := hD
  refine lv_if_ne (tgt := 21) hx hb dX5_place_8 (by decide) (fun c2 => ?_) (fun c2 => ?_)
  · have h := e_t c2 h
    refine lv_aload_n hx hb dX5_place_21 rfl (lv_at hl 0 rfl) ?_
    refine va_get (D := D) (ci := 5) (v := .ref (ad 7)) (C := RX5) (T := TX5) (N := 12) hx hb hts iX5 hown hK hP 0 rfl rfl 2 (Nat.le_of_ble_eq_true rfl) f26 (fun _ h9 => h9) rfl dX5_place_22 ?_
    refine va_get (D := D) (ci := 2) (v := .ref (ad 8)) (C := RX2) (T := TX2) (N := 3) hx hb hts iX2 hown hK hP 1 rfl rfl 0 (Nat.le_of_ble_eq_true rfl) f106 (fun _ h9 => h9) rfl dX5_place_25 ?_
    refine lv_iload_n hx hb dX5_place_28 rfl (lv_at hl 1 rfl) ?_
    obtain ⟨v3, ev3, nv3, h⟩ := e_rd h
    refine xa_iald hx hb hK hP 2 rfl nv3 ev3 dX5_place_29 ?_
    refine lv_istore_n (lv' := [(3, .int v3), (0, .ref (ad 0)), (1, .int x1), (2, .int x2)]) hx hb dX5_place_30 rfl hl (by decide) rfl (fun ls hl => ?_)
    refine lv_iload_n hx hb dX5_place_31 rfl (lv_at hl 3 rfl) ?_
    by_cases c4 : x2 = 0
    · have h := e_t c4 h
      refine lv_tableIn (off := 40) (tgt := 72) hx hb dX5_place_32 (by rw [c4]; decide) (by rw [c4]; decide) (by rw [c4]; rfl) (by decide) ?_
      refine lv_iload_n hx hb dX5_place_72 rfl (lv_at hl 0 rfl) ?_
      obtain rfl := e_s h
      exact hret hP hS rfl dX5_place_73
    have h := e_f c4 h
    by_cases c6 : x2 = 1
    · have h := e_t c6 h
      refine lv_tableIn (off := 42) (tgt := 74) hx hb dX5_place_32 (by rw [c6]; decide) (by rw [c6]; decide) (by rw [c6]; rfl) (by decide) ?_
      refine lv_aload_n hx hb dX5_place_74 rfl (lv_at hl 1 rfl) ?_
      refine va_get (D := D) (ci := 5) (v := .ref (ad 7)) (C := RX5) (T := TX5) (N := 12) hx hb hts iX5 hown hK hP 0 rfl rfl 2 (Nat.le_of_ble_eq_true rfl) f26 (fun _ h9 => h9) rfl dX5_place_75 ?_
      refine va_get (D := D) (ci := 2) (v := .ref (ad 9)) (C := RX2) (T := TX2) (N := 3) hx hb hts iX2 hown hK hP 1 rfl rfl 1 (Nat.le_of_ble_eq_true rfl) f109 (fun _ h9 => h9) rfl dX5_place_78 ?_
      refine lv_iload_n hx hb dX5_place_81 rfl (lv_at hl 2 rfl) ?_
      obtain ⟨v5, ev5, nv5, h⟩ := e_rd h
      refine xa_iald hx hb hK hP 3 rfl nv5 ev5 dX5_place_82 ?_
      obtain rfl := e_s h
      exact hret hP hS rfl dX5_place_83
    have h := e_f c6 h
    by_cases c8 : x2 = 2
    · have h := e_t c8 h
      refine lv_tableIn (off := 52) (tgt := 84) hx hb dX5_place_32 (by rw [c8]; decide) (by rw [c8]; decide) (by rw [c8]; rfl) (by decide) ?_
      refine lv_iload_n hx hb dX5_place_84 rfl (lv_at hl 2 rfl) ?_
      refine lv_aload_n hx hb dX5_place_85 rfl (lv_at hl 1 rfl) ?_
      refine va_get (D := D) (ci := 5) (v := .int block) (C := RX5) (T := TX5) (N := 12) hx hb hts iX5 hown hK hP 0 rfl rfl 8 (Nat.le_of_ble_eq_true rfl) f54 (fun _ h9 => h9) rfl dX5_place_86 ?_
      obtain ⟨v7, ev7, nv7, h⟩ := e_dv h
      refine xa_idiv hx hb dX5_place_89 nv7 ev7 ?_
      obtain rfl := e_s h
      exact hret hP hS rfl dX5_place_90
    have h := e_f c8 h
    by_cases c10 : x2 = 3
    · have h := e_t c10 h
      refine lv_tableIn (off := 59) (tgt := 91) hx hb dX5_place_32 (by rw [c10]; decide) (by rw [c10]; decide) (by rw [c10]; rfl) (by decide) ?_
      refine lv_aload_n hx hb dX5_place_91 rfl (lv_at hl 1 rfl) ?_
      refine va_get (D := D) (ci := 5) (v := .ref (ad 7)) (C := RX5) (T := TX5) (N := 12) hx hb hts iX5 hown hK hP 0 rfl rfl 2 (Nat.le_of_ble_eq_true rfl) f26 (fun _ h9 => h9) rfl dX5_place_92 ?_
      refine lv_iload_n hx hb dX5_place_95 rfl (lv_at hl 0 rfl) ?_
      refine lv_iconst (v := 0) hx hb dX5_place_96 (by decide) ?_
      refine lv_iload_n hx hb dX5_place_97 rfl (lv_at hl 2 rfl) ?_
      refine lv_iconst (v := 1) hx hb dX5_place_98 (by decide) ?_
      refine lv_isub hx hb dX5_place_99 ?_
      obtain ⟨q9, eq9, h⟩ := e_b h
      refine xv_i (As := [.int v3, .int 0, .int (x1 - 1)]) (rest := []) (ci := 2) (b := ad 7) ⟨hx, hb, hml, hown, hts⟩ hl.1 (kX2_howOften l D cA (fun i => ad (7 + i)) row v3 0 (x1 - 1)  _ eq9) (cwV 3 hts gX5_place_X2_howOften rfl rfl rfl (by decide +kernel) ⟨Nat.le_of_ble_eq_true rfl, Nat.le_of_ble_eq_true rfl⟩) rfl hK hP hD hS hA 1 rfl rfl rfl [1, 2, 3] rfl (by decide +kernel) rfl (Nat.le_of_ble_eq_true rfl) dX5_place_100 ⟨Nat.zero_le _, Nat.zero_le _⟩ (fun H locs hP hD hS hnq9 => ?_)
      have hP : va_P D vwCl (wD_row cA ad block ties lines pmn row) H := hP
      have hD : va_D A (wD_row cA ad block ties lines pmn row) := hD
      obtain rfl := e_s h
      exact hret hP hS rfl dX5_place_103
    have h := e_f c10 h
    by_cases c12 : x2 = 4
    · have h := e_t c12 h
      refine lv_tableIn (off := 72) (tgt := 104) hx hb dX5_place_32 (by rw [c12]; decide) (by rw [c12]; decide) (by rw [c12]; rfl) (by decide) ?_
      refine lv_aload_n hx hb dX5_place_104 rfl (lv_at hl 1 rfl) ?_
      refine va_get (D := D) (ci := 5) (v := .ref (ad 7)) (C := RX5) (T := TX5) (N := 12) hx hb hts iX5 hown hK hP 0 rfl rfl 2 (Nat.le_of_ble_eq_true rfl) f26 (fun _ h9 => h9) rfl dX5_place_105 ?_
      refine lv_iload_n hx hb dX5_place_108 rfl (lv_at hl 0 rfl) ?_
      refine lv_iload_n hx hb dX5_place_109 rfl (lv_at hl 2 rfl) ?_
      refine lv_iconst (v := 1) hx hb dX5_place_110 (by decide) ?_
      refine lv_iadd hx hb dX5_place_111 ?_
      obtain ⟨q11, eq11, h⟩ := e_b h
      refine xv_i (As := [.int v3, .int (x1 + 1)]) (rest := []) (ci := 2) (b := ad 7) ⟨hx, hb, hml, hown, hts⟩ hl.1 (kX2_from l D cA (fun i => ad (7 + i)) row v3 (x1 + 1)  _ eq11) (cwV 2 hts gX5_place_X2_from rfl rfl rfl (by decide +kernel) ⟨Nat.le_of_ble_eq_true rfl, Nat.le_of_ble_eq_true rfl⟩) rfl hK hP hD hS hA 1 rfl rfl rfl [1, 2, 3] rfl (by decide +kernel) rfl (Nat.le_of_ble_eq_true rfl) dX5_place_112 ⟨Nat.zero_le _, Nat.zero_le _⟩ (fun H locs hP hD hS hnq11 => ?_)
      have hP : va_P D vwCl (wD_row cA ad block ties lines pmn row) H := hP
      have hD : va_D A (wD_row cA ad block ties lines pmn row) := hD
      obtain rfl := e_s h
      exact hret hP hS rfl dX5_place_115
    have h := e_f c12 h
    by_cases c14 : x2 = 5
    · have h := e_t c14 h
      refine lv_tableIn (off := 84) (tgt := 116) hx hb dX5_place_32 (by rw [c14]; decide) (by rw [c14]; decide) (by rw [c14]; rfl) (by decide) ?_
      refine lv_aload_n hx hb dX5_place_116 rfl (lv_at hl 1 rfl) ?_
      refine va_get (D := D) (ci := 5) (v := .ref (ad 7)) (C := RX5) (T := TX5) (N := 12) hx hb hts iX5 hown hK hP 0 rfl rfl 2 (Nat.le_of_ble_eq_true rfl) f26 (fun _ h9 => h9) rfl dX5_place_117 ?_
      refine lv_iload_n hx hb dX5_place_120 rfl (lv_at hl 0 rfl) ?_
      refine lv_iload_n hx hb dX5_place_121 rfl (lv_at hl 2 rfl) ?_
      refine lv_iconst (v := 1) hx hb dX5_place_122 (by decide) ?_
      refine lv_isub hx hb dX5_place_123 ?_
      obtain ⟨q13, eq13, h⟩ := e_b h
      refine xv_i (As := [.int v3, .int (x1 - 1)]) (rest := []) (ci := 2) (b := ad 7) ⟨hx, hb, hml, hown, hts⟩ hl.1 (kX2_upTo l D cA (fun i => ad (7 + i)) row v3 (x1 - 1)  _ eq13) (cwV 2 hts gX5_place_X2_upTo rfl rfl rfl (by decide +kernel) ⟨Nat.le_of_ble_eq_true rfl, Nat.le_of_ble_eq_true rfl⟩) rfl hK hP hD hS hA 1 rfl rfl rfl [1, 2, 3] rfl (by decide +kernel) rfl (Nat.le_of_ble_eq_true rfl) dX5_place_124 ⟨Nat.zero_le _, Nat.zero_le _⟩ (fun H locs hP hD hS hnq13 => ?_)
      have hP : va_P D vwCl (wD_row cA ad block ties lines pmn row) H := hP
      have hD : va_D A (wD_row cA ad block ties lines pmn row) := hD
      obtain rfl := e_s h
      exact hret hP hS rfl dX5_place_127
    have h := e_f c14 h
    refine lv_tableOut (tgt := 128) hx hb dX5_place_32 (sw_out 5 (fun k hk => by match k, hk with | 0, _ => exact c4 | 1, _ => exact c6 | 2, _ => exact c8 | 3, _ => exact c10 | 4, _ => exact c12 | 5, _ => exact c14 | (n + 6), hk => exact absurd hk (by omega)) (by decide)) (by decide) ?_
    exact e_n h
  · have h := e_f (not_not_intro c2) h
    exact e_n h
set_option maxHeartbeats 4000000 in
set_option maxRecDepth 100000 in
theorem kX5_blocksOf (l : Launch) (D : va_G) (cA : Nat → ClassId) (ad : Nat → Nat) (ao : Nat → Nat) (block : Int32) (ties : Int32) (lines : Int32) (pmn : Int32) (o : RowT)  (q : Int32) (h : mX5_blocksOf block o  = some q) : MI l yX5_blocksOf wsX5_blocksOf { frames := 0, cells := 0, slots := 0, locals := 0 } D cA .int [.ref (ad 0), .ref (ao 0)] (wD_0_X2 cA ad ao block ties lines pmn o) (wD_0_X2 cA ad ao block ties lines pmn o) q := by
  refine MI.of (cc := cX5_blocksOf) (maxL := 2) (by decide +kernel) rfl rfl rfl (Nat.le_of_ble_eq_true rfl) ?_
  intro p e s m args below meth c A ls Q hx hb hml hts hown hK hP hD hA hS hl hret
  have hl : lv_has ls 2 [(0, .ref (ad 0)), (1, .ref (ao 0))] := hl
  have f135 := hts (.fieldLink RX5 135 "ModeDesk$Row" "size" "I") (by decide +kernel)
  have f54 := hts (.fieldLink RX5 54 "ModeDesk" "block" "I") (by decide +kernel)
  have iX2 : ∀ w ∈ wsX20, w ∈ wsX5_blocksOf := by decide +kernel
  have iX5 : ∀ w ∈ wsX50, w ∈ wsX5_blocksOf := by decide +kernel
  unfold mX5_blocksOf at h
  refine lv_aload_n hx hb dX5_blocksOf_0 rfl (lv_at hl 1 rfl) ?_
  refine va_get (D := D) (ci := 2) (v := .int o.2.2) (C := RX2) (T := TX2) (N := 3) hx hb hts iX2 hown hK hP 1 rfl rfl 2 (Nat.le_of_ble_eq_true rfl) f135 (fun _ h9 => h9) rfl dX5_blocksOf_1 ?_
  refine lv_aload_n hx hb dX5_blocksOf_4 rfl (lv_at hl 0 rfl) ?_
  refine va_get (D := D) (ci := 5) (v := .int block) (C := RX5) (T := TX5) (N := 12) hx hb hts iX5 hown hK hP 0 rfl rfl 8 (Nat.le_of_ble_eq_true rfl) f54 (fun _ h9 => h9) rfl dX5_blocksOf_5 ?_
  refine lv_iadd hx hb dX5_blocksOf_8 ?_
  refine lv_iconst (v := 1) hx hb dX5_blocksOf_9 (by decide) ?_
  refine lv_isub hx hb dX5_blocksOf_10 ?_
  refine lv_aload_n hx hb dX5_blocksOf_11 rfl (lv_at hl 0 rfl) ?_
  refine va_get (D := D) (ci := 5) (v := .int block) (C := RX5) (T := TX5) (N := 12) hx hb hts iX5 hown hK hP 0 rfl rfl 8 (Nat.le_of_ble_eq_true rfl) f54 (fun _ h9 => h9) rfl dX5_blocksOf_12 ?_
  obtain ⟨v1, ev1, nv1, h⟩ := e_dv h
  refine xa_idiv hx hb dX5_blocksOf_15 nv1 ev1 ?_
  obtain rfl := e_s h
  exact hret hP hS rfl dX5_blocksOf_16
set_option maxHeartbeats 4000000 in
set_option maxRecDepth 100000 in
theorem kX5_blockEnd (l : Launch) (D : va_G) (cA : Nat → ClassId) (ad : Nat → Nat) (ao : Nat → Nat) (block : Int32) (ties : Int32) (lines : Int32) (pmn : Int32) (o : RowT) (x2 : Int32) (q : Int32) (h : mX5_blockEnd block o x2 = some q) : MI l yX5_blockEnd wsX5_blockEnd { frames := 1, cells := 0, slots := 0, locals := 24 } D cA .int [.ref (ad 0), .ref (ao 0), .int x2] (wD_0_X2 cA ad ao block ties lines pmn o) (wD_0_X2 cA ad ao block ties lines pmn o) q := by
  refine MI.of (cc := cX5_blockEnd) (maxL := 3) (by decide +kernel) rfl rfl rfl (Nat.le_of_ble_eq_true rfl) ?_
  intro p e s m args below meth c A ls Q hx hb hml hts hown hK hP hD hA hS hl hret
  have hl : lv_has ls 3 [(0, .ref (ad 0)), (1, .ref (ao 0)), (2, .int x2)] := hl
  have f135 := hts (.fieldLink RX5 135 "ModeDesk$Row" "size" "I") (by decide +kernel)
  have f54 := hts (.fieldLink RX5 54 "ModeDesk" "block" "I") (by decide +kernel)
  have iX2 : ∀ w ∈ wsX20, w ∈ wsX5_blockEnd := by decide +kernel
  have iX5 : ∀ w ∈ wsX50, w ∈ wsX5_blockEnd := by decide +kernel
  unfold mX5_blockEnd at h
  refine lv_aload_n hx hb dX5_blockEnd_0 rfl (lv_at hl 1 rfl) ?_
  refine va_get (D := D) (ci := 2) (v := .int o.2.2) (C := RX2) (T := TX2) (N := 3) hx hb hts iX2 hown hK hP 1 rfl rfl 2 (Nat.le_of_ble_eq_true rfl) f135 (fun _ h9 => h9) rfl dX5_blockEnd_1 ?_
  refine lv_iload_n hx hb dX5_blockEnd_4 rfl (lv_at hl 2 rfl) ?_
  refine lv_iconst (v := 1) hx hb dX5_blockEnd_5 (by decide) ?_
  refine lv_iadd hx hb dX5_blockEnd_6 ?_
  refine lv_aload_n hx hb dX5_blockEnd_7 rfl (lv_at hl 0 rfl) ?_
  refine va_get (D := D) (ci := 5) (v := .int block) (C := RX5) (T := TX5) (N := 12) hx hb hts iX5 hown hK hP 0 rfl rfl 8 (Nat.le_of_ble_eq_true rfl) f54 (fun _ h9 => h9) rfl dX5_blockEnd_8 ?_
  refine lv_imul hx hb dX5_blockEnd_11 ?_
  refine va_mmin hx hb (by rw [hml, hl.1]) hown (hts (.methodLink RX5 234 Lib.Math.min.name) (by decide +kernel)) (hts (.static Lib.Math.min.name) (by decide +kernel)) (hts (.initialized "java/lang/Math") (by decide +kernel)) (hts (.code Lib.Math.min.name Lib.Math.min.code 2 (some .int)) (by decide +kernel)) (Nat.le_of_ble_eq_true rfl) (Nat.le_of_ble_eq_true rfl) (Nat.zero_le _) (Nat.zero_le _) dX5_blockEnd_12 ?_
  obtain rfl := e_s h
  exact hret hP hS rfl dX5_blockEnd_15
set_option maxHeartbeats 4000000 in
set_option maxRecDepth 100000 in
theorem kX5_isTouched (l : Launch) (D : va_G) (cA : Nat → ClassId) (ad : Nat → Nat) (ao : Nat → Nat) (ap : Nat → Nat) (block : Int32) (ties : Int32) (lines : Int32) (pmn : Int32) (o : RowT) (b : RowT) (x3 : Int32) (q : Int32) (h : mX5_isTouched block o b x3 = some q) : MI l yX5_isTouched wsX5_isTouched { frames := 2, cells := 0, slots := 0, locals := 46 } D cA .boolean [.ref (ad 0), .ref (ao 0), .ref (ap 0), .int x3] (wD_0_X2_X2 cA ad ao ap block ties lines pmn o b) (wD_0_X2_X2 cA ad ao ap block ties lines pmn o b) q := by
  refine MI.of (cc := cX5_isTouched) (maxL := 6) (by decide +kernel) rfl rfl rfl (Nat.le_of_ble_eq_true rfl) ?_
  intro p e s m args below meth c A ls Q hx hb hml hts hown hK hP hD hA hS hl hret
  have hl : lv_has ls 6 [(0, .ref (ad 0)), (1, .ref (ao 0)), (2, .ref (ap 0)), (3, .int x3)] := hl
  have f54 := hts (.fieldLink RX5 54 "ModeDesk" "block" "I") (by decide +kernel)
  have iX5 : ∀ w ∈ wsX50, w ∈ wsX5_isTouched := by decide +kernel
  unfold mX5_isTouched at h
  refine lv_aload_n hx hb dX5_isTouched_0 rfl (lv_at hl 0 rfl) ?_
  refine lv_aload_n hx hb dX5_isTouched_1 rfl (lv_at hl 2 rfl) ?_
  refine lv_iload_n hx hb dX5_isTouched_2 rfl (lv_at hl 3 rfl) ?_
  obtain ⟨q1, eq1, h⟩ := e_b h
  refine xv_i (As := [.ref (ap 0), .int x3]) (rest := []) (ci := 5) (b := ad 0) ⟨hx, hb, hml, hown, hts⟩ hl.1 (kX5_blockEnd l D cA ad ap block ties lines pmn b x3  _ eq1) (cwV 2 hts gX5_isTouched_X5_blockEnd rfl rfl rfl (by decide +kernel) ⟨Nat.le_of_ble_eq_true rfl, Nat.le_of_ble_eq_true rfl⟩) rfl hK hP hD hS hA 0 rfl rfl rfl [0, 4, 5, 6] rfl (by decide +kernel) rfl (Nat.le_of_ble_eq_true rfl) dX5_isTouched_3 ⟨Nat.zero_le _, Nat.zero_le _⟩ (fun H locs hP hD hS hnq1 => ?_)
  have hP : va_P D vwCl (wD_0_X2_X2 cA ad ao ap block ties lines pmn o b) H := hP
  have hD : va_D A (wD_0_X2_X2 cA ad ao ap block ties lines pmn o b) := hD
  refine lv_istore (lv' := [(4, .int q1), (0, .ref (ad 0)), (1, .ref (ao 0)), (2, .ref (ap 0)), (3, .int x3)]) hx hb dX5_isTouched_6 hl (by decide) rfl (fun ls hl => ?_)
  refine lv_iload_n hx hb dX5_isTouched_8 rfl (lv_at hl 4 rfl) ?_
  refine lv_aload_n hx hb dX5_isTouched_9 rfl (lv_at hl 1 rfl) ?_
  refine va_get (D := D) (ci := 5) (v := .int block) (C := RX5) (T := TX5) (N := 12) hx hb hts iX5 hown hK hP 0 rfl rfl 8 (Nat.le_of_ble_eq_true rfl) f54 (fun _ h9 => h9) rfl dX5_isTouched_10 ?_
  refine lv_imul hx hb dX5_isTouched_13 ?_
  refine lv_istore (lv' := [(5, .int (x3 * block)), (4, .int q1), (0, .ref (ad 0)), (1, .ref (ao 0)), (2, .ref (ap 0)), (3, .int x3)]) hx hb dX5_isTouched_14 hl (by decide) rfl (fun ls hl => ?_)
  have hL16 : ∀ (n : Nat) (x3 : Int32) (x4 : Int32) (x5 : Int32) (ls : Array Slot) (H : Heap) (locs : List Loc), lv_has ls 6 [(0, .ref (ad 0)), (1, .ref (ao 0)), (2, .ref (ap 0)), (3, .int x3), (4, .int x4), (5, .int x5)] → va_P D vwCl (wD_0_X2_X2 cA ad ao ap block ties lines pmn o b) H → va_D A (wD_0_X2_X2 cA ad ao ap block ties lines pmn o b) → va_S A s.heap H locs → mX5_isTouched_L16 block o b x3 x4 n x5 = some q → W p l e (headSpec wsX5_isTouched { frames := 2, cells := 0, slots := 0, locals := 46 }).room s m args below meth c H locs 0 0 Q (F0 m 16 ls []) := by
    intro n
    induction n with
    | zero => intro x3 x4 x5 ls H locs hl hP hD hS h; exact e_n h
    | succ n ih16 =>
      intro x3 x4 x5 ls H locs hl hP hD hS h
      rw [mX5_isTouched_L16.eq_2] at h
      refine lv_iload hx hb dX5_isTouched_16 (lv_at hl 5 rfl) ?_
      refine lv_iload hx hb dX5_isTouched_18 (lv_at hl 4 rfl) ?_
      refine lv_icmp_ge (tgt := 41) hx hb dX5_isTouched_20 (by decide) (fun c3 => ?_) (fun c3 => ?_)
      · have h := e_t c3 h
        refine lv_iload hx hb dX5_isTouched_41 (lv_at hl 4 rfl) ?_
        refine lv_aload_n hx hb dX5_isTouched_43 rfl (lv_at hl 0 rfl) ?_
        refine lv_aload_n hx hb dX5_isTouched_44 rfl (lv_at hl 1 rfl) ?_
        refine lv_iload_n hx hb dX5_isTouched_45 rfl (lv_at hl 3 rfl) ?_
        obtain ⟨q4, eq4, h⟩ := e_b h
        refine xv_i (As := [.ref (ao 0), .int x3]) (rest := [.int x4]) (ci := 5) (b := ad 0) ⟨hx, hb, hml, hown, hts⟩ hl.1 (kX5_blockEnd l D cA ad ao block ties lines pmn o x3  _ eq4) (cwV 2 hts gX5_isTouched_X5_blockEnd rfl rfl rfl (by decide +kernel) ⟨Nat.le_of_ble_eq_true rfl, Nat.le_of_ble_eq_true rfl⟩) rfl hK hP hD hS hA 0 rfl rfl rfl [0, 1, 2, 3] rfl (by decide +kernel) rfl (Nat.le_of_ble_eq_true rfl) dX5_isTouched_46 ⟨Nat.zero_le _, Nat.zero_le _⟩ (fun H locs hP hD hS hnq4 => ?_)
        have hP : va_P D vwCl (wD_0_X2_X2 cA ad ao ap block ties lines pmn o b) H := hP
        have hD : va_D A (wD_0_X2_X2 cA ad ao ap block ties lines pmn o b) := hD
        refine lv_icmp_ge (tgt := 56) hx hb dX5_isTouched_49 (by decide) (fun c5 => ?_) (fun c5 => ?_)
        · have h := e_t c5 h
          refine lv_iconst (v := 0) hx hb dX5_isTouched_56 (by decide) ?_
          obtain rfl := e_s h
          exact hret hP hS (show narrow .boolean (.int 0) = .int 0 from rfl) dX5_isTouched_57
        · have h := e_f c5 h
          refine lv_iconst (v := 1) hx hb dX5_isTouched_52 (by decide) ?_
          refine lv_goto (tgt := 57) hx hb dX5_isTouched_53 (by decide) ?_
          obtain rfl := e_s h
          exact hret hP hS (show narrow .boolean (.int 1) = .int 1 from rfl) dX5_isTouched_57
      · have h := e_f c3 h
        refine lv_aload_n hx hb dX5_isTouched_23 rfl (lv_at hl 2 rfl) ?_
        refine lv_aload_n hx hb dX5_isTouched_24 rfl (lv_at hl 1 rfl) ?_
        refine lv_iload hx hb dX5_isTouched_25 (lv_at hl 5 rfl) ?_
        obtain ⟨q6, eq6, h⟩ := e_b h
        refine xv_i (As := [.ref (ao 0), .int x5]) (rest := []) (ci := 2) (b := ap 0) ⟨hx, hb, hml, hown, hts⟩ hl.1 (kX2_isOtherThan l D cA ap ao b o x5  _ eq6) (cwV 2 hts gX5_isTouched_X2_isOtherThan rfl rfl rfl (by decide +kernel) ⟨Nat.le_of_ble_eq_true rfl, Nat.le_of_ble_eq_true rfl⟩) rfl hK hP hD hS hA 4 rfl rfl rfl [4, 5, 6, 1, 2, 3] rfl (by decide +kernel) rfl (Nat.le_of_ble_eq_true rfl) dX5_isTouched_27 ⟨Nat.zero_le _, Nat.zero_le _⟩ (fun H locs hP hD hS hnq6 => ?_)
        have hP : va_P D vwCl (wD_0_X2_X2 cA ad ao ap block ties lines pmn o b) H := hP
        have hD : va_D A (wD_0_X2_X2 cA ad ao ap block ties lines pmn o b) := hD
        refine lv_if_eq (tgt := 35) hx hb dX5_isTouched_30 (by decide) (fun c7 => ?_) (fun c7 => ?_)
        · have h := e_t c7 h
          refine lv_iinc (v := (x5 + 1)) (lv' := [(5, .int (x5 + 1)), (0, .ref (ad 0)), (1, .ref (ao 0)), (2, .ref (ap 0)), (3, .int x3), (4, .int x4)]) hx hb dX5_isTouched_35 hl (k := 5) rfl rfl (by decide) rfl (fun ls hl => ?_)
          refine lv_goto (tgt := 16) hx hb dX5_isTouched_38 (by decide) ?_
          exact ih16 x3 x4 (x5 + 1) _ _ _ (lv_sub hl [1, 2, 3, 4, 5, 0] rfl) hP hD hS h
        · have h := e_f c7 h
          refine lv_iconst (v := 1) hx hb dX5_isTouched_33 (by decide) ?_
          obtain rfl := e_s h
          exact hret hP hS (show narrow .boolean (.int 1) = .int 1 from rfl) dX5_isTouched_34
  exact hL16 FU x3 q1 (x3 * block) _ _ _ (lv_sub hl [2, 3, 4, 5, 1, 0] rfl) hP hD hS h
set_option maxHeartbeats 4000000 in
set_option maxRecDepth 100000 in
theorem kX5_pairsTouched (l : Launch) (D : va_G) (cA : Nat → ClassId) (ad : Nat → Nat) (ao : Nat → Nat) (ap : Nat → Nat) (block : Int32) (ties : Int32) (lines : Int32) (pmn : Int32) (o : RowT) (b : RowT)  (q : Int32) (h : mX5_pairsTouched block o b  = some q) : MI l yX5_pairsTouched wsX5_pairsTouched { frames := 3, cells := 0, slots := 0, locals := 71 } D cA .int [.ref (ad 0), .ref (ao 0), .ref (ap 0)] (wD_0_X2_X2 cA ad ao ap block ties lines pmn o b) (wD_0_X2_X2 cA ad ao ap block ties lines pmn o b) q := by
  refine MI.of (cc := cX5_pairsTouched) (maxL := 7) (by decide +kernel) rfl rfl rfl (Nat.le_of_ble_eq_true rfl) ?_
  intro p e s m args below meth c A ls Q hx hb hml hts hown hK hP hD hA hS hl hret
  have hl : lv_has ls 7 [(0, .ref (ad 0)), (1, .ref (ao 0)), (2, .ref (ap 0))] := hl
  unfold mX5_pairsTouched at h
  refine lv_aload_n hx hb dX5_pairsTouched_0 rfl (lv_at hl 0 rfl) ?_
  refine lv_aload_n hx hb dX5_pairsTouched_1 rfl (lv_at hl 2 rfl) ?_
  obtain ⟨q1, eq1, h⟩ := e_b h
  refine xv_i (As := [.ref (ap 0)]) (rest := []) (ci := 5) (b := ad 0) ⟨hx, hb, hml, hown, hts⟩ hl.1 (kX5_blocksOf l D cA ad ap block ties lines pmn b   _ eq1) (cwV 1 hts gX5_pairsTouched_X5_blocksOf rfl rfl rfl (by decide +kernel) ⟨Nat.le_of_ble_eq_true rfl, Nat.le_of_ble_eq_true rfl⟩) rfl hK hP hD hS hA 0 rfl rfl rfl [0, 4, 5, 6] rfl (by decide +kernel) rfl (Nat.le_of_ble_eq_true rfl) dX5_pairsTouched_2 ⟨Nat.zero_le _, Nat.zero_le _⟩ (fun H locs hP hD hS hnq1 => ?_)
  have hP : va_P D vwCl (wD_0_X2_X2 cA ad ao ap block ties lines pmn o b) H := hP
  have hD : va_D A (wD_0_X2_X2 cA ad ao ap block ties lines pmn o b) := hD
  refine lv_istore_n (lv' := [(3, .int q1), (0, .ref (ad 0)), (1, .ref (ao 0)), (2, .ref (ap 0))]) hx hb dX5_pairsTouched_5 rfl hl (by decide) rfl (fun ls hl => ?_)
  refine lv_iconst (v := 0) hx hb dX5_pairsTouched_6 (by decide) ?_
  refine lv_istore (lv' := [(4, .int 0), (3, .int q1), (0, .ref (ad 0)), (1, .ref (ao 0)), (2, .ref (ap 0))]) hx hb dX5_pairsTouched_7 hl (by decide) rfl (fun ls hl => ?_)
  refine lv_iconst (v := 0) hx hb dX5_pairsTouched_9 (by decide) ?_
  refine lv_istore (lv' := [(5, .int 0), (4, .int 0), (3, .int q1), (0, .ref (ad 0)), (1, .ref (ao 0)), (2, .ref (ap 0))]) hx hb dX5_pairsTouched_10 hl (by decide) rfl (fun ls hl => ?_)
  refine lv_iconst (v := 0) hx hb dX5_pairsTouched_12 (by decide) ?_
  refine lv_istore (lv' := [(6, .int 0), (5, .int 0), (4, .int 0), (3, .int q1), (0, .ref (ad 0)), (1, .ref (ao 0)), (2, .ref (ap 0))]) hx hb dX5_pairsTouched_13 hl (by decide) rfl (fun ls hl => ?_)
  have hL15 : ∀ (n : Nat) (x3 : Int32) (x4 : Int32) (x5 : Int32) (x6 : Int32) (block : Int32) (ties : Int32) (lines : Int32) (pmn : Int32) (o : RowT) (b : RowT) (z2 : Int32) (ls : Array Slot) (H : Heap) (locs : List Loc), lv_has ls 7 [(0, .ref (ad 0)), (1, .ref (ao 0)), (2, .ref (ap 0)), (3, .int x3), (4, .int x4), (5, .int x5), (6, .int x6)] → va_P D vwCl (wD_0_X2_X2 cA ad ao ap block ties lines pmn o b) H → va_D A (wD_0_X2_X2 cA ad ao ap block ties lines pmn o b) → va_S A s.heap H locs → mX5_pairsTouched_L15 block o b x3 n x4 x5 x6 = some z2 → (∀ (ls : Array Slot) (H : Heap) (locs : List Loc), lv_has ls 7 [(3, .int x3), (4, .int z2)] → va_P D vwCl (wD_0_X2_X2 cA ad ao ap block ties lines pmn o b) H → va_D A (wD_0_X2_X2 cA ad ao ap block ties lines pmn o b) → va_S A s.heap H locs → W p l e (headSpec wsX5_pairsTouched { frames := 3, cells := 0, slots := 0, locals := 71 }).room s m args below meth c H locs 0 0 Q (F0 m 55 ls [])) → W p l e (headSpec wsX5_pairsTouched { frames := 3, cells := 0, slots := 0, locals := 71 }).room s m args below meth c H locs 0 0 Q (F0 m 15 ls []) := by
    intro n
    induction n with
    | zero => intro x3 x4 x5 x6 block ties lines pmn o b z2 ls H locs hl hP hD hS h hk15; exact e_n h
    | succ n ih15 =>
      intro x3 x4 x5 x6 block ties lines pmn o b z2 ls H locs hl hP hD hS h hk15
      rw [mX5_pairsTouched_L15.eq_2] at h
      refine lv_iload hx hb dX5_pairsTouched_15 (lv_at hl 6 rfl) ?_
      refine lv_iload_n hx hb dX5_pairsTouched_17 rfl (lv_at hl 3 rfl) ?_
      refine lv_icmp_ge (tgt := 55) hx hb dX5_pairsTouched_18 (by decide) (fun c3 => ?_) (fun c3 => ?_)
      · have h := e_t c3 h
        obtain rfl := e_s h
        exact hk15 _ _ _ (lv_sub hl [3, 4] rfl) hP hD hS
      · have h := e_f c3 h
        refine lv_aload_n hx hb dX5_pairsTouched_21 rfl (lv_at hl 0 rfl) ?_
        refine lv_aload_n hx hb dX5_pairsTouched_22 rfl (lv_at hl 1 rfl) ?_
        refine lv_aload_n hx hb dX5_pairsTouched_23 rfl (lv_at hl 2 rfl) ?_
        refine lv_iload hx hb dX5_pairsTouched_24 (lv_at hl 6 rfl) ?_
        obtain ⟨q4, eq4, h⟩ := e_b h
        refine xv_i0 (As := [.ref (ao 0), .ref (ap 0), .int x6]) (rest := []) (ci := 5) (b := ad 0) ⟨hx, hb, hml, hown, hts⟩ hl.1 (kX5_isTouched l D cA ad ao ap block ties lines pmn o b x6  _ eq4) (cwV 3 hts gX5_pairsTouched_X5_isTouched rfl rfl rfl (by decide +kernel) ⟨Nat.le_of_ble_eq_true rfl, Nat.le_of_ble_eq_true rfl⟩) rfl hK hP hD hS hA 0 rfl rfl rfl rfl (Nat.le_of_ble_eq_true rfl) dX5_pairsTouched_26 ⟨Nat.zero_le _, Nat.zero_le _⟩ (fun H locs hP hD hS hnq4 => ?_)
        have hP : va_P D vwCl (wD_0_X2_X2 cA ad ao ap block ties lines pmn o b) H := hP
        have hD : va_D A (wD_0_X2_X2 cA ad ao ap block ties lines pmn o b) := hD
        refine lv_if_eq (tgt := 36) hx hb dX5_pairsTouched_29 (by decide) (fun c5 => ?_) (fun c5 => ?_)
        · have h := e_t c5 h
          refine lv_iload hx hb dX5_pairsTouched_36 (lv_at hl 5 rfl) ?_
          refine lv_iconst (v := 1) hx hb dX5_pairsTouched_38 (by decide) ?_
          refine lv_iadd hx hb dX5_pairsTouched_39 ?_
          refine lv_istore (lv' := [(5, .int (x5 + 1)), (0, .ref (ad 0)), (1, .ref (ao 0)), (2, .ref (ap 0)), (3, .int x3), (4, .int x4), (6, .int x6)]) hx hb dX5_pairsTouched_40 hl (by decide) rfl (fun ls hl => ?_)
          refine lv_iload hx hb dX5_pairsTouched_42 (lv_at hl 5 rfl) ?_
          refine lv_iload hx hb dX5_pairsTouched_44 (lv_at hl 0 rfl) ?_
          refine lv_iadd hx hb dX5_pairsTouched_46 ?_
          refine lv_istore (lv' := [(4, .int (x4 + (x5 + 1))), (5, .int (x5 + 1)), (0, .ref (ad 0)), (1, .ref (ao 0)), (2, .ref (ap 0)), (3, .int x3), (6, .int x6)]) hx hb dX5_pairsTouched_47 hl (by decide) rfl (fun ls hl => ?_)
          refine lv_iinc (v := (x6 + 1)) (lv' := [(6, .int (x6 + 1)), (4, .int (x4 + (x5 + 1))), (5, .int (x5 + 1)), (0, .ref (ad 0)), (1, .ref (ao 0)), (2, .ref (ap 0)), (3, .int x3)]) hx hb dX5_pairsTouched_49 hl (k := 6) rfl rfl (by decide) rfl (fun ls hl => ?_)
          refine lv_goto (tgt := 15) hx hb dX5_pairsTouched_52 (by decide) ?_
          exact ih15 x3 (x4 + (x5 + 1)) (x5 + 1) (x6 + 1) block ties lines pmn o b z2 _ _ _ (lv_sub hl [3, 4, 5, 6, 1, 2, 0] rfl) hP hD hS h hk15
        · have h := e_f c5 h
          refine lv_iconst (v := 0) hx hb dX5_pairsTouched_32 (by decide) ?_
          refine lv_goto (tgt := 40) hx hb dX5_pairsTouched_33 (by decide) ?_
          refine lv_istore (lv' := [(5, .int 0), (0, .ref (ad 0)), (1, .ref (ao 0)), (2, .ref (ap 0)), (3, .int x3), (4, .int x4), (6, .int x6)]) hx hb dX5_pairsTouched_40 hl (by decide) rfl (fun ls hl => ?_)
          refine lv_iload hx hb dX5_pairsTouched_42 (lv_at hl 5 rfl) ?_
          refine lv_iload hx hb dX5_pairsTouched_44 (lv_at hl 0 rfl) ?_
          refine lv_iadd hx hb dX5_pairsTouched_46 ?_
          refine lv_istore (lv' := [(4, .int (x4 + 0)), (5, .int 0), (0, .ref (ad 0)), (1, .ref (ao 0)), (2, .ref (ap 0)), (3, .int x3), (6, .int x6)]) hx hb dX5_pairsTouched_47 hl (by decide) rfl (fun ls hl => ?_)
          refine lv_iinc (v := (x6 + 1)) (lv' := [(6, .int (x6 + 1)), (4, .int (x4 + 0)), (5, .int 0), (0, .ref (ad 0)), (1, .ref (ao 0)), (2, .ref (ap 0)), (3, .int x3)]) hx hb dX5_pairsTouched_49 hl (k := 6) rfl rfl (by decide) rfl (fun ls hl => ?_)
          refine lv_goto (tgt := 15) hx hb dX5_pairsTouched_52 (by decide) ?_
          exact ih15 x3 (x4 + 0) 0 (x6 + 1) block ties lines pmn o b z2 _ _ _ (lv_sub hl [3, 4, 5, 6, 1, 2, 0] rfl) hP hD hS h hk15
  obtain ⟨z6, ez6, h⟩ := e_b h
  refine hL15 FU q1 0 0 0 block ties lines pmn o b z6 _ _ _ (lv_sub hl [4, 5, 6, 3, 2, 1, 0] rfl) hP hD hS ez6 (fun ls H locs hl hP hD hS => ?_)
  refine lv_iload_n hx hb dX5_pairsTouched_55 rfl (lv_at hl 0 rfl) ?_
  refine lv_iload_n hx hb dX5_pairsTouched_56 rfl (lv_at hl 0 rfl) ?_
  refine lv_iconst (v := 1) hx hb dX5_pairsTouched_57 (by decide) ?_
  refine lv_iadd hx hb dX5_pairsTouched_58 ?_
  refine lv_imul hx hb dX5_pairsTouched_59 ?_
  refine lv_iconst (v := 2) hx hb dX5_pairsTouched_60 (by decide) ?_
  obtain ⟨v7, ev7, nv7, h⟩ := e_dv h
  refine xa_idiv hx hb dX5_pairsTouched_61 nv7 ev7 ?_
  refine lv_iload hx hb dX5_pairsTouched_62 (lv_at hl 1 rfl) ?_
  refine lv_isub hx hb dX5_pairsTouched_64 ?_
  obtain rfl := e_s h
  exact hret hP hS rfl dX5_pairsTouched_65
set_option maxHeartbeats 4000000 in
set_option maxRecDepth 100000 in
theorem kX5_settle (l : Launch) (D : va_G) (cA : Nat → ClassId) (ad : Nat → Nat) (block : Int32) (ties : Int32) (lines : Int32) (pmn : Int32) (row : RowT) (next : RowT) (past : PasT)  (q : Int32 × Int32 × RowT × PasT) (h : mX5_settle block pmn row next past  = some q) : MI l yX5_settle wsX5_settle { frames := 4, cells := 0, slots := 0, locals := 97 } D cA .int [.ref (ad 0)] (wD_row_next_past cA ad block ties lines pmn row next past) (wD_row_next_past cA ad block ties lines q.2.1 q.2.2.1 next q.2.2.2) q.1 := by
  refine MI.of (cc := cX5_settle) (maxL := 3) (by decide +kernel) rfl rfl rfl (Nat.le_of_ble_eq_true rfl) ?_
  intro p e s m args below meth c A ls Q hx hb hml hts hown hK hP hD hA hS hl hret
  have hl : lv_has ls 3 [(0, .ref (ad 0))] := hl
  have f135 := hts (.fieldLink RX5 135 "ModeDesk$Row" "size" "I") (by decide +kernel)
  have f26 := hts (.fieldLink RX5 26 "ModeDesk" "row" "LModeDesk$Row;") (by decide +kernel)
  have f30 := hts (.fieldLink RX5 30 "ModeDesk" "next" "LModeDesk$Row;") (by decide +kernel)
  have f36 := hts (.fieldLink RX5 36 "ModeDesk" "past" "LModeDesk$Past;") (by decide +kernel)
  have f64 := hts (.fieldLink RX5 64 "ModeDesk" "pairsMadeNew" "I") (by decide +kernel)
  have iX2 : ∀ w ∈ wsX20, w ∈ wsX5_settle := by decide +kernel
  have iX5 : ∀ w ∈ wsX50, w ∈ wsX5_settle := by decide +kernel
  unfold mX5_settle at h
  refine lv_aload_n hx hb dX5_settle_0 rfl (lv_at hl 0 rfl) ?_
  refine va_get (D := D) (ci := 5) (v := .ref (ad 10)) (C := RX5) (T := TX5) (N := 12) hx hb hts iX5 hown hK hP 0 rfl rfl 3 (Nat.le_of_ble_eq_true rfl) f30 (fun _ h9 => h9) rfl dX5_settle_1 ?_
  refine lv_aload_n hx hb dX5_settle_4 rfl (lv_at hl 0 rfl) ?_
  refine va_get (D := D) (ci := 5) (v := .ref (ad 7)) (C := RX5) (T := TX5) (N := 12) hx hb hts iX5 hown hK hP 0 rfl rfl 2 (Nat.le_of_ble_eq_true rfl) f26 (fun _ h9 => h9) rfl dX5_settle_5 ?_
  obtain ⟨q1, eq1, h⟩ := e_b h
  refine xv_i (As := [.ref (ad 7)]) (rest := []) (ci := 2) (b := ad 10) ⟨hx, hb, hml, hown, hts⟩ hl.1 (kX2_isLike l D cA (fun i => ad (10 + i)) (fun i => ad (7 + i)) next row   _ eq1) (cwV 1 hts gX5_settle_X2_isLike rfl rfl rfl (by decide +kernel) ⟨Nat.le_of_ble_eq_true rfl, Nat.le_of_ble_eq_true rfl⟩) rfl hK hP hD hS hA 4 rfl rfl rfl [4, 5, 6, 1, 2, 3] rfl (by decide +kernel) rfl (Nat.le_of_ble_eq_true rfl) dX5_settle_8 ⟨Nat.zero_le _, Nat.zero_le _⟩ (fun H locs hP hD hS hnq1 => ?_)
  have hP : va_P D vwCl (wD_row_next_past cA ad block ties lines pmn row next past) H := hP
  have hD : va_D A (wD_row_next_past cA ad block ties lines pmn row next past) := hD
  refine lv_if_eq (tgt := 16) hx hb dX5_settle_11 (by decide) (fun c2 => ?_) (fun c2 => ?_)
  · have h := e_t c2 h
    refine lv_iconst (v := 0) hx hb dX5_settle_16 (by decide) ?_
    refine lv_istore_n (lv' := [(1, .int 0), (0, .ref (ad 0))]) hx hb dX5_settle_17 rfl hl (by decide) rfl (fun ls hl => ?_)
    refine lv_iconst (v := 0) hx hb dX5_settle_18 (by decide) ?_
    refine lv_istore_n (lv' := [(2, .int 0), (1, .int 0), (0, .ref (ad 0))]) hx hb dX5_settle_19 rfl hl (by decide) rfl (fun ls hl => ?_)
    have hL20 : ∀ (n : Nat) (x1 : Int32) (x2 : Int32) (block : Int32) (ties : Int32) (lines : Int32) (pmn : Int32) (row : RowT) (next : RowT) (past : PasT) (z3 : Int32) (ls : Array Slot) (H : Heap) (locs : List Loc), lv_has ls 3 [(0, .ref (ad 0)), (1, .int x1), (2, .int x2)] → va_P D vwCl (wD_row_next_past cA ad block ties lines pmn row next past) H → va_D A (wD_row_next_past cA ad block ties lines pmn row next past) → va_S A s.heap H locs → mX5_settle_L20 row next n x1 x2 = some z3 → (∀ (ls : Array Slot) (H : Heap) (locs : List Loc), lv_has ls 3 [(0, .ref (ad 0)), (1, .int z3)] → va_P D vwCl (wD_row_next_past cA ad block ties lines pmn row next past) H → va_D A (wD_row_next_past cA ad block ties lines pmn row next past) → va_S A s.heap H locs → W p l e (headSpec wsX5_settle { frames := 4, cells := 0, slots := 0, locals := 97 }).room s m args below meth c H locs 0 0 Q (F0 m 55 ls [])) → W p l e (headSpec wsX5_settle { frames := 4, cells := 0, slots := 0, locals := 97 }).room s m args below meth c H locs 0 0 Q (F0 m 20 ls []) := by
      intro n
      induction n with
      | zero => intro x1 x2 block ties lines pmn row next past z3 ls H locs hl hP hD hS h hk20; exact e_n h
      | succ n ih20 =>
        intro x1 x2 block ties lines pmn row next past z3 ls H locs hl hP hD hS h hk20
        rw [mX5_settle_L20.eq_2] at h
        refine lv_iload_n hx hb dX5_settle_20 rfl (lv_at hl 2 rfl) ?_
        refine lv_aload_n hx hb dX5_settle_21 rfl (lv_at hl 0 rfl) ?_
        refine va_get (D := D) (ci := 5) (v := .ref (ad 10)) (C := RX5) (T := TX5) (N := 12) hx hb hts iX5 hown hK hP 0 rfl rfl 3 (Nat.le_of_ble_eq_true rfl) f30 (fun _ h9 => h9) rfl dX5_settle_22 ?_
        refine va_get (D := D) (ci := 2) (v := .int next.2.2) (C := RX2) (T := TX2) (N := 3) hx hb hts iX2 hown hK hP 4 rfl rfl 2 (Nat.le_of_ble_eq_true rfl) f135 (fun _ h9 => h9) rfl dX5_settle_25 ?_
        refine lv_icmp_ge (tgt := 55) hx hb dX5_settle_28 (by decide) (fun c4 => ?_) (fun c4 => ?_)
        · have h := e_t c4 h
          obtain rfl := e_s h
          exact hk20 _ _ _ (lv_sub hl [0, 1] rfl) hP hD hS
        · have h := e_f c4 h
          refine lv_aload_n hx hb dX5_settle_31 rfl (lv_at hl 0 rfl) ?_
          refine va_get (D := D) (ci := 5) (v := .ref (ad 10)) (C := RX5) (T := TX5) (N := 12) hx hb hts iX5 hown hK hP 0 rfl rfl 3 (Nat.le_of_ble_eq_true rfl) f30 (fun _ h9 => h9) rfl dX5_settle_32 ?_
          refine lv_aload_n hx hb dX5_settle_35 rfl (lv_at hl 0 rfl) ?_
          refine va_get (D := D) (ci := 5) (v := .ref (ad 7)) (C := RX5) (T := TX5) (N := 12) hx hb hts iX5 hown hK hP 0 rfl rfl 2 (Nat.le_of_ble_eq_true rfl) f26 (fun _ h9 => h9) rfl dX5_settle_36 ?_
          refine lv_iload_n hx hb dX5_settle_39 rfl (lv_at hl 2 rfl) ?_
          obtain ⟨q5, eq5, h⟩ := e_b h
          refine xv_i (As := [.ref (ad 7), .int x2]) (rest := []) (ci := 2) (b := ad 10) ⟨hx, hb, hml, hown, hts⟩ hl.1 (kX2_isOtherThan l D cA (fun i => ad (10 + i)) (fun i => ad (7 + i)) next row x2  _ eq5) (cwV 2 hts gX5_settle_X2_isOtherThan rfl rfl rfl (by decide +kernel) ⟨Nat.le_of_ble_eq_true rfl, Nat.le_of_ble_eq_true rfl⟩) rfl hK hP hD hS hA 4 rfl rfl rfl [4, 5, 6, 1, 2, 3] rfl (by decide +kernel) rfl (Nat.le_of_ble_eq_true rfl) dX5_settle_40 ⟨Nat.zero_le _, Nat.zero_le _⟩ (fun H locs hP hD hS hnq5 => ?_)
          have hP : va_P D vwCl (wD_row_next_past cA ad block ties lines pmn row next past) H := hP
          have hD : va_D A (wD_row_next_past cA ad block ties lines pmn row next past) := hD
          refine lv_if_eq (tgt := 49) hx hb dX5_settle_43 (by decide) (fun c6 => ?_) (fun c6 => ?_)
          · have h := e_t c6 h
            refine lv_iinc (v := (x2 + 1)) (lv' := [(2, .int (x2 + 1)), (0, .ref (ad 0)), (1, .int x1)]) hx hb dX5_settle_49 hl (k := 2) rfl rfl (by decide) rfl (fun ls hl => ?_)
            refine lv_goto (tgt := 20) hx hb dX5_settle_52 (by decide) ?_
            exact ih20 x1 (x2 + 1) block ties lines pmn row next past z3 _ _ _ (lv_sub hl [1, 2, 0] rfl) hP hD hS h hk20
          · have h := e_f c6 h
            refine lv_iinc (v := (x1 + 1)) (lv' := [(1, .int (x1 + 1)), (0, .ref (ad 0)), (2, .int x2)]) hx hb dX5_settle_46 hl (k := 1) rfl rfl (by decide) rfl (fun ls hl => ?_)
            refine lv_iinc (v := (x2 + 1)) (lv' := [(2, .int (x2 + 1)), (1, .int (x1 + 1)), (0, .ref (ad 0))]) hx hb dX5_settle_49 hl (k := 2) rfl rfl (by decide) rfl (fun ls hl => ?_)
            refine lv_goto (tgt := 20) hx hb dX5_settle_52 (by decide) ?_
            exact ih20 (x1 + 1) (x2 + 1) block ties lines pmn row next past z3 _ _ _ (lv_sub hl [2, 1, 0] rfl) hP hD hS h hk20
    obtain ⟨z7, ez7, h⟩ := e_b h
    refine hL20 FU 0 0 block ties lines pmn row next past z7 _ _ _ (lv_sub hl [2, 1, 0] rfl) hP hD hS ez7 (fun ls H locs hl hP hD hS => ?_)
    refine lv_aload_n hx hb dX5_settle_55 rfl (lv_at hl 0 rfl) ?_
    refine va_get (D := D) (ci := 5) (v := .ref (ad 13)) (C := RX5) (T := TX5) (N := 12) hx hb hts iX5 hown hK hP 0 rfl rfl 4 (Nat.le_of_ble_eq_true rfl) f36 (fun _ h9 => h9) rfl dX5_settle_56 ?_
    refine lv_aload_n hx hb dX5_settle_59 rfl (lv_at hl 0 rfl) ?_
    refine va_get (D := D) (ci := 5) (v := .ref (ad 7)) (C := RX5) (T := TX5) (N := 12) hx hb hts iX5 hown hK hP 0 rfl rfl 2 (Nat.le_of_ble_eq_true rfl) f26 (fun _ h9 => h9) rfl dX5_settle_60 ?_
    obtain ⟨q8, eq8, h⟩ := e_b h
    refine xv_v (As := [.ref (ad 7)]) (rest := []) (ci := 0) (b := ad 13) ⟨hx, hb, hml, hown, hts⟩ hl.1 (kX0_keep l D cA (fun i => ad (13 + i)) (fun i => ad (7 + i)) past row   _ eq8) (cwV 1 hts gX5_settle_X0_keep rfl rfl rfl (by decide +kernel) ⟨Nat.le_of_ble_eq_true rfl, Nat.le_of_ble_eq_true rfl⟩) rfl hK hP hD hS hA 7 rfl rfl rfl [7, 8, 9, 10, 11, 12, 13, 14, 15, 16, 17, 18, 19, 20, 21, 22, 23, 24, 25, 26, 27, 28, 29, 30, 31, 32, 33, 34, 35, 36, 37, 38, 39, 40, 41, 42, 43, 44, 1, 2, 3] rfl (by decide +kernel) rfl (Nat.le_of_ble_eq_true rfl) dX5_settle_63 ⟨Nat.zero_le _, Nat.zero_le _⟩ (fun H locs hP hD hS => ?_)
    have hP : va_P D vwCl (wD_row_next_past cA ad block ties lines pmn row next q8) H := hP
    have hD : va_D A (wD_row_next_past cA ad block ties lines pmn row next q8) := hD
    refine lv_aload_n hx hb dX5_settle_66 rfl (lv_at hl 0 rfl) ?_
    refine lv_aload_n hx hb dX5_settle_67 rfl (lv_at hl 0 rfl) ?_
    refine lv_aload_n hx hb dX5_settle_68 rfl (lv_at hl 0 rfl) ?_
    refine va_get (D := D) (ci := 5) (v := .ref (ad 7)) (C := RX5) (T := TX5) (N := 12) hx hb hts iX5 hown hK hP 0 rfl rfl 2 (Nat.le_of_ble_eq_true rfl) f26 (fun _ h9 => h9) rfl dX5_settle_69 ?_
    refine lv_aload_n hx hb dX5_settle_72 rfl (lv_at hl 0 rfl) ?_
    refine va_get (D := D) (ci := 5) (v := .ref (ad 10)) (C := RX5) (T := TX5) (N := 12) hx hb hts iX5 hown hK hP 0 rfl rfl 3 (Nat.le_of_ble_eq_true rfl) f30 (fun _ h9 => h9) rfl dX5_settle_73 ?_
    obtain ⟨q9, eq9, h⟩ := e_b h
    refine xv_i (As := [.ref (ad 7), .ref (ad 10)]) (rest := [.ref (ad 0)]) (ci := 5) (b := ad 0) ⟨hx, hb, hml, hown, hts⟩ hl.1 (kX5_pairsTouched l D cA ad (fun i => ad (7 + i)) (fun i => ad (10 + i)) block ties lines pmn row next   _ eq9) (cwV 2 hts gX5_settle_X5_pairsTouched rfl rfl rfl (by decide +kernel) ⟨Nat.le_of_ble_eq_true rfl, Nat.le_of_ble_eq_true rfl⟩) rfl hK hP hD hS hA 0 rfl rfl rfl [0, 1, 2, 3, 4, 5, 6] rfl (by decide +kernel) rfl (Nat.le_of_ble_eq_true rfl) dX5_settle_76 ⟨Nat.zero_le _, Nat.zero_le _⟩ (fun H locs hP hD hS hnq9 => ?_)
    have hP : va_P D vwCl (wD_row_next_past cA ad block ties lines pmn row next q8) H := hP
    have hD : va_D A (wD_row_next_past cA ad block ties lines pmn row next q8) := hD
    refine va_put (D := D) (ci := 5) (v := .int q9) (ty := .int) (C := RX5) (T := TX5) (N := 12) hx hb hts iX5 tyX5 tyX5_ok nmX5 hown hK hP hD hS 0 rfl rfl 11 (Nat.le_of_ble_eq_true rfl) f64 (fun _ h9 => h9) rfl (tyX5_ok 11 (Nat.le_of_ble_eq_true rfl)) rfl rfl (Nat.le_of_ble_eq_true rfl) dX5_settle_79 (fun H locs hP hD hS => ?_)
    have hP : va_P D vwCl (wD_row_next_past cA ad block ties lines q9 row next q8) H := hP
    have hD : va_D A (wD_row_next_past cA ad block ties lines q9 row next q8) := hD
    refine lv_aload_n hx hb dX5_settle_82 rfl (lv_at hl 0 rfl) ?_
    refine va_get (D := D) (ci := 5) (v := .ref (ad 7)) (C := RX5) (T := TX5) (N := 12) hx hb hts iX5 hown hK hP 0 rfl rfl 2 (Nat.le_of_ble_eq_true rfl) f26 (fun _ h9 => h9) rfl dX5_settle_83 ?_
    refine lv_aload_n hx hb dX5_settle_86 rfl (lv_at hl 0 rfl) ?_
    refine va_get (D := D) (ci := 5) (v := .ref (ad 10)) (C := RX5) (T := TX5) (N := 12) hx hb hts iX5 hown hK hP 0 rfl rfl 3 (Nat.le_of_ble_eq_true rfl) f30 (fun _ h9 => h9) rfl dX5_settle_87 ?_
    obtain ⟨q10, eq10, h⟩ := e_b h
    refine xv_v (As := [.ref (ad 10)]) (rest := []) (ci := 2) (b := ad 7) ⟨hx, hb, hml, hown, hts⟩ hl.1 (kX2_take l D cA (fun i => ad (7 + i)) (fun i => ad (10 + i)) row next   _ eq10) (cwV 1 hts gX5_settle_X2_take rfl rfl rfl (by decide +kernel) ⟨Nat.le_of_ble_eq_true rfl, Nat.le_of_ble_eq_true rfl⟩) rfl hK hP hD hS hA 1 rfl rfl rfl [1, 2, 3, 4, 5, 6] rfl (by decide +kernel) rfl (Nat.le_of_ble_eq_true rfl) dX5_settle_90 ⟨Nat.zero_le _, Nat.zero_le _⟩ (fun H locs hP hD hS => ?_)
    have hP : va_P D vwCl (wD_row_next_past cA ad block ties lines q9 q10 next q8) H := hP
    have hD : va_D A (wD_row_next_past cA ad block ties lines q9 q10 next q8) := hD
    refine lv_iload_n hx hb dX5_settle_93 rfl (lv_at hl 1 rfl) ?_
    obtain rfl := e_s h
    exact hret hP hS rfl dX5_settle_94
  · have h := e_f c2 h
    refine lv_iconst (v := 0) hx hb dX5_settle_14 (by decide) ?_
    obtain rfl := e_s h
    exact hret hP hS rfl dX5_settle_15
set_option maxHeartbeats 4000000 in
set_option maxRecDepth 100000 in
theorem kX5_set (l : Launch) (D : va_G) (cA : Nat → ClassId) (ad : Nat → Nat) (block : Int32) (ties : Int32) (lines : Int32) (pmn : Int32) (row : RowT) (next : RowT) (past : PasT) (x1 : Int32) (x2 : Int32) (q : Int32 × Int32 × RowT × RowT × PasT) (h : mX5_set block pmn row next past x1 x2 = some q) : MI l yX5_set wsX5_set { frames := 5, cells := 0, slots := 0, locals := 119 } D cA .int [.ref (ad 0), .int x1, .int x2] (wD_row_next_past cA ad block ties lines pmn row next past) (wD_row_next_past cA ad block ties lines q.2.1 q.2.2.1 q.2.2.2.1 q.2.2.2.2) q.1 := by
  refine MI.of (cc := cX5_set) (maxL := 4) (by decide +kernel) rfl rfl rfl (Nat.le_of_ble_eq_true rfl) ?_
  intro p e s m args below meth c A ls Q hx hb hml hts hown hK hP hD hA hS hl hret
  have hl : lv_has ls 4 [(0, .ref (ad 0)), (1, .int x1), (2, .int x2)] := hl
  have f106 := hts (.fieldLink RX5 106 "ModeDesk$Row" "values" "[I") (by decide +kernel)
  have f26 := hts (.fieldLink RX5 26 "ModeDesk" "row" "LModeDesk$Row;") (by decide +kernel)
  have f30 := hts (.fieldLink RX5 30 "ModeDesk" "next" "LModeDesk$Row;") (by decide +kernel)
  have iX2 : ∀ w ∈ wsX20, w ∈ wsX5_set := by decide +kernel
  have iX5 : ∀ w ∈ wsX50, w ∈ wsX5_set := by decide +kernel
  unfold mX5_set at h
  refine lv_aload_n hx hb dX5_set_0 rfl (lv_at hl 0 rfl) ?_
  refine va_get (D := D) (ci := 5) (v := .ref (ad 7)) (C := RX5) (T := TX5) (N := 12) hx hb hts iX5 hown hK hP 0 rfl rfl 2 (Nat.le_of_ble_eq_true rfl) f26 (fun _ h9 => h9) rfl dX5_set_1 ?_
  refine lv_iload_n hx hb dX5_set_4 rfl (lv_at hl 1 rfl) ?_
  obtain ⟨q1, eq1, h⟩ := e_b h
  refine xv_i (As := [.int x1]) (rest := []) (ci := 2) (b := ad 7) ⟨hx, hb, hml, hown, hts⟩ hl.1 (kX2_has l D cA (fun i => ad (7 + i)) row x1  _ eq1) (cwV 1 hts gX5_set_X2_has rfl rfl rfl (by decide +kernel) ⟨Nat.le_of_ble_eq_true rfl, Nat.le_of_ble_eq_true rfl⟩) rfl hK hP hD hS hA 1 rfl rfl rfl [1, 2, 3] rfl (by decide +kernel) rfl (Nat.le_of_ble_eq_true rfl) dX5_set_5 ⟨Nat.zero_le _, Nat.zero_le _⟩ (fun H locs hP hD hS hnq1 => ?_)
  have hP : va_P D vwCl (wD_row_next_past cA ad block ties lines pmn row next past) H := hP
  have hD : va_D A (wD_row_next_past cA ad block ties lines pmn row next past) := hD
  refine lv_if_eq (tgt := 18) hx hb dX5_set_8 (by decide) (fun c2 => ?_) (fun c2 => ?_)
  · have h := e_t c2 h
    refine lv_iconst (v := (-1)) hx hb dX5_set_18 (by decide) ?_
    obtain rfl := e_s h
    exact hret hP hS rfl dX5_set_19
  · have h := e_f c2 h
    refine lv_iload_n hx hb dX5_set_11 rfl (lv_at hl 2 rfl) ?_
    obtain ⟨q3, eq3, h⟩ := e_b h
    refine xs_i (As := [.int x2]) (rest := []) ⟨hx, hb, hml, hown, hts⟩ hl.1 (kX5_isValue l D cA   x2  _ eq3) (va_cwS 1 hts gX5_set_X5_isValue rfl rfl rfl (by decide +kernel) ⟨Nat.le_of_ble_eq_true rfl, Nat.le_of_ble_eq_true rfl⟩) rfl hK hP hD hS hA [] rfl (by decide +kernel) rfl (Nat.le_of_ble_eq_true rfl) dX5_set_12 ⟨Nat.zero_le _, Nat.zero_le _⟩ (fun H locs hP hD hS hnq3 => ?_)
    have hP : va_P D vwCl (wD_row_next_past cA ad block ties lines pmn row next past) H := hP
    have hD : va_D A (wD_row_next_past cA ad block ties lines pmn row next past) := hD
    refine lv_if_ne (tgt := 20) hx hb dX5_set_15 (by decide) (fun c4 => ?_) (fun c4 => ?_)
    · have h := e_t c4 h
      refine lv_aload_n hx hb dX5_set_20 rfl (lv_at hl 0 rfl) ?_
      refine va_get (D := D) (ci := 5) (v := .ref (ad 7)) (C := RX5) (T := TX5) (N := 12) hx hb hts iX5 hown hK hP 0 rfl rfl 2 (Nat.le_of_ble_eq_true rfl) f26 (fun _ h9 => h9) rfl dX5_set_21 ?_
      refine va_get (D := D) (ci := 2) (v := .ref (ad 8)) (C := RX2) (T := TX2) (N := 3) hx hb hts iX2 hown hK hP 1 rfl rfl 0 (Nat.le_of_ble_eq_true rfl) f106 (fun _ h9 => h9) rfl dX5_set_24 ?_
      refine lv_iload_n hx hb dX5_set_27 rfl (lv_at hl 1 rfl) ?_
      obtain ⟨v5, ev5, nv5, h⟩ := e_rd h
      refine xa_iald hx hb hK hP 2 rfl nv5 ev5 dX5_set_28 ?_
      refine lv_istore_n (lv' := [(3, .int v5), (0, .ref (ad 0)), (1, .int x1), (2, .int x2)]) hx hb dX5_set_29 rfl hl (by decide) rfl (fun ls hl => ?_)
      refine lv_aload_n hx hb dX5_set_30 rfl (lv_at hl 1 rfl) ?_
      refine va_get (D := D) (ci := 5) (v := .ref (ad 10)) (C := RX5) (T := TX5) (N := 12) hx hb hts iX5 hown hK hP 0 rfl rfl 3 (Nat.le_of_ble_eq_true rfl) f30 (fun _ h9 => h9) rfl dX5_set_31 ?_
      refine lv_aload_n hx hb dX5_set_34 rfl (lv_at hl 1 rfl) ?_
      refine va_get (D := D) (ci := 5) (v := .ref (ad 7)) (C := RX5) (T := TX5) (N := 12) hx hb hts iX5 hown hK hP 0 rfl rfl 2 (Nat.le_of_ble_eq_true rfl) f26 (fun _ h9 => h9) rfl dX5_set_35 ?_
      obtain ⟨q6, eq6, h⟩ := e_b h
      refine xv_v (As := [.ref (ad 7)]) (rest := []) (ci := 2) (b := ad 10) ⟨hx, hb, hml, hown, hts⟩ hl.1 (kX2_take l D cA (fun i => ad (10 + i)) (fun i => ad (7 + i)) next row   _ eq6) (cwV 1 hts gX5_set_X2_take rfl rfl rfl (by decide +kernel) ⟨Nat.le_of_ble_eq_true rfl, Nat.le_of_ble_eq_true rfl⟩) rfl hK hP hD hS hA 4 rfl rfl rfl [4, 5, 6, 1, 2, 3] rfl (by decide +kernel) rfl (Nat.le_of_ble_eq_true rfl) dX5_set_38 ⟨Nat.zero_le _, Nat.zero_le _⟩ (fun H locs hP hD hS => ?_)
      have hP : va_P D vwCl (wD_row_next_past cA ad block ties lines pmn row q6 past) H := hP
      have hD : va_D A (wD_row_next_past cA ad block ties lines pmn row q6 past) := hD
      refine lv_aload_n hx hb dX5_set_41 rfl (lv_at hl 1 rfl) ?_
      refine va_get (D := D) (ci := 5) (v := .ref (ad 10)) (C := RX5) (T := TX5) (N := 12) hx hb hts iX5 hown hK hP 0 rfl rfl 3 (Nat.le_of_ble_eq_true rfl) f30 (fun _ h9 => h9) rfl dX5_set_42 ?_
      refine va_get (D := D) (ci := 2) (v := .ref (ad 11)) (C := RX2) (T := TX2) (N := 3) hx hb hts iX2 hown hK hP 4 rfl rfl 0 (Nat.le_of_ble_eq_true rfl) f106 (fun _ h9 => h9) rfl dX5_set_45 ?_
      refine lv_iload_n hx hb dX5_set_48 rfl (lv_at hl 2 rfl) ?_
      refine lv_iload_n hx hb dX5_set_49 rfl (lv_at hl 3 rfl) ?_
      obtain ⟨a7, ea7, na7, h⟩ := e_wr h
      refine xa_iast hx hb hK hP hD hS 5 rfl na7 ea7 dX5_set_50 (fun H locs hP hD hS => ?_)
      have hP : va_P D vwCl (wD_row_next_past cA ad block ties lines pmn row (a7, q6.2.1, q6.2.2) past) H := hP
      have hD : va_D A (wD_row_next_past cA ad block ties lines pmn row (a7, q6.2.1, q6.2.2) past) := hD
      refine lv_aload_n hx hb dX5_set_51 rfl (lv_at hl 1 rfl) ?_
      obtain ⟨q8, eq8, h⟩ := e_b h
      refine xv_i0 (As := []) (rest := []) (ci := 5) (b := ad 0) ⟨hx, hb, hml, hown, hts⟩ hl.1 (kX5_settle l D cA ad block ties lines pmn row (a7, q6.2.1, q6.2.2) past   _ eq8) (cwV 0 hts gX5_set_X5_settle rfl rfl rfl (by decide +kernel) ⟨Nat.le_of_ble_eq_true rfl, Nat.le_of_ble_eq_true rfl⟩) rfl hK hP hD hS hA 0 rfl rfl rfl rfl (Nat.le_of_ble_eq_true rfl) dX5_set_52 ⟨Nat.zero_le _, Nat.zero_le _⟩ (fun H locs hP hD hS hnq8 => ?_)
      have hP : va_P D vwCl (wD_row_next_past cA ad block ties lines q8.2.1 q8.2.2.1 (a7, q6.2.1, q6.2.2) q8.2.2.2) H := hP
      have hD : va_D A (wD_row_next_past cA ad block ties lines q8.2.1 q8.2.2.1 (a7, q6.2.1, q6.2.2) q8.2.2.2) := hD
      refine lv_pop hx hb dX5_set_55 rfl ?_
      refine lv_iload_n hx hb dX5_set_56 rfl (lv_at hl 0 rfl) ?_
      obtain rfl := e_s h
      exact hret hP hS rfl dX5_set_57
    · have h := e_f (not_not_intro c4) h
      refine lv_iconst (v := (-1)) hx hb dX5_set_18 (by decide) ?_
      obtain rfl := e_s h
      exact hret hP hS rfl dX5_set_19
set_option maxHeartbeats 4000000 in
set_option maxRecDepth 100000 in
theorem kX5_weigh (l : Launch) (D : va_G) (cA : Nat → ClassId) (ad : Nat → Nat) (block : Int32) (ties : Int32) (lines : Int32) (pmn : Int32) (row : RowT) (next : RowT) (past : PasT) (x1 : Int32) (x2 : Int32) (q : Int32 × Int32 × RowT × RowT × PasT) (h : mX5_weigh block pmn row next past x1 x2 = some q) : MI l yX5_weigh wsX5_weigh { frames := 5, cells := 0, slots := 0, locals := 119 } D cA .int [.ref (ad 0), .int x1, .int x2] (wD_row_next_past cA ad block ties lines pmn row next past) (wD_row_next_past cA ad block ties lines q.2.1 q.2.2.1 q.2.2.2.1 q.2.2.2.2) q.1 := by
  refine MI.of (cc := cX5_weigh) (maxL := 4) (by decide +kernel) rfl rfl rfl (Nat.le_of_ble_eq_true rfl) ?_
  intro p e s m args below meth c A ls Q hx hb hml hts hown hK hP hD hA hS hl hret
  have hl : lv_has ls 4 [(0, .ref (ad 0)), (1, .int x1), (2, .int x2)] := hl
  have f109 := hts (.fieldLink RX5 109 "ModeDesk$Row" "weights" "[I") (by decide +kernel)
  have f26 := hts (.fieldLink RX5 26 "ModeDesk" "row" "LModeDesk$Row;") (by decide +kernel)
  have f30 := hts (.fieldLink RX5 30 "ModeDesk" "next" "LModeDesk$Row;") (by decide +kernel)
  have iX2 : ∀ w ∈ wsX20, w ∈ wsX5_weigh := by decide +kernel
  have iX5 : ∀ w ∈ wsX50, w ∈ wsX5_weigh := by decide +kernel
  unfold mX5_weigh at h
  refine lv_aload_n hx hb dX5_weigh_0 rfl (lv_at hl 0 rfl) ?_
  refine va_get (D := D) (ci := 5) (v := .ref (ad 7)) (C := RX5) (T := TX5) (N := 12) hx hb hts iX5 hown hK hP 0 rfl rfl 2 (Nat.le_of_ble_eq_true rfl) f26 (fun _ h9 => h9) rfl dX5_weigh_1 ?_
  refine lv_iload_n hx hb dX5_weigh_4 rfl (lv_at hl 1 rfl) ?_
  obtain ⟨q1, eq1, h⟩ := e_b h
  refine xv_i (As := [.int x1]) (rest := []) (ci := 2) (b := ad 7) ⟨hx, hb, hml, hown, hts⟩ hl.1 (kX2_has l D cA (fun i => ad (7 + i)) row x1  _ eq1) (cwV 1 hts gX5_weigh_X2_has rfl rfl rfl (by decide +kernel) ⟨Nat.le_of_ble_eq_true rfl, Nat.le_of_ble_eq_true rfl⟩) rfl hK hP hD hS hA 1 rfl rfl rfl [1, 2, 3] rfl (by decide +kernel) rfl (Nat.le_of_ble_eq_true rfl) dX5_weigh_5 ⟨Nat.zero_le _, Nat.zero_le _⟩ (fun H locs hP hD hS hnq1 => ?_)
  have hP : va_P D vwCl (wD_row_next_past cA ad block ties lines pmn row next past) H := hP
  have hD : va_D A (wD_row_next_past cA ad block ties lines pmn row next past) := hD
  refine lv_if_eq (tgt := 22) hx hb dX5_weigh_8 (by decide) (fun c2 => ?_) (fun c2 => ?_)
  · have h := e_t c2 h
    refine lv_iconst (v := (-1)) hx hb dX5_weigh_22 (by decide) ?_
    obtain rfl := e_s h
    exact hret hP hS rfl dX5_weigh_23
  · have h := e_f c2 h
    refine lv_iload_n hx hb dX5_weigh_11 rfl (lv_at hl 2 rfl) ?_
    refine lv_iconst (v := 1) hx hb dX5_weigh_12 (by decide) ?_
    refine lv_icmp_lt (tgt := 22) hx hb dX5_weigh_13 (by decide) (fun c3 => ?_) (fun c3 => ?_)
    · have h := e_t c3 h
      refine lv_iconst (v := (-1)) hx hb dX5_weigh_22 (by decide) ?_
      obtain rfl := e_s h
      exact hret hP hS rfl dX5_weigh_23
    · have h := e_f c3 h
      refine lv_iload_n hx hb dX5_weigh_16 rfl (lv_at hl 2 rfl) ?_
      refine lv_bipush (v := 9) hx hb dX5_weigh_17 (by decide) ?_
      refine lv_icmp_le (tgt := 24) hx hb dX5_weigh_19 (by decide) (fun c4 => ?_) (fun c4 => ?_)
      · have h := e_t c4 h
        refine lv_aload_n hx hb dX5_weigh_24 rfl (lv_at hl 0 rfl) ?_
        refine va_get (D := D) (ci := 5) (v := .ref (ad 7)) (C := RX5) (T := TX5) (N := 12) hx hb hts iX5 hown hK hP 0 rfl rfl 2 (Nat.le_of_ble_eq_true rfl) f26 (fun _ h9 => h9) rfl dX5_weigh_25 ?_
        refine va_get (D := D) (ci := 2) (v := .ref (ad 9)) (C := RX2) (T := TX2) (N := 3) hx hb hts iX2 hown hK hP 1 rfl rfl 1 (Nat.le_of_ble_eq_true rfl) f109 (fun _ h9 => h9) rfl dX5_weigh_28 ?_
        refine lv_iload_n hx hb dX5_weigh_31 rfl (lv_at hl 1 rfl) ?_
        obtain ⟨v5, ev5, nv5, h⟩ := e_rd h
        refine xa_iald hx hb hK hP 3 rfl nv5 ev5 dX5_weigh_32 ?_
        refine lv_istore_n (lv' := [(3, .int v5), (0, .ref (ad 0)), (1, .int x1), (2, .int x2)]) hx hb dX5_weigh_33 rfl hl (by decide) rfl (fun ls hl => ?_)
        refine lv_aload_n hx hb dX5_weigh_34 rfl (lv_at hl 1 rfl) ?_
        refine va_get (D := D) (ci := 5) (v := .ref (ad 10)) (C := RX5) (T := TX5) (N := 12) hx hb hts iX5 hown hK hP 0 rfl rfl 3 (Nat.le_of_ble_eq_true rfl) f30 (fun _ h9 => h9) rfl dX5_weigh_35 ?_
        refine lv_aload_n hx hb dX5_weigh_38 rfl (lv_at hl 1 rfl) ?_
        refine va_get (D := D) (ci := 5) (v := .ref (ad 7)) (C := RX5) (T := TX5) (N := 12) hx hb hts iX5 hown hK hP 0 rfl rfl 2 (Nat.le_of_ble_eq_true rfl) f26 (fun _ h9 => h9) rfl dX5_weigh_39 ?_
        obtain ⟨q6, eq6, h⟩ := e_b h
        refine xv_v (As := [.ref (ad 7)]) (rest := []) (ci := 2) (b := ad 10) ⟨hx, hb, hml, hown, hts⟩ hl.1 (kX2_take l D cA (fun i => ad (10 + i)) (fun i => ad (7 + i)) next row   _ eq6) (cwV 1 hts gX5_weigh_X2_take rfl rfl rfl (by decide +kernel) ⟨Nat.le_of_ble_eq_true rfl, Nat.le_of_ble_eq_true rfl⟩) rfl hK hP hD hS hA 4 rfl rfl rfl [4, 5, 6, 1, 2, 3] rfl (by decide +kernel) rfl (Nat.le_of_ble_eq_true rfl) dX5_weigh_42 ⟨Nat.zero_le _, Nat.zero_le _⟩ (fun H locs hP hD hS => ?_)
        have hP : va_P D vwCl (wD_row_next_past cA ad block ties lines pmn row q6 past) H := hP
        have hD : va_D A (wD_row_next_past cA ad block ties lines pmn row q6 past) := hD
        refine lv_aload_n hx hb dX5_weigh_45 rfl (lv_at hl 1 rfl) ?_
        refine va_get (D := D) (ci := 5) (v := .ref (ad 10)) (C := RX5) (T := TX5) (N := 12) hx hb hts iX5 hown hK hP 0 rfl rfl 3 (Nat.le_of_ble_eq_true rfl) f30 (fun _ h9 => h9) rfl dX5_weigh_46 ?_
        refine va_get (D := D) (ci := 2) (v := .ref (ad 12)) (C := RX2) (T := TX2) (N := 3) hx hb hts iX2 hown hK hP 4 rfl rfl 1 (Nat.le_of_ble_eq_true rfl) f109 (fun _ h9 => h9) rfl dX5_weigh_49 ?_
        refine lv_iload_n hx hb dX5_weigh_52 rfl (lv_at hl 2 rfl) ?_
        refine lv_iload_n hx hb dX5_weigh_53 rfl (lv_at hl 3 rfl) ?_
        obtain ⟨a7, ea7, na7, h⟩ := e_wr h
        refine xa_iast hx hb hK hP hD hS 6 rfl na7 ea7 dX5_weigh_54 (fun H locs hP hD hS => ?_)
        have hP : va_P D vwCl (wD_row_next_past cA ad block ties lines pmn row (q6.1, a7, q6.2.2) past) H := hP
        have hD : va_D A (wD_row_next_past cA ad block ties lines pmn row (q6.1, a7, q6.2.2) past) := hD
        refine lv_aload_n hx hb dX5_weigh_55 rfl (lv_at hl 1 rfl) ?_
        obtain ⟨q8, eq8, h⟩ := e_b h
        refine xv_i0 (As := []) (rest := []) (ci := 5) (b := ad 0) ⟨hx, hb, hml, hown, hts⟩ hl.1 (kX5_settle l D cA ad block ties lines pmn row (q6.1, a7, q6.2.2) past   _ eq8) (cwV 0 hts gX5_weigh_X5_settle rfl rfl rfl (by decide +kernel) ⟨Nat.le_of_ble_eq_true rfl, Nat.le_of_ble_eq_true rfl⟩) rfl hK hP hD hS hA 0 rfl rfl rfl rfl (Nat.le_of_ble_eq_true rfl) dX5_weigh_56 ⟨Nat.zero_le _, Nat.zero_le _⟩ (fun H locs hP hD hS hnq8 => ?_)
        have hP : va_P D vwCl (wD_row_next_past cA ad block ties lines q8.2.1 q8.2.2.1 (q6.1, a7, q6.2.2) q8.2.2.2) H := hP
        have hD : va_D A (wD_row_next_past cA ad block ties lines q8.2.1 q8.2.2.1 (q6.1, a7, q6.2.2) q8.2.2.2) := hD
        refine lv_pop hx hb dX5_weigh_59 rfl ?_
        refine lv_iload_n hx hb dX5_weigh_60 rfl (lv_at hl 0 rfl) ?_
        obtain rfl := e_s h
        exact hret hP hS rfl dX5_weigh_61
      · have h := e_f c4 h
        refine lv_iconst (v := (-1)) hx hb dX5_weigh_22 (by decide) ?_
        obtain rfl := e_s h
        exact hret hP hS rfl dX5_weigh_23

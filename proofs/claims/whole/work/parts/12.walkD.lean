set_option maxHeartbeats 4000000 in
set_option maxRecDepth 100000 in
theorem kX5_isValue (l : Launch) (D : va_G) (cA : Nat → ClassId)   (x0 : Int32) (q : Int32) (h : mX5_isValue  x0 = some q) : MI l yX5_isValue wsX5_isValue { frames := 0, cells := 0, slots := 0, locals := 0 } D cA .boolean [.int x0] [] [] q := by
  refine MI.of (cc := cX5_isValue) (maxL := 1) (by decide +kernel) rfl rfl rfl (Nat.le_of_ble_eq_true rfl) ?_
  intro p e s m args below meth c A ls Q hx hb hml hts hown hK hP hD hA hS hl hret
  have hl : lv_has ls 1 [(0, .int x0)] := hl
  unfold mX5_isValue at h
  refine lv_iload_n hx hb dX5_isValue_0 rfl (lv_at hl 0 rfl) ?_
  refine lv_if_lt (tgt := 15) hx hb dX5_isValue_1 (by decide) (fun c1 => ?_) (fun c1 => ?_)
  · have h := e_t c1 h
    refine lv_iconst (v := 0) hx hb dX5_isValue_15 (by decide) ?_
    obtain rfl := e_s h
    exact hret hP hS (show narrow .boolean (.int 0) = .int 0 from rfl) dX5_isValue_16
  · have h := e_f c1 h
    refine lv_iload_n hx hb dX5_isValue_4 rfl (lv_at hl 0 rfl) ?_
    refine lv_sipush (v := 1000) hx hb dX5_isValue_5 (by decide) ?_
    refine lv_icmp_ge (tgt := 15) hx hb dX5_isValue_8 (by decide) (fun c2 => ?_) (fun c2 => ?_)
    · have h := e_t c2 h
      refine lv_iconst (v := 0) hx hb dX5_isValue_15 (by decide) ?_
      obtain rfl := e_s h
      exact hret hP hS (show narrow .boolean (.int 0) = .int 0 from rfl) dX5_isValue_16
    · have h := e_f c2 h
      refine lv_iconst (v := 1) hx hb dX5_isValue_11 (by decide) ?_
      refine lv_goto (tgt := 16) hx hb dX5_isValue_12 (by decide) ?_
      obtain rfl := e_s h
      exact hret hP hS (show narrow .boolean (.int 1) = .int 1 from rfl) dX5_isValue_16
set_option maxHeartbeats 4000000 in
set_option maxRecDepth 100000 in
theorem kX5_feed (l : Launch) (D : va_G) (cA : Nat → ClassId) (ad : Nat → Nat) (block : Int32) (ties : Int32) (lines : Int32) (pmn : Int32) (tape : TapT) (x1 : Int32) (x2 : Int32) (x3 : Int32) (x4 : Int32) (x5 : Int32) (q : Int32 × TapT) (h : mX5_feed tape x1 x2 x3 x4 x5 = some q) : MI l yX5_feed wsX5_feed { frames := 1, cells := 0, slots := 0, locals := 22 } D cA .int [.ref (ad 0), .int x1, .int x2, .int x3, .int x4, .int x5] (wD_tape cA ad block ties lines pmn tape) (wD_tape cA ad block ties lines pmn q.2) q.1 := by
  refine MI.of (cc := cX5_feed) (maxL := 6) (by decide +kernel) rfl rfl rfl (Nat.le_of_ble_eq_true rfl) ?_
  intro p e s m args below meth c A ls Q hx hb hml hts hown hK hP hD hA hS hl hret
  have hl : lv_has ls 6 [(0, .ref (ad 0)), (1, .int x1), (2, .int x2), (3, .int x3), (4, .int x4), (5, .int x5)] := hl
  have f10 := hts (.fieldLink RX5 10 "ModeDesk" "tape" "LModeDesk$Tape;") (by decide +kernel)
  have f67 := hts (.fieldLink RX5 67 "ModeDesk$Tape" "fed" "I") (by decide +kernel)
  have iX4 : ∀ w ∈ wsX40, w ∈ wsX5_feed := by decide +kernel
  have iX5 : ∀ w ∈ wsX50, w ∈ wsX5_feed := by decide +kernel
  unfold mX5_feed at h
  refine lv_aload_n hx hb dX5_feed_0 rfl (lv_at hl 0 rfl) ?_
  refine va_get (D := D) (ci := 5) (v := .ref (ad 1)) (C := RX5) (T := TX5) (N := 12) hx hb hts iX5 hown hK hP 0 rfl rfl 0 (Nat.le_of_ble_eq_true rfl) f10 (fun _ h9 => h9) rfl dX5_feed_1 ?_
  refine va_get (D := D) (ci := 4) (v := .int tape.2.1) (C := RX4) (T := TX4) (N := 7) hx hb hts iX4 hown hK hP 1 rfl rfl 1 (Nat.le_of_ble_eq_true rfl) f67 (fun _ h9 => h9) rfl dX5_feed_4 ?_
  refine lv_bipush (v := 20) hx hb dX5_feed_7 (by decide) ?_
  refine lv_iadd hx hb dX5_feed_9 ?_
  refine lv_sipush (v := 900) hx hb dX5_feed_10 (by decide) ?_
  refine lv_icmp_le (tgt := 18) hx hb dX5_feed_13 (by decide) (fun c1 => ?_) (fun c1 => ?_)
  · have h := e_t c1 h
    refine lv_aload_n hx hb dX5_feed_18 rfl (lv_at hl 0 rfl) ?_
    refine va_get (D := D) (ci := 5) (v := .ref (ad 1)) (C := RX5) (T := TX5) (N := 12) hx hb hts iX5 hown hK hP 0 rfl rfl 0 (Nat.le_of_ble_eq_true rfl) f10 (fun _ h9 => h9) rfl dX5_feed_19 ?_
    refine lv_iload_n hx hb dX5_feed_22 rfl (lv_at hl 1 rfl) ?_
    obtain ⟨q2, eq2, h⟩ := e_b h
    refine xv_v (As := [.int x1]) (rest := []) (ci := 4) (b := ad 1) ⟨hx, hb, hml, hown, hts⟩ hl.1 (kX4_put l D cA (fun i => ad (1 + i)) tape x1 _ eq2) (cwV 1 hts gX5_feed_X4_put rfl rfl rfl (by decide +kernel) ⟨Nat.le_of_ble_eq_true rfl, Nat.le_of_ble_eq_true rfl⟩) rfl hK hP hD hS hA 1 rfl rfl rfl [1, 2] rfl (by decide +kernel) rfl (Nat.le_of_ble_eq_true rfl) dX5_feed_23 ⟨Nat.zero_le _, Nat.zero_le _⟩ (fun H locs hP hD hS => ?_)
    have hP : va_P D vwCl (wD_tape cA ad block ties lines pmn q2) H := hP
    have hD : va_D A (wD_tape cA ad block ties lines pmn q2) := hD
    refine lv_aload_n hx hb dX5_feed_26 rfl (lv_at hl 0 rfl) ?_
    refine va_get (D := D) (ci := 5) (v := .ref (ad 1)) (C := RX5) (T := TX5) (N := 12) hx hb hts iX5 hown hK hP 0 rfl rfl 0 (Nat.le_of_ble_eq_true rfl) f10 (fun _ h9 => h9) rfl dX5_feed_27 ?_
    refine lv_iload_n hx hb dX5_feed_30 rfl (lv_at hl 2 rfl) ?_
    obtain ⟨q3, eq3, h⟩ := e_b h
    refine xv_v (As := [.int x2]) (rest := []) (ci := 4) (b := ad 1) ⟨hx, hb, hml, hown, hts⟩ hl.1 (kX4_put l D cA (fun i => ad (1 + i)) q2 x2 _ eq3) (cwV 1 hts gX5_feed_X4_put rfl rfl rfl (by decide +kernel) ⟨Nat.le_of_ble_eq_true rfl, Nat.le_of_ble_eq_true rfl⟩) rfl hK hP hD hS hA 1 rfl rfl rfl [1, 2] rfl (by decide +kernel) rfl (Nat.le_of_ble_eq_true rfl) dX5_feed_31 ⟨Nat.zero_le _, Nat.zero_le _⟩ (fun H locs hP hD hS => ?_)
    have hP : va_P D vwCl (wD_tape cA ad block ties lines pmn q3) H := hP
    have hD : va_D A (wD_tape cA ad block ties lines pmn q3) := hD
    refine lv_aload_n hx hb dX5_feed_34 rfl (lv_at hl 0 rfl) ?_
    refine va_get (D := D) (ci := 5) (v := .ref (ad 1)) (C := RX5) (T := TX5) (N := 12) hx hb hts iX5 hown hK hP 0 rfl rfl 0 (Nat.le_of_ble_eq_true rfl) f10 (fun _ h9 => h9) rfl dX5_feed_35 ?_
    refine lv_iload_n hx hb dX5_feed_38 rfl (lv_at hl 3 rfl) ?_
    obtain ⟨q4, eq4, h⟩ := e_b h
    refine xv_v (As := [.int x3]) (rest := []) (ci := 4) (b := ad 1) ⟨hx, hb, hml, hown, hts⟩ hl.1 (kX4_put l D cA (fun i => ad (1 + i)) q3 x3 _ eq4) (cwV 1 hts gX5_feed_X4_put rfl rfl rfl (by decide +kernel) ⟨Nat.le_of_ble_eq_true rfl, Nat.le_of_ble_eq_true rfl⟩) rfl hK hP hD hS hA 1 rfl rfl rfl [1, 2] rfl (by decide +kernel) rfl (Nat.le_of_ble_eq_true rfl) dX5_feed_39 ⟨Nat.zero_le _, Nat.zero_le _⟩ (fun H locs hP hD hS => ?_)
    have hP : va_P D vwCl (wD_tape cA ad block ties lines pmn q4) H := hP
    have hD : va_D A (wD_tape cA ad block ties lines pmn q4) := hD
    refine lv_aload_n hx hb dX5_feed_42 rfl (lv_at hl 0 rfl) ?_
    refine va_get (D := D) (ci := 5) (v := .ref (ad 1)) (C := RX5) (T := TX5) (N := 12) hx hb hts iX5 hown hK hP 0 rfl rfl 0 (Nat.le_of_ble_eq_true rfl) f10 (fun _ h9 => h9) rfl dX5_feed_43 ?_
    refine lv_iload hx hb dX5_feed_46 (lv_at hl 4 rfl) ?_
    obtain ⟨q5, eq5, h⟩ := e_b h
    refine xv_v (As := [.int x4]) (rest := []) (ci := 4) (b := ad 1) ⟨hx, hb, hml, hown, hts⟩ hl.1 (kX4_put l D cA (fun i => ad (1 + i)) q4 x4 _ eq5) (cwV 1 hts gX5_feed_X4_put rfl rfl rfl (by decide +kernel) ⟨Nat.le_of_ble_eq_true rfl, Nat.le_of_ble_eq_true rfl⟩) rfl hK hP hD hS hA 1 rfl rfl rfl [1, 2] rfl (by decide +kernel) rfl (Nat.le_of_ble_eq_true rfl) dX5_feed_48 ⟨Nat.zero_le _, Nat.zero_le _⟩ (fun H locs hP hD hS => ?_)
    have hP : va_P D vwCl (wD_tape cA ad block ties lines pmn q5) H := hP
    have hD : va_D A (wD_tape cA ad block ties lines pmn q5) := hD
    refine lv_aload_n hx hb dX5_feed_51 rfl (lv_at hl 0 rfl) ?_
    refine va_get (D := D) (ci := 5) (v := .ref (ad 1)) (C := RX5) (T := TX5) (N := 12) hx hb hts iX5 hown hK hP 0 rfl rfl 0 (Nat.le_of_ble_eq_true rfl) f10 (fun _ h9 => h9) rfl dX5_feed_52 ?_
    refine lv_iload hx hb dX5_feed_55 (lv_at hl 5 rfl) ?_
    obtain ⟨q6, eq6, h⟩ := e_b h
    refine xv_v (As := [.int x5]) (rest := []) (ci := 4) (b := ad 1) ⟨hx, hb, hml, hown, hts⟩ hl.1 (kX4_put l D cA (fun i => ad (1 + i)) q5 x5 _ eq6) (cwV 1 hts gX5_feed_X4_put rfl rfl rfl (by decide +kernel) ⟨Nat.le_of_ble_eq_true rfl, Nat.le_of_ble_eq_true rfl⟩) rfl hK hP hD hS hA 1 rfl rfl rfl [1, 2] rfl (by decide +kernel) rfl (Nat.le_of_ble_eq_true rfl) dX5_feed_57 ⟨Nat.zero_le _, Nat.zero_le _⟩ (fun H locs hP hD hS => ?_)
    have hP : va_P D vwCl (wD_tape cA ad block ties lines pmn q6) H := hP
    have hD : va_D A (wD_tape cA ad block ties lines pmn q6) := hD
    refine lv_aload_n hx hb dX5_feed_60 rfl (lv_at hl 0 rfl) ?_
    refine va_get (D := D) (ci := 5) (v := .ref (ad 1)) (C := RX5) (T := TX5) (N := 12) hx hb hts iX5 hown hK hP 0 rfl rfl 0 (Nat.le_of_ble_eq_true rfl) f10 (fun _ h9 => h9) rfl dX5_feed_61 ?_
    refine va_get (D := D) (ci := 4) (v := .int q6.2.1) (C := RX4) (T := TX4) (N := 7) hx hb hts iX4 hown hK hP 1 rfl rfl 1 (Nat.le_of_ble_eq_true rfl) f67 (fun _ h9 => h9) rfl dX5_feed_64 ?_
    obtain rfl := e_s h
    exact hret hP hS rfl dX5_feed_67
  · have h := e_f c1 h
    refine lv_iconst (v := (-1)) hx hb dX5_feed_16 (by decide) ?_
    obtain rfl := e_s h
    exact hret hP hS rfl dX5_feed_17
set_option maxHeartbeats 4000000 in
set_option maxRecDepth 100000 in
theorem kX5_fault (l : Launch) (D : va_G) (cA : Nat → ClassId) (ad : Nat → Nat) (block : Int32) (ties : Int32) (lines : Int32) (pmn : Int32) (rdr : RdrT) (rrow : RowT) (x1 : Int32) (q : Int32) (h : mX5_fault rdr x1 = some q) : MI l yX5_fault wsX5_fault { frames := 0, cells := 0, slots := 0, locals := 0 } D cA .int [.ref (ad 0), .int x1] (wD_rdr cA ad block ties lines pmn rdr rrow) (wD_rdr cA ad block ties lines pmn rdr rrow) q := by
  refine MI.of (cc := cX5_fault) (maxL := 2) (by decide +kernel) rfl rfl rfl (Nat.le_of_ble_eq_true rfl) ?_
  intro p e s m args below meth c A ls Q hx hb hml hts hown hK hP hD hA hS hl hret
  have hl : lv_has ls 2 [(0, .ref (ad 0)), (1, .int x1)] := hl
  have f19 := hts (.fieldLink RX5 19 "ModeDesk" "reader" "LModeDesk$Reader;") (by decide +kernel)
  have f89 := hts (.fieldLink RX5 89 "ModeDesk$Reader" "fault" "I") (by decide +kernel)
  have f92 := hts (.fieldLink RX5 92 "ModeDesk$Reader" "faultPlace" "I") (by decide +kernel)
  have iX1 : ∀ w ∈ wsX10, w ∈ wsX5_fault := by decide +kernel
  have iX5 : ∀ w ∈ wsX50, w ∈ wsX5_fault := by decide +kernel
  unfold mX5_fault at h
  refine lv_iload_n hx hb dX5_fault_0 rfl (lv_at hl 1 rfl) ?_
  refine lv_if_ne (tgt := 12) hx hb dX5_fault_1 (by decide) (fun c1 => ?_) (fun c1 => ?_)
  · have h := e_t c1 h
    refine lv_iload_n hx hb dX5_fault_12 rfl (lv_at hl 1 rfl) ?_
    refine lv_iconst (v := 1) hx hb dX5_fault_13 (by decide) ?_
    refine lv_icmp_ne (tgt := 27) hx hb dX5_fault_14 (by decide) (fun c2 => ?_) (fun c2 => ?_)
    · have h := e_t c2 h
      refine lv_iconst (v := (-1)) hx hb dX5_fault_27 (by decide) ?_
      obtain rfl := e_s h
      exact hret hP hS rfl dX5_fault_28
    · have h := e_f (not_not_intro c2) h
      refine lv_aload_n hx hb dX5_fault_17 rfl (lv_at hl 0 rfl) ?_
      refine va_get (D := D) (ci := 5) (v := .ref (ad 3)) (C := RX5) (T := TX5) (N := 12) hx hb hts iX5 hown hK hP 0 rfl rfl 1 (Nat.le_of_ble_eq_true rfl) f19 (fun _ h9 => h9) rfl dX5_fault_18 ?_
      refine va_get (D := D) (ci := 1) (v := .int rdr.2.2.2.2.1) (C := RX1) (T := TX1) (N := 8) hx hb hts iX1 hown hK hP 1 rfl rfl 5 (Nat.le_of_ble_eq_true rfl) f92 (fun _ h9 => h9) rfl dX5_fault_21 ?_
      refine lv_goto (tgt := 28) hx hb dX5_fault_24 (by decide) ?_
      obtain rfl := e_s h
      exact hret hP hS rfl dX5_fault_28
  · have h := e_f (not_not_intro c1) h
    refine lv_aload_n hx hb dX5_fault_4 rfl (lv_at hl 0 rfl) ?_
    refine va_get (D := D) (ci := 5) (v := .ref (ad 3)) (C := RX5) (T := TX5) (N := 12) hx hb hts iX5 hown hK hP 0 rfl rfl 1 (Nat.le_of_ble_eq_true rfl) f19 (fun _ h9 => h9) rfl dX5_fault_5 ?_
    refine va_get (D := D) (ci := 1) (v := .int rdr.2.2.2.1) (C := RX1) (T := TX1) (N := 8) hx hb hts iX1 hown hK hP 1 rfl rfl 4 (Nat.le_of_ble_eq_true rfl) f89 (fun _ h9 => h9) rfl dX5_fault_8 ?_
    obtain rfl := e_s h
    exact hret hP hS rfl dX5_fault_11
set_option maxHeartbeats 4000000 in
set_option maxRecDepth 100000 in
theorem kX5_blocksOf (l : Launch) (D : va_G) (cA : Nat → ClassId) (ad : Nat → Nat) (ao : Nat → Nat) (block : Int32) (ties : Int32) (lines : Int32) (pmn : Int32) (o : RowT)  (q : Int32) (h : mX5_blocksOf block o  = some q) : MI l yX5_blocksOf wsX5_blocksOf { frames := 0, cells := 0, slots := 0, locals := 0 } D cA .int [.ref (ad 0), .ref (ao 0)] (wD_0_X2 cA ad ao block ties lines pmn o) (wD_0_X2 cA ad ao block ties lines pmn o) q := by
  refine MI.of (cc := cX5_blocksOf) (maxL := 2) (by decide +kernel) rfl rfl rfl (Nat.le_of_ble_eq_true rfl) ?_
  intro p e s m args below meth c A ls Q hx hb hml hts hown hK hP hD hA hS hl hret
  have hl : lv_has ls 2 [(0, .ref (ad 0)), (1, .ref (ao 0))] := hl
  have f135 := hts (.fieldLink RX5 135 "ModeDesk$Row" "size" "I") (by decide +kernel)
  have f54 := hts (.fieldLink RX5 54 "ModeDesk" "block" "I") (by decide +kernel)
  have iX2 : ∀ w ∈ wsX20, w ∈ wsX5_blocksOf := by decide +kernel
  have iX5 : ∀ w ∈ wsX50, w ∈ wsX5_blocksOf := by decide +kernel
  unfold mX5_blocksOf at h
  refine lv_aload_n hx hb dX5_blocksOf_0 rfl (lv_at hl 1 rfl) ?_
  refine va_get (D := D) (ci := 2) (v := .int o.2.2) (C := RX2) (T := TX2) (N := 3) hx hb hts iX2 hown hK hP 1 rfl rfl 2 (Nat.le_of_ble_eq_true rfl) f135 (fun _ h9 => h9) rfl dX5_blocksOf_1 ?_
  refine lv_aload_n hx hb dX5_blocksOf_4 rfl (lv_at hl 0 rfl) ?_
  refine va_get (D := D) (ci := 5) (v := .int block) (C := RX5) (T := TX5) (N := 12) hx hb hts iX5 hown hK hP 0 rfl rfl 8 (Nat.le_of_ble_eq_true rfl) f54 (fun _ h9 => h9) rfl dX5_blocksOf_5 ?_
  refine lv_iadd hx hb dX5_blocksOf_8 ?_
  refine lv_iconst (v := 1) hx hb dX5_blocksOf_9 (by decide) ?_
  refine lv_isub hx hb dX5_blocksOf_10 ?_
  refine lv_aload_n hx hb dX5_blocksOf_11 rfl (lv_at hl 0 rfl) ?_
  refine va_get (D := D) (ci := 5) (v := .int block) (C := RX5) (T := TX5) (N := 12) hx hb hts iX5 hown hK hP 0 rfl rfl 8 (Nat.le_of_ble_eq_true rfl) f54 (fun _ h9 => h9) rfl dX5_blocksOf_12 ?_
  obtain ⟨v1, ev1, nv1, h⟩ := e_dv h
  refine xa_idiv hx hb dX5_blocksOf_15 nv1 ev1 ?_
  obtain rfl := e_s h
  exact hret hP hS rfl dX5_blocksOf_16
set_option maxHeartbeats 4000000 in
set_option maxRecDepth 100000 in
theorem kX5_blockEnd (l : Launch) (D : va_G) (cA : Nat → ClassId) (ad : Nat → Nat) (ao : Nat → Nat) (block : Int32) (ties : Int32) (lines : Int32) (pmn : Int32) (o : RowT) (x2 : Int32) (q : Int32) (h : mX5_blockEnd block o x2 = some q) : MI l yX5_blockEnd wsX5_blockEnd { frames := 1, cells := 0, slots := 0, locals := 24 } D cA .int [.ref (ad 0), .ref (ao 0), .int x2] (wD_0_X2 cA ad ao block ties lines pmn o) (wD_0_X2 cA ad ao block ties lines pmn o) q := by
  refine MI.of (cc := cX5_blockEnd) (maxL := 3) (by decide +kernel) rfl rfl rfl (Nat.le_of_ble_eq_true rfl) ?_
  intro p e s m args below meth c A ls Q hx hb hml hts hown hK hP hD hA hS hl hret
  have hl : lv_has ls 3 [(0, .ref (ad 0)), (1, .ref (ao 0)), (2, .int x2)] := hl
  have f135 := hts (.fieldLink RX5 135 "ModeDesk$Row" "size" "I") (by decide +kernel)
  have f54 := hts (.fieldLink RX5 54 "ModeDesk" "block" "I") (by decide +kernel)
  have iX2 : ∀ w ∈ wsX20, w ∈ wsX5_blockEnd := by decide +kernel
  have iX5 : ∀ w ∈ wsX50, w ∈ wsX5_blockEnd := by decide +kernel
  unfold mX5_blockEnd at h
  refine lv_aload_n hx hb dX5_blockEnd_0 rfl (lv_at hl 1 rfl) ?_
  refine va_get (D := D) (ci := 2) (v := .int o.2.2) (C := RX2) (T := TX2) (N := 3) hx hb hts iX2 hown hK hP 1 rfl rfl 2 (Nat.le_of_ble_eq_true rfl) f135 (fun _ h9 => h9) rfl dX5_blockEnd_1 ?_
  refine lv_iload_n hx hb dX5_blockEnd_4 rfl (lv_at hl 2 rfl) ?_
  refine lv_iconst (v := 1) hx hb dX5_blockEnd_5 (by decide) ?_
  refine lv_iadd hx hb dX5_blockEnd_6 ?_
  refine lv_aload_n hx hb dX5_blockEnd_7 rfl (lv_at hl 0 rfl) ?_
  refine va_get (D := D) (ci := 5) (v := .int block) (C := RX5) (T := TX5) (N := 12) hx hb hts iX5 hown hK hP 0 rfl rfl 8 (Nat.le_of_ble_eq_true rfl) f54 (fun _ h9 => h9) rfl dX5_blockEnd_8 ?_
  refine lv_imul hx hb dX5_blockEnd_11 ?_
  refine va_mmin hx hb (by rw [hml, hl.1]) hown (hts (.methodLink RX5 234 Lib.Math.min.name) (by decide +kernel)) (hts (.static Lib.Math.min.name) (by decide +kernel)) (hts (.initialized "java/lang/Math") (by decide +kernel)) (hts (.code Lib.Math.min.name Lib.Math.min.code 2 (some .int)) (by decide +kernel)) (Nat.le_of_ble_eq_true rfl) (Nat.le_of_ble_eq_true rfl) (Nat.zero_le _) (Nat.zero_le _) dX5_blockEnd_12 ?_
  obtain rfl := e_s h
  exact hret hP hS rfl dX5_blockEnd_15
set_option maxHeartbeats 4000000 in
set_option maxRecDepth 100000 in
theorem kX5_isTouched (l : Launch) (D : va_G) (cA : Nat → ClassId) (ad : Nat → Nat) (ao : Nat → Nat) (ap : Nat → Nat) (block : Int32) (ties : Int32) (lines : Int32) (pmn : Int32) (o : RowT) (b : RowT) (x3 : Int32) (q : Int32) (h : mX5_isTouched block o b x3 = some q) : MI l yX5_isTouched wsX5_isTouched { frames := 2, cells := 0, slots := 0, locals := 46 } D cA .boolean [.ref (ad 0), .ref (ao 0), .ref (ap 0), .int x3] (wD_0_X2_X2 cA ad ao ap block ties lines pmn o b) (wD_0_X2_X2 cA ad ao ap block ties lines pmn o b) q := by
  refine MI.of (cc := cX5_isTouched) (maxL := 6) (by decide +kernel) rfl rfl rfl (Nat.le_of_ble_eq_true rfl) ?_
  intro p e s m args below meth c A ls Q hx hb hml hts hown hK hP hD hA hS hl hret
  have hl : lv_has ls 6 [(0, .ref (ad 0)), (1, .ref (ao 0)), (2, .ref (ap 0)), (3, .int x3)] := hl
  have f54 := hts (.fieldLink RX5 54 "ModeDesk" "block" "I") (by decide +kernel)
  have iX5 : ∀ w ∈ wsX50, w ∈ wsX5_isTouched := by decide +kernel
  unfold mX5_isTouched at h
  refine lv_aload_n hx hb dX5_isTouched_0 rfl (lv_at hl 0 rfl) ?_
  refine lv_aload_n hx hb dX5_isTouched_1 rfl (lv_at hl 2 rfl) ?_
  refine lv_iload_n hx hb dX5_isTouched_2 rfl (lv_at hl 3 rfl) ?_
  obtain ⟨q1, eq1, h⟩ := e_b h
  refine xv_i (As := [.ref (ap 0), .int x3]) (rest := []) (ci := 5) (b := ad 0) ⟨hx, hb, hml, hown, hts⟩ hl.1 (kX5_blockEnd l D cA ad ap block ties lines pmn b x3 _ eq1) (cwV 2 hts gX5_isTouched_X5_blockEnd rfl rfl rfl (by decide +kernel) ⟨Nat.le_of_ble_eq_true rfl, Nat.le_of_ble_eq_true rfl⟩) rfl hK hP hD hS hA 0 rfl rfl rfl [0, 4, 5, 6] rfl (by decide +kernel) rfl (Nat.le_of_ble_eq_true rfl) dX5_isTouched_3 ⟨Nat.zero_le _, Nat.zero_le _⟩ (fun H locs hP hD hS hnq1 => ?_)
  have hP : va_P D vwCl (wD_0_X2_X2 cA ad ao ap block ties lines pmn o b) H := hP
  have hD : va_D A (wD_0_X2_X2 cA ad ao ap block ties lines pmn o b) := hD
  refine lv_istore (lv' := [(4, .int q1), (0, .ref (ad 0)), (1, .ref (ao 0)), (2, .ref (ap 0)), (3, .int x3)]) hx hb dX5_isTouched_6 hl (by decide) rfl (fun ls hl => ?_)
  refine lv_iload_n hx hb dX5_isTouched_8 rfl (lv_at hl 4 rfl) ?_
  refine lv_aload_n hx hb dX5_isTouched_9 rfl (lv_at hl 1 rfl) ?_
  refine va_get (D := D) (ci := 5) (v := .int block) (C := RX5) (T := TX5) (N := 12) hx hb hts iX5 hown hK hP 0 rfl rfl 8 (Nat.le_of_ble_eq_true rfl) f54 (fun _ h9 => h9) rfl dX5_isTouched_10 ?_
  refine lv_imul hx hb dX5_isTouched_13 ?_
  refine lv_istore (lv' := [(5, .int (x3 * block)), (4, .int q1), (0, .ref (ad 0)), (1, .ref (ao 0)), (2, .ref (ap 0)), (3, .int x3)]) hx hb dX5_isTouched_14 hl (by decide) rfl (fun ls hl => ?_)
  have hL16 : ∀ (n : Nat) (x3 : Int32) (x4 : Int32) (x5 : Int32) (ls : Array Slot) (H : Heap) (locs : List Loc), lv_has ls 6 [(0, .ref (ad 0)), (1, .ref (ao 0)), (2, .ref (ap 0)), (3, .int x3), (4, .int x4), (5, .int x5)] → va_P D vwCl (wD_0_X2_X2 cA ad ao ap block ties lines pmn o b) H → va_D A (wD_0_X2_X2 cA ad ao ap block ties lines pmn o b) → va_S A s.heap H locs → mX5_isTouched_L16 block o b x3 x4 n x5 = some q → W p l e (headSpec wsX5_isTouched { frames := 2, cells := 0, slots := 0, locals := 46 }).room s m args below meth c H locs 0 0 Q (F0 m 16 ls []) := by
    intro n
    induction n with
    | zero => intro x3 x4 x5 ls H locs hl hP hD hS h; exact e_n h
    | succ n ih16 =>
      intro x3 x4 x5 ls H locs hl hP hD hS h
      rw [mX5_isTouched_L16.eq_2] at h
      refine lv_iload hx hb dX5_isTouched_16 (lv_at hl 5 rfl) ?_
      refine lv_iload hx hb dX5_isTouched_18 (lv_at hl 4 rfl) ?_
      refine lv_icmp_ge (tgt := 41) hx hb dX5_isTouched_20 (by decide) (fun c3 => ?_) (fun c3 => ?_)
      · have h := e_t c3 h
        refine lv_iload hx hb dX5_isTouched_41 (lv_at hl 4 rfl) ?_
        refine lv_aload_n hx hb dX5_isTouched_43 rfl (lv_at hl 0 rfl) ?_
        refine lv_aload_n hx hb dX5_isTouched_44 rfl (lv_at hl 1 rfl) ?_
        refine lv_iload_n hx hb dX5_isTouched_45 rfl (lv_at hl 3 rfl) ?_
        obtain ⟨q4, eq4, h⟩ := e_b h
        refine xv_i (As := [.ref (ao 0), .int x3]) (rest := [.int x4]) (ci := 5) (b := ad 0) ⟨hx, hb, hml, hown, hts⟩ hl.1 (kX5_blockEnd l D cA ad ao block ties lines pmn o x3 _ eq4) (cwV 2 hts gX5_isTouched_X5_blockEnd rfl rfl rfl (by decide +kernel) ⟨Nat.le_of_ble_eq_true rfl, Nat.le_of_ble_eq_true rfl⟩) rfl hK hP hD hS hA 0 rfl rfl rfl [0, 1, 2, 3] rfl (by decide +kernel) rfl (Nat.le_of_ble_eq_true rfl) dX5_isTouched_46 ⟨Nat.zero_le _, Nat.zero_le _⟩ (fun H locs hP hD hS hnq4 => ?_)
        have hP : va_P D vwCl (wD_0_X2_X2 cA ad ao ap block ties lines pmn o b) H := hP
        have hD : va_D A (wD_0_X2_X2 cA ad ao ap block ties lines pmn o b) := hD
        refine lv_icmp_ge (tgt := 56) hx hb dX5_isTouched_49 (by decide) (fun c5 => ?_) (fun c5 => ?_)
        · have h := e_t c5 h
          refine lv_iconst (v := 0) hx hb dX5_isTouched_56 (by decide) ?_
          obtain rfl := e_s h
          exact hret hP hS (show narrow .boolean (.int 0) = .int 0 from rfl) dX5_isTouched_57
        · have h := e_f c5 h
          refine lv_iconst (v := 1) hx hb dX5_isTouched_52 (by decide) ?_
          refine lv_goto (tgt := 57) hx hb dX5_isTouched_53 (by decide) ?_
          obtain rfl := e_s h
          exact hret hP hS (show narrow .boolean (.int 1) = .int 1 from rfl) dX5_isTouched_57
      · have h := e_f c3 h
        refine lv_aload_n hx hb dX5_isTouched_23 rfl (lv_at hl 2 rfl) ?_
        refine lv_aload_n hx hb dX5_isTouched_24 rfl (lv_at hl 1 rfl) ?_
        refine lv_iload hx hb dX5_isTouched_25 (lv_at hl 5 rfl) ?_
        obtain ⟨q6, eq6, h⟩ := e_b h
        refine xv_i (As := [.ref (ao 0), .int x5]) (rest := []) (ci := 2) (b := ap 0) ⟨hx, hb, hml, hown, hts⟩ hl.1 (kX2_isOtherThan l D cA ap ao b o x5 _ eq6) (cwV 2 hts gX5_isTouched_X2_isOtherThan rfl rfl rfl (by decide +kernel) ⟨Nat.le_of_ble_eq_true rfl, Nat.le_of_ble_eq_true rfl⟩) rfl hK hP hD hS hA 4 rfl rfl rfl [4, 5, 6, 1, 2, 3] rfl (by decide +kernel) rfl (Nat.le_of_ble_eq_true rfl) dX5_isTouched_27 ⟨Nat.zero_le _, Nat.zero_le _⟩ (fun H locs hP hD hS hnq6 => ?_)
        have hP : va_P D vwCl (wD_0_X2_X2 cA ad ao ap block ties lines pmn o b) H := hP
        have hD : va_D A (wD_0_X2_X2 cA ad ao ap block ties lines pmn o b) := hD
        refine lv_if_eq (tgt := 35) hx hb dX5_isTouched_30 (by decide) (fun c7 => ?_) (fun c7 => ?_)
        · have h := e_t c7 h
          refine lv_iinc (v := (x5 + 1)) (lv' := [(5, .int (x5 + 1)), (0, .ref (ad 0)), (1, .ref (ao 0)), (2, .ref (ap 0)), (3, .int x3), (4, .int x4)]) hx hb dX5_isTouched_35 hl (k := 5) rfl rfl (by decide) rfl (fun ls hl => ?_)
          refine lv_goto (tgt := 16) hx hb dX5_isTouched_38 (by decide) ?_
          exact ih16 x3 x4 (x5 + 1) _ _ _ (lv_sub hl [1, 2, 3, 4, 5, 0] rfl) hP hD hS h
        · have h := e_f c7 h
          refine lv_iconst (v := 1) hx hb dX5_isTouched_33 (by decide) ?_
          obtain rfl := e_s h
          exact hret hP hS (show narrow .boolean (.int 1) = .int 1 from rfl) dX5_isTouched_34
  exact hL16 FU x3 q1 (x3 * block) _ _ _ (lv_sub hl [2, 3, 4, 5, 1, 0] rfl) hP hD hS h
set_option maxHeartbeats 4000000 in
set_option maxRecDepth 100000 in
theorem kX5_pairsTouched (l : Launch) (D : va_G) (cA : Nat → ClassId) (ad : Nat → Nat) (ao : Nat → Nat) (ap : Nat → Nat) (block : Int32) (ties : Int32) (lines : Int32) (pmn : Int32) (o : RowT) (b : RowT)  (q : Int32) (h : mX5_pairsTouched block o b  = some q) : MI l yX5_pairsTouched wsX5_pairsTouched { frames := 3, cells := 0, slots := 0, locals := 71 } D cA .int [.ref (ad 0), .ref (ao 0), .ref (ap 0)] (wD_0_X2_X2 cA ad ao ap block ties lines pmn o b) (wD_0_X2_X2 cA ad ao ap block ties lines pmn o b) q := by
  refine MI.of (cc := cX5_pairsTouched) (maxL := 7) (by decide +kernel) rfl rfl rfl (Nat.le_of_ble_eq_true rfl) ?_
  intro p e s m args below meth c A ls Q hx hb hml hts hown hK hP hD hA hS hl hret
  have hl : lv_has ls 7 [(0, .ref (ad 0)), (1, .ref (ao 0)), (2, .ref (ap 0))] := hl
  unfold mX5_pairsTouched at h
  refine lv_aload_n hx hb dX5_pairsTouched_0 rfl (lv_at hl 0 rfl) ?_
  refine lv_aload_n hx hb dX5_pairsTouched_1 rfl (lv_at hl 2 rfl) ?_
  obtain ⟨q1, eq1, h⟩ := e_b h
  refine xv_i (As := [.ref (ap 0)]) (rest := []) (ci := 5) (b := ad 0) ⟨hx, hb, hml, hown, hts⟩ hl.1 (kX5_blocksOf l D cA ad ap block ties lines pmn b  _ eq1) (cwV 1 hts gX5_pairsTouched_X5_blocksOf rfl rfl rfl (by decide +kernel) ⟨Nat.le_of_ble_eq_true rfl, Nat.le_of_ble_eq_true rfl⟩) rfl hK hP hD hS hA 0 rfl rfl rfl [0, 4, 5, 6] rfl (by decide +kernel) rfl (Nat.le_of_ble_eq_true rfl) dX5_pairsTouched_2 ⟨Nat.zero_le _, Nat.zero_le _⟩ (fun H locs hP hD hS hnq1 => ?_)
  have hP : va_P D vwCl (wD_0_X2_X2 cA ad ao ap block ties lines pmn o b) H := hP
  have hD : va_D A (wD_0_X2_X2 cA ad ao ap block ties lines pmn o b) := hD
  refine lv_istore_n (lv' := [(3, .int q1), (0, .ref (ad 0)), (1, .ref (ao 0)), (2, .ref (ap 0))]) hx hb dX5_pairsTouched_5 rfl hl (by decide) rfl (fun ls hl => ?_)
  refine lv_iconst (v := 0) hx hb dX5_pairsTouched_6 (by decide) ?_
  refine lv_istore (lv' := [(4, .int 0), (3, .int q1), (0, .ref (ad 0)), (1, .ref (ao 0)), (2, .ref (ap 0))]) hx hb dX5_pairsTouched_7 hl (by decide) rfl (fun ls hl => ?_)
  refine lv_iconst (v := 0) hx hb dX5_pairsTouched_9 (by decide) ?_
  refine lv_istore (lv' := [(5, .int 0), (4, .int 0), (3, .int q1), (0, .ref (ad 0)), (1, .ref (ao 0)), (2, .ref (ap 0))]) hx hb dX5_pairsTouched_10 hl (by decide) rfl (fun ls hl => ?_)
  refine lv_iconst (v := 0) hx hb dX5_pairsTouched_12 (by decide) ?_
  refine lv_istore (lv' := [(6, .int 0), (5, .int 0), (4, .int 0), (3, .int q1), (0, .ref (ad 0)), (1, .ref (ao 0)), (2, .ref (ap 0))]) hx hb dX5_pairsTouched_13 hl (by decide) rfl (fun ls hl => ?_)
  have hL15 : ∀ (n : Nat) (x3 : Int32) (x4 : Int32) (x5 : Int32) (x6 : Int32) (block : Int32) (ties : Int32) (lines : Int32) (pmn : Int32) (o : RowT) (b : RowT) (z2 : Int32) (ls : Array Slot) (H : Heap) (locs : List Loc), lv_has ls 7 [(0, .ref (ad 0)), (1, .ref (ao 0)), (2, .ref (ap 0)), (3, .int x3), (4, .int x4), (5, .int x5), (6, .int x6)] → va_P D vwCl (wD_0_X2_X2 cA ad ao ap block ties lines pmn o b) H → va_D A (wD_0_X2_X2 cA ad ao ap block ties lines pmn o b) → va_S A s.heap H locs → mX5_pairsTouched_L15 block o b x3 n x4 x5 x6 = some z2 → (∀ (ls : Array Slot) (H : Heap) (locs : List Loc), lv_has ls 7 [(3, .int x3), (4, .int z2)] → va_P D vwCl (wD_0_X2_X2 cA ad ao ap block ties lines pmn o b) H → va_D A (wD_0_X2_X2 cA ad ao ap block ties lines pmn o b) → va_S A s.heap H locs → W p l e (headSpec wsX5_pairsTouched { frames := 3, cells := 0, slots := 0, locals := 71 }).room s m args below meth c H locs 0 0 Q (F0 m 55 ls [])) → W p l e (headSpec wsX5_pairsTouched { frames := 3, cells := 0, slots := 0, locals := 71 }).room s m args below meth c H locs 0 0 Q (F0 m 15 ls []) := by
    intro n
    induction n with
    | zero => intro x3 x4 x5 x6 block ties lines pmn o b z2 ls H locs hl hP hD hS h hk15; exact e_n h
    | succ n ih15 =>
      intro x3 x4 x5 x6 block ties lines pmn o b z2 ls H locs hl hP hD hS h hk15
      rw [mX5_pairsTouched_L15.eq_2] at h
      refine lv_iload hx hb dX5_pairsTouched_15 (lv_at hl 6 rfl) ?_
      refine lv_iload_n hx hb dX5_pairsTouched_17 rfl (lv_at hl 3 rfl) ?_
      refine lv_icmp_ge (tgt := 55) hx hb dX5_pairsTouched_18 (by decide) (fun c3 => ?_) (fun c3 => ?_)
      · have h := e_t c3 h
        obtain rfl := e_s h
        exact hk15 _ _ _ (lv_sub hl [3, 4] rfl) hP hD hS
      · have h := e_f c3 h
        refine lv_aload_n hx hb dX5_pairsTouched_21 rfl (lv_at hl 0 rfl) ?_
        refine lv_aload_n hx hb dX5_pairsTouched_22 rfl (lv_at hl 1 rfl) ?_
        refine lv_aload_n hx hb dX5_pairsTouched_23 rfl (lv_at hl 2 rfl) ?_
        refine lv_iload hx hb dX5_pairsTouched_24 (lv_at hl 6 rfl) ?_
        obtain ⟨q4, eq4, h⟩ := e_b h
        refine xv_i (As := [.ref (ao 0), .ref (ap 0), .int x6]) (rest := []) (ci := 5) (b := ad 0) ⟨hx, hb, hml, hown, hts⟩ hl.1 (kX5_isTouched l D cA ad ao ap block ties lines pmn o b x6 _ eq4) (cwV 3 hts gX5_pairsTouched_X5_isTouched rfl rfl rfl (by decide +kernel) ⟨Nat.le_of_ble_eq_true rfl, Nat.le_of_ble_eq_true rfl⟩) rfl hK hP hD hS hA 0 rfl rfl rfl [0, 1, 2, 3, 4, 5, 6] rfl (by decide +kernel) rfl (Nat.le_of_ble_eq_true rfl) dX5_pairsTouched_26 ⟨Nat.zero_le _, Nat.zero_le _⟩ (fun H locs hP hD hS hnq4 => ?_)
        have hP : va_P D vwCl (wD_0_X2_X2 cA ad ao ap block ties lines pmn o b) H := hP
        have hD : va_D A (wD_0_X2_X2 cA ad ao ap block ties lines pmn o b) := hD
        refine lv_if_eq (tgt := 36) hx hb dX5_pairsTouched_29 (by decide) (fun c5 => ?_) (fun c5 => ?_)
        · have h := e_t c5 h
          refine lv_iload hx hb dX5_pairsTouched_36 (lv_at hl 5 rfl) ?_
          refine lv_iconst (v := 1) hx hb dX5_pairsTouched_38 (by decide) ?_
          refine lv_iadd hx hb dX5_pairsTouched_39 ?_
          refine lv_istore (lv' := [(5, .int (x5 + 1)), (0, .ref (ad 0)), (1, .ref (ao 0)), (2, .ref (ap 0)), (3, .int x3), (4, .int x4), (6, .int x6)]) hx hb dX5_pairsTouched_40 hl (by decide) rfl (fun ls hl => ?_)
          refine lv_iload hx hb dX5_pairsTouched_42 (lv_at hl 5 rfl) ?_
          refine lv_iload hx hb dX5_pairsTouched_44 (lv_at hl 0 rfl) ?_
          refine lv_iadd hx hb dX5_pairsTouched_46 ?_
          refine lv_istore (lv' := [(4, .int (x4 + (x5 + 1))), (5, .int (x5 + 1)), (0, .ref (ad 0)), (1, .ref (ao 0)), (2, .ref (ap 0)), (3, .int x3), (6, .int x6)]) hx hb dX5_pairsTouched_47 hl (by decide) rfl (fun ls hl => ?_)
          refine lv_iinc (v := (x6 + 1)) (lv' := [(6, .int (x6 + 1)), (4, .int (x4 + (x5 + 1))), (5, .int (x5 + 1)), (0, .ref (ad 0)), (1, .ref (ao 0)), (2, .ref (ap 0)), (3, .int x3)]) hx hb dX5_pairsTouched_49 hl (k := 6) rfl rfl (by decide) rfl (fun ls hl => ?_)
          refine lv_goto (tgt := 15) hx hb dX5_pairsTouched_52 (by decide) ?_
          exact ih15 x3 (x4 + (x5 + 1)) (x5 + 1) (x6 + 1) block ties lines pmn o b z2 _ _ _ (lv_sub hl [3, 4, 5, 6, 1, 2, 0] rfl) hP hD hS h hk15
        · have h := e_f c5 h
          refine lv_iconst (v := 0) hx hb dX5_pairsTouched_32 (by decide) ?_
          refine lv_goto (tgt := 40) hx hb dX5_pairsTouched_33 (by decide) ?_
          refine lv_istore (lv' := [(5, .int 0), (0, .ref (ad 0)), (1, .ref (ao 0)), (2, .ref (ap 0)), (3, .int x3), (4, .int x4), (6, .int x6)]) hx hb dX5_pairsTouched_40 hl (by decide) rfl (fun ls hl => ?_)
          refine lv_iload hx hb dX5_pairsTouched_42 (lv_at hl 5 rfl) ?_
          refine lv_iload hx hb dX5_pairsTouched_44 (lv_at hl 0 rfl) ?_
          refine lv_iadd hx hb dX5_pairsTouched_46 ?_
          refine lv_istore (lv' := [(4, .int (x4 + 0)), (5, .int 0), (0, .ref (ad 0)), (1, .ref (ao 0)), (2, .ref (ap 0)), (3, .int x3), (6, .int x6)]) hx hb dX5_pairsTouched_47 hl (by decide) rfl (fun ls hl => ?_)
          refine lv_iinc (v := (x6 + 1)) (lv' := [(6, .int (x6 + 1)), (4, .int (x4 + 0)), (5, .int 0), (0, .ref (ad 0)), (1, .ref (ao 0)), (2, .ref (ap 0)), (3, .int x3)]) hx hb dX5_pairsTouched_49 hl (k := 6) rfl rfl (by decide) rfl (fun ls hl => ?_)
          refine lv_goto (tgt := 15) hx hb dX5_pairsTouched_52 (by decide) ?_
          exact ih15 x3 (x4 + 0) 0 (x6 + 1) block ties lines pmn o b z2 _ _ _ (lv_sub hl [3, 4, 5, 6, 1, 2, 0] rfl) hP hD hS h hk15
  obtain ⟨z6, ez6, h⟩ := e_b h
  refine hL15 FU q1 0 0 0 block ties lines pmn o b z6 _ _ _ (lv_sub hl [4, 5, 6, 3, 2, 1, 0] rfl) hP hD hS ez6 (fun ls H locs hl hP hD hS => ?_)
  refine lv_iload_n hx hb dX5_pairsTouched_55 rfl (lv_at hl 0 rfl) ?_
  refine lv_iload_n hx hb dX5_pairsTouched_56 rfl (lv_at hl 0 rfl) ?_
  refine lv_iconst (v := 1) hx hb dX5_pairsTouched_57 (by decide) ?_
  refine lv_iadd hx hb dX5_pairsTouched_58 ?_
  refine lv_imul hx hb dX5_pairsTouched_59 ?_
  refine lv_iconst (v := 2) hx hb dX5_pairsTouched_60 (by decide) ?_
  obtain ⟨v7, ev7, nv7, h⟩ := e_dv h
  refine xa_idiv hx hb dX5_pairsTouched_61 nv7 ev7 ?_
  refine lv_iload hx hb dX5_pairsTouched_62 (lv_at hl 1 rfl) ?_
  refine lv_isub hx hb dX5_pairsTouched_64 ?_
  obtain rfl := e_s h
  exact hret hP hS rfl dX5_pairsTouched_65
set_option maxHeartbeats 4000000 in
set_option maxRecDepth 100000 in
theorem kX5_refreshed (l : Launch) (D : va_G) (cA : Nat → ClassId) (ad : Nat → Nat) (block : Int32) (ties : Int32) (lines : Int32) (pmn : Int32)  (q : Int32) (h : mX5_refreshed pmn  = some q) : MI l yX5_refreshed wsX5_refreshed { frames := 0, cells := 0, slots := 0, locals := 0 } D cA .int [.ref (ad 0)] (wD_0 cA ad block ties lines pmn) (wD_0 cA ad block ties lines pmn) q := by
  refine MI.of (cc := cX5_refreshed) (maxL := 1) (by decide +kernel) rfl rfl rfl (Nat.le_of_ble_eq_true rfl) ?_
  intro p e s m args below meth c A ls Q hx hb hml hts hown hK hP hD hA hS hl hret
  have hl : lv_has ls 1 [(0, .ref (ad 0))] := hl
  have f64 := hts (.fieldLink RX5 64 "ModeDesk" "pairsMadeNew" "I") (by decide +kernel)
  have iX5 : ∀ w ∈ wsX50, w ∈ wsX5_refreshed := by decide +kernel
  unfold mX5_refreshed at h
  refine lv_aload_n hx hb dX5_refreshed_0 rfl (lv_at hl 0 rfl) ?_
  refine va_get (D := D) (ci := 5) (v := .int pmn) (C := RX5) (T := TX5) (N := 12) hx hb hts iX5 hown hK hP 0 rfl rfl 11 (Nat.le_of_ble_eq_true rfl) f64 (fun _ h9 => h9) rfl dX5_refreshed_1 ?_
  obtain rfl := e_s h
  exact hret hP hS rfl dX5_refreshed_4
set_option maxHeartbeats 4000000 in
set_option maxRecDepth 100000 in
theorem kX5_isBelow (l : Launch) (D : va_G) (cA : Nat → ClassId)   (x0 : Int32) (x1 : Int32) (q : Int32) (h : mX5_isBelow  x0 x1 = some q) : MI l yX5_isBelow wsX5_isBelow { frames := 0, cells := 0, slots := 0, locals := 0 } D cA .boolean [.int x0, .int x1] [] [] q := by
  refine MI.of (cc := cX5_isBelow) (maxL := 2) (by decide +kernel) rfl rfl rfl (Nat.le_of_ble_eq_true rfl) ?_
  intro p e s m args below meth c A ls Q hx hb hml hts hown hK hP hD hA hS hl hret
  have hl : lv_has ls 2 [(0, .int x0), (1, .int x1)] := hl
  unfold mX5_isBelow at h
  refine lv_iload_n hx hb dX5_isBelow_0 rfl (lv_at hl 0 rfl) ?_
  refine lv_if_lt (tgt := 13) hx hb dX5_isBelow_1 (by decide) (fun c1 => ?_) (fun c1 => ?_)
  · have h := e_t c1 h
    refine lv_iconst (v := 0) hx hb dX5_isBelow_13 (by decide) ?_
    obtain rfl := e_s h
    exact hret hP hS (show narrow .boolean (.int 0) = .int 0 from rfl) dX5_isBelow_14
  · have h := e_f c1 h
    refine lv_iload_n hx hb dX5_isBelow_4 rfl (lv_at hl 0 rfl) ?_
    refine lv_iload_n hx hb dX5_isBelow_5 rfl (lv_at hl 1 rfl) ?_
    refine lv_icmp_ge (tgt := 13) hx hb dX5_isBelow_6 (by decide) (fun c2 => ?_) (fun c2 => ?_)
    · have h := e_t c2 h
      refine lv_iconst (v := 0) hx hb dX5_isBelow_13 (by decide) ?_
      obtain rfl := e_s h
      exact hret hP hS (show narrow .boolean (.int 0) = .int 0 from rfl) dX5_isBelow_14
    · have h := e_f c2 h
      refine lv_iconst (v := 1) hx hb dX5_isBelow_9 (by decide) ?_
      refine lv_goto (tgt := 14) hx hb dX5_isBelow_10 (by decide) ?_
      obtain rfl := e_s h
      exact hret hP hS (show narrow .boolean (.int 1) = .int 1 from rfl) dX5_isBelow_14
set_option maxHeartbeats 4000000 in
set_option maxRecDepth 100000 in
theorem kX5_tallySpan (l : Launch) (D : va_G) (cA : Nat → ClassId) (ad : Nat → Nat) (block : Int32) (ties : Int32) (lines : Int32) (pmn : Int32) (row : RowT) (tally : TalT) (x1 : Int32) (x2 : Int32) (q : TalT) (h : mX5_tallySpan ties row tally x1 x2 = some q) : MV l yX5_tallySpan wsX5_tallySpan { frames := 2, cells := 0, slots := 0, locals := 43 } D cA [.ref (ad 0), .int x1, .int x2] (wD_row_tally cA ad block ties lines pmn row tally) (wD_row_tally cA ad block ties lines pmn row q) := by
  refine MV.of (cc := cX5_tallySpan) (maxL := 4) (by decide) rfl rfl rfl (Nat.le_of_ble_eq_true rfl) ?_
  intro p e s m args below meth c A ls Q hx hb hml hts hown hK hP hD hA hS hl hret
  have hl : lv_has ls 4 [(0, .ref (ad 0)), (1, .int x1), (2, .int x2)] := hl
  have f106 := hts (.fieldLink RX5 106 "ModeDesk$Row" "values" "[I") (by decide +kernel)
  have f26 := hts (.fieldLink RX5 26 "ModeDesk" "row" "LModeDesk$Row;") (by decide +kernel)
  have f43 := hts (.fieldLink RX5 43 "ModeDesk" "tally" "LModeDesk$Tally;") (by decide +kernel)
  have f58 := hts (.fieldLink RX5 58 "ModeDesk" "ties" "I") (by decide +kernel)
  have iX2 : ∀ w ∈ wsX20, w ∈ wsX5_tallySpan := by decide +kernel
  have iX5 : ∀ w ∈ wsX50, w ∈ wsX5_tallySpan := by decide +kernel
  unfold mX5_tallySpan at h
  refine lv_aload_n hx hb dX5_tallySpan_0 rfl (lv_at hl 0 rfl) ?_
  refine va_get (D := D) (ci := 5) (v := .ref (ad 51)) (C := RX5) (T := TX5) (N := 12) hx hb hts iX5 hown hK hP 0 rfl rfl 5 (Nat.le_of_ble_eq_true rfl) f43 (fun _ h9 => h9) rfl dX5_tallySpan_1 ?_
  refine lv_aload_n hx hb dX5_tallySpan_4 rfl (lv_at hl 0 rfl) ?_
  refine va_get (D := D) (ci := 5) (v := .int ties) (C := RX5) (T := TX5) (N := 12) hx hb hts iX5 hown hK hP 0 rfl rfl 9 (Nat.le_of_ble_eq_true rfl) f58 (fun _ h9 => h9) rfl dX5_tallySpan_5 ?_
  obtain ⟨q1, eq1, h⟩ := e_b h
  refine xv_v (As := [.int ties]) (rest := []) (ci := 3) (b := ad 51) ⟨hx, hb, hml, hown, hts⟩ hl.1 (kX3_begin l D cA (fun i => ad (51 + i)) tally ties _ eq1) (cwV 1 hts gX5_tallySpan_X3_begin rfl rfl rfl (by decide +kernel) ⟨Nat.le_of_ble_eq_true rfl, Nat.le_of_ble_eq_true rfl⟩) rfl hK hP hD hS hA 4 rfl rfl rfl [4, 5, 6, 7, 8] rfl (by decide +kernel) rfl (Nat.le_of_ble_eq_true rfl) dX5_tallySpan_8 ⟨Nat.zero_le _, Nat.zero_le _⟩ (fun H locs hP hD hS => ?_)
  have hP : va_P D vwCl (wD_row_tally cA ad block ties lines pmn row q1) H := hP
  have hD : va_D A (wD_row_tally cA ad block ties lines pmn row q1) := hD
  refine lv_iload_n hx hb dX5_tallySpan_11 rfl (lv_at hl 1 rfl) ?_
  refine lv_istore_n (lv' := [(3, .int x1), (0, .ref (ad 0)), (1, .int x1), (2, .int x2)]) hx hb dX5_tallySpan_12 rfl hl (by decide) rfl (fun ls hl => ?_)
  have hL13 : ∀ (n : Nat) (x2 : Int32) (x3 : Int32) (block : Int32) (ties : Int32) (lines : Int32) (pmn : Int32) (row : RowT) (tally : TalT) (z2 : TalT) (ls : Array Slot) (H : Heap) (locs : List Loc), lv_has ls 4 [(0, .ref (ad 0)), (2, .int x2), (3, .int x3)] → va_P D vwCl (wD_row_tally cA ad block ties lines pmn row tally) H → va_D A (wD_row_tally cA ad block ties lines pmn row tally) → va_S A s.heap H locs → mX5_tallySpan_L13 row x2 n x3 tally = some z2 → (∀ (ls : Array Slot) (H : Heap) (locs : List Loc), lv_has ls 4 [] → va_P D vwCl (wD_row_tally cA ad block ties lines pmn row z2) H → va_D A (wD_row_tally cA ad block ties lines pmn row z2) → va_S A s.heap H locs → W p l e (headSpec wsX5_tallySpan { frames := 2, cells := 0, slots := 0, locals := 43 }).room s m args below meth c H locs 0 0 Q (F0 m 40 ls [])) → W p l e (headSpec wsX5_tallySpan { frames := 2, cells := 0, slots := 0, locals := 43 }).room s m args below meth c H locs 0 0 Q (F0 m 13 ls []) := by
    intro n
    induction n with
    | zero => intro x2 x3 block ties lines pmn row tally z2 ls H locs hl hP hD hS h hk13; exact e_n h
    | succ n ih13 =>
      intro x2 x3 block ties lines pmn row tally z2 ls H locs hl hP hD hS h hk13
      rw [mX5_tallySpan_L13.eq_2] at h
      refine lv_iload_n hx hb dX5_tallySpan_13 rfl (lv_at hl 2 rfl) ?_
      refine lv_iload_n hx hb dX5_tallySpan_14 rfl (lv_at hl 1 rfl) ?_
      refine lv_icmp_gt (tgt := 40) hx hb dX5_tallySpan_15 (by decide) (fun c3 => ?_) (fun c3 => ?_)
      · have h := e_t c3 h
        obtain rfl := e_s h
        exact hk13 _ _ _ (lv_sub hl [] rfl) hP hD hS
      · have h := e_f c3 h
        refine lv_aload_n hx hb dX5_tallySpan_18 rfl (lv_at hl 0 rfl) ?_
        refine va_get (D := D) (ci := 5) (v := .ref (ad 51)) (C := RX5) (T := TX5) (N := 12) hx hb hts iX5 hown hK hP 0 rfl rfl 5 (Nat.le_of_ble_eq_true rfl) f43 (fun _ h9 => h9) rfl dX5_tallySpan_19 ?_
        refine lv_aload_n hx hb dX5_tallySpan_22 rfl (lv_at hl 0 rfl) ?_
        refine va_get (D := D) (ci := 5) (v := .ref (ad 7)) (C := RX5) (T := TX5) (N := 12) hx hb hts iX5 hown hK hP 0 rfl rfl 2 (Nat.le_of_ble_eq_true rfl) f26 (fun _ h9 => h9) rfl dX5_tallySpan_23 ?_
        refine va_get (D := D) (ci := 2) (v := .ref (ad 8)) (C := RX2) (T := TX2) (N := 3) hx hb hts iX2 hown hK hP 1 rfl rfl 0 (Nat.le_of_ble_eq_true rfl) f106 (fun _ h9 => h9) rfl dX5_tallySpan_26 ?_
        refine lv_iload_n hx hb dX5_tallySpan_29 rfl (lv_at hl 2 rfl) ?_
        obtain ⟨v4, ev4, nv4, h⟩ := e_rd h
        refine xa_iald hx hb hK hP 2 rfl nv4 ev4 dX5_tallySpan_30 ?_
        obtain ⟨q5, eq5, h⟩ := e_b h
        refine xv_v (As := [.int v4]) (rest := []) (ci := 3) (b := ad 51) ⟨hx, hb, hml, hown, hts⟩ hl.1 (kX3_push l D cA (fun i => ad (51 + i)) tally v4 _ eq5) (cwV 1 hts gX5_tallySpan_X3_push rfl rfl rfl (by decide +kernel) ⟨Nat.le_of_ble_eq_true rfl, Nat.le_of_ble_eq_true rfl⟩) rfl hK hP hD hS hA 4 rfl rfl rfl [4, 5, 6, 7, 8] rfl (by decide +kernel) rfl (Nat.le_of_ble_eq_true rfl) dX5_tallySpan_31 ⟨Nat.zero_le _, Nat.zero_le _⟩ (fun H locs hP hD hS => ?_)
        have hP : va_P D vwCl (wD_row_tally cA ad block ties lines pmn row q5) H := hP
        have hD : va_D A (wD_row_tally cA ad block ties lines pmn row q5) := hD
        refine lv_iinc (v := (x3 + 1)) (lv' := [(3, .int (x3 + 1)), (0, .ref (ad 0)), (2, .int x2)]) hx hb dX5_tallySpan_34 hl (k := 2) rfl rfl (by decide) rfl (fun ls hl => ?_)
        refine lv_goto (tgt := 13) hx hb dX5_tallySpan_37 (by decide) ?_
        exact ih13 x2 (x3 + 1) block ties lines pmn row q5 z2 _ _ _ (lv_sub hl [1, 2, 0] rfl) hP hD hS h hk13
  obtain ⟨z6, ez6, h⟩ := e_b h
  refine hL13 FU x2 x1 block ties lines pmn row q1 z6 _ _ _ (lv_sub hl [1, 3, 0] rfl) hP hD hS ez6 (fun ls H locs hl hP hD hS => ?_)
  obtain rfl := e_s h
  exact hret hP hS dX5_tallySpan_40
set_option maxHeartbeats 4000000 in
set_option maxRecDepth 100000 in
theorem kX5_mode (l : Launch) (D : va_G) (cA : Nat → ClassId) (ad : Nat → Nat) (block : Int32) (ties : Int32) (lines : Int32) (pmn : Int32) (row : RowT) (tally : TalT) (x1 : Int32) (x2 : Int32) (x3 : Int32) (q : Int32 × TalT) (h : mX5_mode ties row tally x1 x2 x3 = some q) : MI l yX5_mode wsX5_mode { frames := 3, cells := 0, slots := 0, locals := 66 } D cA .int [.ref (ad 0), .int x1, .int x2, .int x3] (wD_row_tally cA ad block ties lines pmn row tally) (wD_row_tally cA ad block ties lines pmn row q.2) q.1 := by
  refine MI.of (cc := cX5_mode) (maxL := 4) (by decide +kernel) rfl rfl rfl (Nat.le_of_ble_eq_true rfl) ?_
  intro p e s m args below meth c A ls Q hx hb hml hts hown hK hP hD hA hS hl hret
  have hl : lv_has ls 4 [(0, .ref (ad 0)), (1, .int x1), (2, .int x2), (3, .int x3)] := hl
  have f176 := hts (.fieldLink RX5 176 "ModeDesk$Tally" "best" "I") (by decide +kernel)
  have f26 := hts (.fieldLink RX5 26 "ModeDesk" "row" "LModeDesk$Row;") (by decide +kernel)
  have f43 := hts (.fieldLink RX5 43 "ModeDesk" "tally" "LModeDesk$Tally;") (by decide +kernel)
  have iX3 : ∀ w ∈ wsX30, w ∈ wsX5_mode := by decide +kernel
  have iX5 : ∀ w ∈ wsX50, w ∈ wsX5_mode := by decide +kernel
  unfold mX5_mode at h
  refine lv_aload_n hx hb dX5_mode_0 rfl (lv_at hl 0 rfl) ?_
  refine va_get (D := D) (ci := 5) (v := .ref (ad 7)) (C := RX5) (T := TX5) (N := 12) hx hb hts iX5 hown hK hP 0 rfl rfl 2 (Nat.le_of_ble_eq_true rfl) f26 (fun _ h9 => h9) rfl dX5_mode_1 ?_
  refine lv_iload_n hx hb dX5_mode_4 rfl (lv_at hl 1 rfl) ?_
  refine lv_iload_n hx hb dX5_mode_5 rfl (lv_at hl 2 rfl) ?_
  obtain ⟨q1, eq1, h⟩ := e_b h
  refine xv_i (As := [.int x1, .int x2]) (rest := []) (ci := 2) (b := ad 7) ⟨hx, hb, hml, hown, hts⟩ hl.1 (kX2_hasSpan l D cA (fun i => ad (7 + i)) row x1 x2 _ eq1) (cwV 2 hts gX5_mode_X2_hasSpan rfl rfl rfl (by decide +kernel) ⟨Nat.le_of_ble_eq_true rfl, Nat.le_of_ble_eq_true rfl⟩) rfl hK hP hD hS hA 1 rfl rfl rfl [1, 2, 3] rfl (by decide +kernel) rfl (Nat.le_of_ble_eq_true rfl) dX5_mode_6 ⟨Nat.zero_le _, Nat.zero_le _⟩ (fun H locs hP hD hS hnq1 => ?_)
  have hP : va_P D vwCl (wD_row_tally cA ad block ties lines pmn row tally) H := hP
  have hD : va_D A (wD_row_tally cA ad block ties lines pmn row tally) := hD
  refine lv_if_eq (tgt := 20) hx hb dX5_mode_9 (by decide) (fun c2 => ?_) (fun c2 => ?_)
  · have h := e_t c2 h
    refine lv_iconst (v := (-1)) hx hb dX5_mode_20 (by decide) ?_
    obtain rfl := e_s h
    exact hret hP hS rfl dX5_mode_21
  · have h := e_f c2 h
    refine lv_iload_n hx hb dX5_mode_12 rfl (lv_at hl 3 rfl) ?_
    refine lv_iconst (v := 4) hx hb dX5_mode_13 (by decide) ?_
    obtain ⟨q3, eq3, h⟩ := e_b h
    refine xs_i (As := [.int x3, .int 4]) (rest := []) ⟨hx, hb, hml, hown, hts⟩ hl.1 (kX5_isBelow l D cA   x3 4 _ eq3) (va_cwS 2 hts gX5_mode_X5_isBelow rfl rfl rfl (by decide +kernel) ⟨Nat.le_of_ble_eq_true rfl, Nat.le_of_ble_eq_true rfl⟩) rfl hK hP hD hS hA [] rfl (by decide +kernel) rfl (Nat.le_of_ble_eq_true rfl) dX5_mode_14 ⟨Nat.zero_le _, Nat.zero_le _⟩ (fun H locs hP hD hS hnq3 => ?_)
    have hP : va_P D vwCl (wD_row_tally cA ad block ties lines pmn row tally) H := hP
    have hD : va_D A (wD_row_tally cA ad block ties lines pmn row tally) := hD
    refine lv_if_ne (tgt := 22) hx hb dX5_mode_17 (by decide) (fun c4 => ?_) (fun c4 => ?_)
    · have h := e_t c4 h
      refine lv_aload_n hx hb dX5_mode_22 rfl (lv_at hl 0 rfl) ?_
      refine lv_iload_n hx hb dX5_mode_23 rfl (lv_at hl 1 rfl) ?_
      refine lv_iload_n hx hb dX5_mode_24 rfl (lv_at hl 2 rfl) ?_
      obtain ⟨q5, eq5, h⟩ := e_b h
      refine xv_v (As := [.int x1, .int x2]) (rest := []) (ci := 5) (b := ad 0) ⟨hx, hb, hml, hown, hts⟩ hl.1 (kX5_tallySpan l D cA ad block ties lines pmn row tally x1 x2 _ eq5) (cwV 2 hts gX5_mode_X5_tallySpan rfl rfl rfl (by decide +kernel) ⟨Nat.le_of_ble_eq_true rfl, Nat.le_of_ble_eq_true rfl⟩) rfl hK hP hD hS hA 0 rfl rfl rfl [0, 1, 2, 3, 4, 5, 6, 7, 8] rfl (by decide +kernel) rfl (Nat.le_of_ble_eq_true rfl) dX5_mode_25 ⟨Nat.zero_le _, Nat.zero_le _⟩ (fun H locs hP hD hS => ?_)
      have hP : va_P D vwCl (wD_row_tally cA ad block ties lines pmn row q5) H := hP
      have hD : va_D A (wD_row_tally cA ad block ties lines pmn row q5) := hD
      refine lv_aload_n hx hb dX5_mode_28 rfl (lv_at hl 0 rfl) ?_
      refine va_get (D := D) (ci := 5) (v := .ref (ad 51)) (C := RX5) (T := TX5) (N := 12) hx hb hts iX5 hown hK hP 0 rfl rfl 5 (Nat.le_of_ble_eq_true rfl) f43 (fun _ h9 => h9) rfl dX5_mode_29 ?_
      refine lv_aload_n hx hb dX5_mode_32 rfl (lv_at hl 0 rfl) ?_
      refine va_get (D := D) (ci := 5) (v := .ref (ad 51)) (C := RX5) (T := TX5) (N := 12) hx hb hts iX5 hown hK hP 0 rfl rfl 5 (Nat.le_of_ble_eq_true rfl) f43 (fun _ h9 => h9) rfl dX5_mode_33 ?_
      refine va_get (D := D) (ci := 3) (v := .int q5.2.2.2.2.2.2.1) (C := RX3) (T := TX3) (N := 8) hx hb hts iX3 hown hK hP 4 rfl rfl 6 (Nat.le_of_ble_eq_true rfl) f176 (fun _ h9 => h9) rfl dX5_mode_36 ?_
      refine lv_iload_n hx hb dX5_mode_39 rfl (lv_at hl 3 rfl) ?_
      refine lv_iload_n hx hb dX5_mode_40 rfl (lv_at hl 1 rfl) ?_
      obtain ⟨q6, eq6, h⟩ := e_b h
      refine xv_i (As := [.int q5.2.2.2.2.2.2.1, .int x3, .int x1]) (rest := []) (ci := 3) (b := ad 51) ⟨hx, hb, hml, hown, hts⟩ hl.1 (kX3_told l D cA (fun i => ad (51 + i)) q5 q5.2.2.2.2.2.2.1 x3 x1 _ eq6) (cwV 3 hts gX5_mode_X3_told rfl rfl rfl (by decide +kernel) ⟨Nat.le_of_ble_eq_true rfl, Nat.le_of_ble_eq_true rfl⟩) rfl hK hP hD hS hA 4 rfl rfl rfl [4, 5, 6, 7, 8] rfl (by decide +kernel) rfl (Nat.le_of_ble_eq_true rfl) dX5_mode_41 ⟨Nat.zero_le _, Nat.zero_le _⟩ (fun H locs hP hD hS hnq6 => ?_)
      have hP : va_P D vwCl (wD_row_tally cA ad block ties lines pmn row q5) H := hP
      have hD : va_D A (wD_row_tally cA ad block ties lines pmn row q5) := hD
      obtain rfl := e_s h
      exact hret hP hS rfl dX5_mode_44
    · have h := e_f (not_not_intro c4) h
      refine lv_iconst (v := (-1)) hx hb dX5_mode_20 (by decide) ?_
      obtain rfl := e_s h
      exact hret hP hS rfl dX5_mode_21
set_option maxHeartbeats 4000000 in
set_option maxRecDepth 100000 in
theorem kX5_ranked (l : Launch) (D : va_G) (cA : Nat → ClassId) (ad : Nat → Nat) (block : Int32) (ties : Int32) (lines : Int32) (pmn : Int32) (row : RowT) (tally : TalT) (x1 : Int32) (x2 : Int32) (x3 : Int32) (x4 : Int32) (q : Int32 × TalT) (h : mX5_ranked ties row tally x1 x2 x3 x4 = some q) : MI l yX5_ranked wsX5_ranked { frames := 3, cells := 0, slots := 0, locals := 66 } D cA .int [.ref (ad 0), .int x1, .int x2, .int x3, .int x4] (wD_row_tally cA ad block ties lines pmn row tally) (wD_row_tally cA ad block ties lines pmn row q.2) q.1 := by
  refine MI.of (cc := cX5_ranked) (maxL := 5) (by decide +kernel) rfl rfl rfl (Nat.le_of_ble_eq_true rfl) ?_
  intro p e s m args below meth c A ls Q hx hb hml hts hown hK hP hD hA hS hl hret
  have hl : lv_has ls 5 [(0, .ref (ad 0)), (1, .int x1), (2, .int x2), (3, .int x3), (4, .int x4)] := hl
  have f182 := hts (.fieldLink RX5 182 "ModeDesk$Tally" "kinds" "I") (by decide +kernel)
  have f187 := hts (.fieldLink RX5 187 "ModeDesk$Tally" "kind" "[I") (by decide +kernel)
  have f26 := hts (.fieldLink RX5 26 "ModeDesk" "row" "LModeDesk$Row;") (by decide +kernel)
  have f43 := hts (.fieldLink RX5 43 "ModeDesk" "tally" "LModeDesk$Tally;") (by decide +kernel)
  have iX3 : ∀ w ∈ wsX30, w ∈ wsX5_ranked := by decide +kernel
  have iX5 : ∀ w ∈ wsX50, w ∈ wsX5_ranked := by decide +kernel
  unfold mX5_ranked at h
  refine lv_aload_n hx hb dX5_ranked_0 rfl (lv_at hl 0 rfl) ?_
  refine va_get (D := D) (ci := 5) (v := .ref (ad 7)) (C := RX5) (T := TX5) (N := 12) hx hb hts iX5 hown hK hP 0 rfl rfl 2 (Nat.le_of_ble_eq_true rfl) f26 (fun _ h9 => h9) rfl dX5_ranked_1 ?_
  refine lv_iload_n hx hb dX5_ranked_4 rfl (lv_at hl 1 rfl) ?_
  refine lv_iload_n hx hb dX5_ranked_5 rfl (lv_at hl 2 rfl) ?_
  obtain ⟨q1, eq1, h⟩ := e_b h
  refine xv_i (As := [.int x1, .int x2]) (rest := []) (ci := 2) (b := ad 7) ⟨hx, hb, hml, hown, hts⟩ hl.1 (kX2_hasSpan l D cA (fun i => ad (7 + i)) row x1 x2 _ eq1) (cwV 2 hts gX5_ranked_X2_hasSpan rfl rfl rfl (by decide +kernel) ⟨Nat.le_of_ble_eq_true rfl, Nat.le_of_ble_eq_true rfl⟩) rfl hK hP hD hS hA 1 rfl rfl rfl [1, 2, 3] rfl (by decide +kernel) rfl (Nat.le_of_ble_eq_true rfl) dX5_ranked_6 ⟨Nat.zero_le _, Nat.zero_le _⟩ (fun H locs hP hD hS hnq1 => ?_)
  have hP : va_P D vwCl (wD_row_tally cA ad block ties lines pmn row tally) H := hP
  have hD : va_D A (wD_row_tally cA ad block ties lines pmn row tally) := hD
  refine lv_if_eq (tgt := 25) hx hb dX5_ranked_9 (by decide) (fun c2 => ?_) (fun c2 => ?_)
  · have h := e_t c2 h
    refine lv_iconst (v := (-1)) hx hb dX5_ranked_25 (by decide) ?_
    obtain rfl := e_s h
    exact hret hP hS rfl dX5_ranked_26
  · have h := e_f c2 h
    refine lv_iload_n hx hb dX5_ranked_12 rfl (lv_at hl 3 rfl) ?_
    refine lv_if_lt (tgt := 25) hx hb dX5_ranked_13 (by decide) (fun c3 => ?_) (fun c3 => ?_)
    · have h := e_t c3 h
      refine lv_iconst (v := (-1)) hx hb dX5_ranked_25 (by decide) ?_
      obtain rfl := e_s h
      exact hret hP hS rfl dX5_ranked_26
    · have h := e_f c3 h
      refine lv_iload hx hb dX5_ranked_16 (lv_at hl 4 rfl) ?_
      refine lv_iconst (v := 4) hx hb dX5_ranked_18 (by decide) ?_
      obtain ⟨q4, eq4, h⟩ := e_b h
      refine xs_i (As := [.int x4, .int 4]) (rest := []) ⟨hx, hb, hml, hown, hts⟩ hl.1 (kX5_isBelow l D cA   x4 4 _ eq4) (va_cwS 2 hts gX5_ranked_X5_isBelow rfl rfl rfl (by decide +kernel) ⟨Nat.le_of_ble_eq_true rfl, Nat.le_of_ble_eq_true rfl⟩) rfl hK hP hD hS hA [] rfl (by decide +kernel) rfl (Nat.le_of_ble_eq_true rfl) dX5_ranked_19 ⟨Nat.zero_le _, Nat.zero_le _⟩ (fun H locs hP hD hS hnq4 => ?_)
      have hP : va_P D vwCl (wD_row_tally cA ad block ties lines pmn row tally) H := hP
      have hD : va_D A (wD_row_tally cA ad block ties lines pmn row tally) := hD
      refine lv_if_ne (tgt := 27) hx hb dX5_ranked_22 (by decide) (fun c5 => ?_) (fun c5 => ?_)
      · have h := e_t c5 h
        refine lv_aload_n hx hb dX5_ranked_27 rfl (lv_at hl 0 rfl) ?_
        refine lv_iload_n hx hb dX5_ranked_28 rfl (lv_at hl 1 rfl) ?_
        refine lv_iload_n hx hb dX5_ranked_29 rfl (lv_at hl 2 rfl) ?_
        obtain ⟨q6, eq6, h⟩ := e_b h
        refine xv_v (As := [.int x1, .int x2]) (rest := []) (ci := 5) (b := ad 0) ⟨hx, hb, hml, hown, hts⟩ hl.1 (kX5_tallySpan l D cA ad block ties lines pmn row tally x1 x2 _ eq6) (cwV 2 hts gX5_ranked_X5_tallySpan rfl rfl rfl (by decide +kernel) ⟨Nat.le_of_ble_eq_true rfl, Nat.le_of_ble_eq_true rfl⟩) rfl hK hP hD hS hA 0 rfl rfl rfl [0, 1, 2, 3, 4, 5, 6, 7, 8] rfl (by decide +kernel) rfl (Nat.le_of_ble_eq_true rfl) dX5_ranked_30 ⟨Nat.zero_le _, Nat.zero_le _⟩ (fun H locs hP hD hS => ?_)
        have hP : va_P D vwCl (wD_row_tally cA ad block ties lines pmn row q6) H := hP
        have hD : va_D A (wD_row_tally cA ad block ties lines pmn row q6) := hD
        refine lv_iload_n hx hb dX5_ranked_33 rfl (lv_at hl 3 rfl) ?_
        refine lv_aload_n hx hb dX5_ranked_34 rfl (lv_at hl 0 rfl) ?_
        refine va_get (D := D) (ci := 5) (v := .ref (ad 51)) (C := RX5) (T := TX5) (N := 12) hx hb hts iX5 hown hK hP 0 rfl rfl 5 (Nat.le_of_ble_eq_true rfl) f43 (fun _ h9 => h9) rfl dX5_ranked_35 ?_
        refine va_get (D := D) (ci := 3) (v := .int q6.2.2.2.2.1) (C := RX3) (T := TX3) (N := 8) hx hb hts iX3 hown hK hP 4 rfl rfl 4 (Nat.le_of_ble_eq_true rfl) f182 (fun _ h9 => h9) rfl dX5_ranked_38 ?_
        refine lv_icmp_lt (tgt := 47) hx hb dX5_ranked_41 (by decide) (fun c7 => ?_) (fun c7 => ?_)
        · have h := e_t c7 h
          refine lv_aload_n hx hb dX5_ranked_47 rfl (lv_at hl 0 rfl) ?_
          refine va_get (D := D) (ci := 5) (v := .ref (ad 51)) (C := RX5) (T := TX5) (N := 12) hx hb hts iX5 hown hK hP 0 rfl rfl 5 (Nat.le_of_ble_eq_true rfl) f43 (fun _ h9 => h9) rfl dX5_ranked_48 ?_
          obtain ⟨q8, eq8, h⟩ := e_b h
          refine xv_v (As := []) (rest := []) (ci := 3) (b := ad 51) ⟨hx, hb, hml, hown, hts⟩ hl.1 (kX3_order l D cA (fun i => ad (51 + i)) q6  _ eq8) (cwV 0 hts gX5_ranked_X3_order rfl rfl rfl (by decide +kernel) ⟨Nat.le_of_ble_eq_true rfl, Nat.le_of_ble_eq_true rfl⟩) rfl hK hP hD hS hA 4 rfl rfl rfl [4, 5, 6, 7, 8] rfl (by decide +kernel) rfl (Nat.le_of_ble_eq_true rfl) dX5_ranked_51 ⟨Nat.zero_le _, Nat.zero_le _⟩ (fun H locs hP hD hS => ?_)
          have hP : va_P D vwCl (wD_row_tally cA ad block ties lines pmn row q8) H := hP
          have hD : va_D A (wD_row_tally cA ad block ties lines pmn row q8) := hD
          refine lv_aload_n hx hb dX5_ranked_54 rfl (lv_at hl 0 rfl) ?_
          refine va_get (D := D) (ci := 5) (v := .ref (ad 51)) (C := RX5) (T := TX5) (N := 12) hx hb hts iX5 hown hK hP 0 rfl rfl 5 (Nat.le_of_ble_eq_true rfl) f43 (fun _ h9 => h9) rfl dX5_ranked_55 ?_
          refine lv_aload_n hx hb dX5_ranked_58 rfl (lv_at hl 0 rfl) ?_
          refine va_get (D := D) (ci := 5) (v := .ref (ad 51)) (C := RX5) (T := TX5) (N := 12) hx hb hts iX5 hown hK hP 0 rfl rfl 5 (Nat.le_of_ble_eq_true rfl) f43 (fun _ h9 => h9) rfl dX5_ranked_59 ?_
          refine va_get (D := D) (ci := 3) (v := .ref (ad 55)) (C := RX3) (T := TX3) (N := 8) hx hb hts iX3 hown hK hP 4 rfl rfl 3 (Nat.le_of_ble_eq_true rfl) f187 (fun _ h9 => h9) rfl dX5_ranked_62 ?_
          refine lv_iload_n hx hb dX5_ranked_65 rfl (lv_at hl 3 rfl) ?_
          obtain ⟨v9, ev9, nv9, h⟩ := e_rd h
          refine xa_iald hx hb hK hP 8 rfl nv9 ev9 dX5_ranked_66 ?_
          refine lv_iload hx hb dX5_ranked_67 (lv_at hl 4 rfl) ?_
          refine lv_iload_n hx hb dX5_ranked_69 rfl (lv_at hl 1 rfl) ?_
          obtain ⟨q10, eq10, h⟩ := e_b h
          refine xv_i (As := [.int v9, .int x4, .int x1]) (rest := []) (ci := 3) (b := ad 51) ⟨hx, hb, hml, hown, hts⟩ hl.1 (kX3_told l D cA (fun i => ad (51 + i)) q8 v9 x4 x1 _ eq10) (cwV 3 hts gX5_ranked_X3_told rfl rfl rfl (by decide +kernel) ⟨Nat.le_of_ble_eq_true rfl, Nat.le_of_ble_eq_true rfl⟩) rfl hK hP hD hS hA 4 rfl rfl rfl [4, 5, 6, 7, 8] rfl (by decide +kernel) rfl (Nat.le_of_ble_eq_true rfl) dX5_ranked_70 ⟨Nat.zero_le _, Nat.zero_le _⟩ (fun H locs hP hD hS hnq10 => ?_)
          have hP : va_P D vwCl (wD_row_tally cA ad block ties lines pmn row q8) H := hP
          have hD : va_D A (wD_row_tally cA ad block ties lines pmn row q8) := hD
          obtain rfl := e_s h
          exact hret hP hS rfl dX5_ranked_73
        · have h := e_f c7 h
          refine lv_bipush (v := (-2)) hx hb dX5_ranked_44 (by decide) ?_
          obtain rfl := e_s h
          exact hret hP hS rfl dX5_ranked_46
      · have h := e_f (not_not_intro c5) h
        refine lv_iconst (v := (-1)) hx hb dX5_ranked_25 (by decide) ?_
        obtain rfl := e_s h
        exact hret hP hS rfl dX5_ranked_26
set_option maxHeartbeats 4000000 in
set_option maxRecDepth 100000 in
theorem kX5_rank (l : Launch) (D : va_G) (cA : Nat → ClassId) (ad : Nat → Nat) (block : Int32) (ties : Int32) (lines : Int32) (pmn : Int32) (row : RowT) (tally : TalT) (x1 : Int32) (x2 : Int32) (x3 : Int32) (q : Int32 × TalT) (h : mX5_rank ties row tally x1 x2 x3 = some q) : MI l yX5_rank wsX5_rank { frames := 3, cells := 0, slots := 0, locals := 66 } D cA .int [.ref (ad 0), .int x1, .int x2, .int x3] (wD_row_tally cA ad block ties lines pmn row tally) (wD_row_tally cA ad block ties lines pmn row q.2) q.1 := by
  refine MI.of (cc := cX5_rank) (maxL := 6) (by decide +kernel) rfl rfl rfl (Nat.le_of_ble_eq_true rfl) ?_
  intro p e s m args below meth c A ls Q hx hb hml hts hown hK hP hD hA hS hl hret
  have hl : lv_has ls 6 [(0, .ref (ad 0)), (1, .int x1), (2, .int x2), (3, .int x3)] := hl
  have f182 := hts (.fieldLink RX5 182 "ModeDesk$Tally" "kinds" "I") (by decide +kernel)
  have f187 := hts (.fieldLink RX5 187 "ModeDesk$Tally" "kind" "[I") (by decide +kernel)
  have f190 := hts (.fieldLink RX5 190 "ModeDesk$Tally" "number" "[I") (by decide +kernel)
  have f26 := hts (.fieldLink RX5 26 "ModeDesk" "row" "LModeDesk$Row;") (by decide +kernel)
  have f43 := hts (.fieldLink RX5 43 "ModeDesk" "tally" "LModeDesk$Tally;") (by decide +kernel)
  have iX3 : ∀ w ∈ wsX30, w ∈ wsX5_rank := by decide +kernel
  have iX5 : ∀ w ∈ wsX50, w ∈ wsX5_rank := by decide +kernel
  unfold mX5_rank at h
  refine lv_aload_n hx hb dX5_rank_0 rfl (lv_at hl 0 rfl) ?_
  refine va_get (D := D) (ci := 5) (v := .ref (ad 7)) (C := RX5) (T := TX5) (N := 12) hx hb hts iX5 hown hK hP 0 rfl rfl 2 (Nat.le_of_ble_eq_true rfl) f26 (fun _ h9 => h9) rfl dX5_rank_1 ?_
  refine lv_iload_n hx hb dX5_rank_4 rfl (lv_at hl 1 rfl) ?_
  refine lv_iload_n hx hb dX5_rank_5 rfl (lv_at hl 2 rfl) ?_
  obtain ⟨q1, eq1, h⟩ := e_b h
  refine xv_i (As := [.int x1, .int x2]) (rest := []) (ci := 2) (b := ad 7) ⟨hx, hb, hml, hown, hts⟩ hl.1 (kX2_hasSpan l D cA (fun i => ad (7 + i)) row x1 x2 _ eq1) (cwV 2 hts gX5_rank_X2_hasSpan rfl rfl rfl (by decide +kernel) ⟨Nat.le_of_ble_eq_true rfl, Nat.le_of_ble_eq_true rfl⟩) rfl hK hP hD hS hA 1 rfl rfl rfl [1, 2, 3] rfl (by decide +kernel) rfl (Nat.le_of_ble_eq_true rfl) dX5_rank_6 ⟨Nat.zero_le _, Nat.zero_le _⟩ (fun H locs hP hD hS hnq1 => ?_)
  have hP : va_P D vwCl (wD_row_tally cA ad block ties lines pmn row tally) H := hP
  have hD : va_D A (wD_row_tally cA ad block ties lines pmn row tally) := hD
  refine lv_if_eq (tgt := 19) hx hb dX5_rank_9 (by decide) (fun c2 => ?_) (fun c2 => ?_)
  · have h := e_t c2 h
    refine lv_iconst (v := (-1)) hx hb dX5_rank_19 (by decide) ?_
    obtain rfl := e_s h
    exact hret hP hS rfl dX5_rank_20
  · have h := e_f c2 h
    refine lv_iload_n hx hb dX5_rank_12 rfl (lv_at hl 3 rfl) ?_
    obtain ⟨q3, eq3, h⟩ := e_b h
    refine xs_i (As := [.int x3]) (rest := []) ⟨hx, hb, hml, hown, hts⟩ hl.1 (kX5_isValue l D cA   x3 _ eq3) (va_cwS 1 hts gX5_rank_X5_isValue rfl rfl rfl (by decide +kernel) ⟨Nat.le_of_ble_eq_true rfl, Nat.le_of_ble_eq_true rfl⟩) rfl hK hP hD hS hA [] rfl (by decide +kernel) rfl (Nat.le_of_ble_eq_true rfl) dX5_rank_13 ⟨Nat.zero_le _, Nat.zero_le _⟩ (fun H locs hP hD hS hnq3 => ?_)
    have hP : va_P D vwCl (wD_row_tally cA ad block ties lines pmn row tally) H := hP
    have hD : va_D A (wD_row_tally cA ad block ties lines pmn row tally) := hD
    refine lv_if_ne (tgt := 21) hx hb dX5_rank_16 (by decide) (fun c4 => ?_) (fun c4 => ?_)
    · have h := e_t c4 h
      refine lv_aload_n hx hb dX5_rank_21 rfl (lv_at hl 0 rfl) ?_
      refine lv_iload_n hx hb dX5_rank_22 rfl (lv_at hl 1 rfl) ?_
      refine lv_iload_n hx hb dX5_rank_23 rfl (lv_at hl 2 rfl) ?_
      obtain ⟨q5, eq5, h⟩ := e_b h
      refine xv_v (As := [.int x1, .int x2]) (rest := []) (ci := 5) (b := ad 0) ⟨hx, hb, hml, hown, hts⟩ hl.1 (kX5_tallySpan l D cA ad block ties lines pmn row tally x1 x2 _ eq5) (cwV 2 hts gX5_rank_X5_tallySpan rfl rfl rfl (by decide +kernel) ⟨Nat.le_of_ble_eq_true rfl, Nat.le_of_ble_eq_true rfl⟩) rfl hK hP hD hS hA 0 rfl rfl rfl [0, 1, 2, 3, 4, 5, 6, 7, 8] rfl (by decide +kernel) rfl (Nat.le_of_ble_eq_true rfl) dX5_rank_24 ⟨Nat.zero_le _, Nat.zero_le _⟩ (fun H locs hP hD hS => ?_)
      have hP : va_P D vwCl (wD_row_tally cA ad block ties lines pmn row q5) H := hP
      have hD : va_D A (wD_row_tally cA ad block ties lines pmn row q5) := hD
      refine lv_aload_n hx hb dX5_rank_27 rfl (lv_at hl 0 rfl) ?_
      refine va_get (D := D) (ci := 5) (v := .ref (ad 51)) (C := RX5) (T := TX5) (N := 12) hx hb hts iX5 hown hK hP 0 rfl rfl 5 (Nat.le_of_ble_eq_true rfl) f43 (fun _ h9 => h9) rfl dX5_rank_28 ?_
      refine va_get (D := D) (ci := 3) (v := .ref (ad 52)) (C := RX3) (T := TX3) (N := 8) hx hb hts iX3 hown hK hP 4 rfl rfl 0 (Nat.le_of_ble_eq_true rfl) f190 (fun _ h9 => h9) rfl dX5_rank_31 ?_
      refine lv_iload_n hx hb dX5_rank_34 rfl (lv_at hl 3 rfl) ?_
      obtain ⟨v6, ev6, nv6, h⟩ := e_rd h
      refine xa_iald hx hb hK hP 5 rfl nv6 ev6 dX5_rank_35 ?_
      refine lv_if_ne (tgt := 42) hx hb dX5_rank_36 (by decide) (fun c7 => ?_) (fun c7 => ?_)
      · have h := e_t c7 h
        refine lv_iconst (v := 0) hx hb dX5_rank_42 (by decide) ?_
        refine lv_istore (lv' := [(4, .int 0), (0, .ref (ad 0)), (1, .int x1), (2, .int x2), (3, .int x3)]) hx hb dX5_rank_43 hl (by decide) rfl (fun ls hl => ?_)
        refine lv_iconst (v := 0) hx hb dX5_rank_45 (by decide) ?_
        refine lv_istore (lv' := [(5, .int 0), (4, .int 0), (0, .ref (ad 0)), (1, .int x1), (2, .int x2), (3, .int x3)]) hx hb dX5_rank_46 hl (by decide) rfl (fun ls hl => ?_)
        have hL48 : ∀ (n : Nat) (x3 : Int32) (x4 : Int32) (x5 : Int32) (block : Int32) (ties : Int32) (lines : Int32) (pmn : Int32) (row : RowT) (tally : TalT) (z8 : Int32) (ls : Array Slot) (H : Heap) (locs : List Loc), lv_has ls 6 [(0, .ref (ad 0)), (3, .int x3), (4, .int x4), (5, .int x5)] → va_P D vwCl (wD_row_tally cA ad block ties lines pmn row tally) H → va_D A (wD_row_tally cA ad block ties lines pmn row tally) → va_S A s.heap H locs → mX5_rank_L48 tally x3 n x4 x5 = some z8 → (∀ (ls : Array Slot) (H : Heap) (locs : List Loc), lv_has ls 6 [(4, .int z8)] → va_P D vwCl (wD_row_tally cA ad block ties lines pmn row tally) H → va_D A (wD_row_tally cA ad block ties lines pmn row tally) → va_S A s.heap H locs → W p l e (headSpec wsX5_rank { frames := 3, cells := 0, slots := 0, locals := 66 }).room s m args below meth c H locs 0 0 Q (F0 m 90 ls [])) → W p l e (headSpec wsX5_rank { frames := 3, cells := 0, slots := 0, locals := 66 }).room s m args below meth c H locs 0 0 Q (F0 m 48 ls []) := by
          intro n
          induction n with
          | zero => intro x3 x4 x5 block ties lines pmn row tally z8 ls H locs hl hP hD hS h hk48; exact e_n h
          | succ n ih48 =>
            intro x3 x4 x5 block ties lines pmn row tally z8 ls H locs hl hP hD hS h hk48
            rw [mX5_rank_L48.eq_2] at h
            refine lv_iload hx hb dX5_rank_48 (lv_at hl 3 rfl) ?_
            refine lv_aload_n hx hb dX5_rank_50 rfl (lv_at hl 0 rfl) ?_
            refine va_get (D := D) (ci := 5) (v := .ref (ad 51)) (C := RX5) (T := TX5) (N := 12) hx hb hts iX5 hown hK hP 0 rfl rfl 5 (Nat.le_of_ble_eq_true rfl) f43 (fun _ h9 => h9) rfl dX5_rank_51 ?_
            refine va_get (D := D) (ci := 3) (v := .int tally.2.2.2.2.1) (C := RX3) (T := TX3) (N := 8) hx hb hts iX3 hown hK hP 4 rfl rfl 4 (Nat.le_of_ble_eq_true rfl) f182 (fun _ h9 => h9) rfl dX5_rank_54 ?_
            refine lv_icmp_ge (tgt := 90) hx hb dX5_rank_57 (by decide) (fun c9 => ?_) (fun c9 => ?_)
            · have h := e_t c9 h
              obtain rfl := e_s h
              exact hk48 _ _ _ (lv_sub hl [2] rfl) hP hD hS
            · have h := e_f c9 h
              refine lv_aload_n hx hb dX5_rank_60 rfl (lv_at hl 0 rfl) ?_
              refine va_get (D := D) (ci := 5) (v := .ref (ad 51)) (C := RX5) (T := TX5) (N := 12) hx hb hts iX5 hown hK hP 0 rfl rfl 5 (Nat.le_of_ble_eq_true rfl) f43 (fun _ h9 => h9) rfl dX5_rank_61 ?_
              refine lv_aload_n hx hb dX5_rank_64 rfl (lv_at hl 0 rfl) ?_
              refine va_get (D := D) (ci := 5) (v := .ref (ad 51)) (C := RX5) (T := TX5) (N := 12) hx hb hts iX5 hown hK hP 0 rfl rfl 5 (Nat.le_of_ble_eq_true rfl) f43 (fun _ h9 => h9) rfl dX5_rank_65 ?_
              refine va_get (D := D) (ci := 3) (v := .ref (ad 55)) (C := RX3) (T := TX3) (N := 8) hx hb hts iX3 hown hK hP 4 rfl rfl 3 (Nat.le_of_ble_eq_true rfl) f187 (fun _ h9 => h9) rfl dX5_rank_68 ?_
              refine lv_iload hx hb dX5_rank_71 (lv_at hl 3 rfl) ?_
              obtain ⟨v10, ev10, nv10, h⟩ := e_rd h
              refine xa_iald hx hb hK hP 8 rfl nv10 ev10 dX5_rank_73 ?_
              refine lv_iload_n hx hb dX5_rank_74 rfl (lv_at hl 1 rfl) ?_
              obtain ⟨q11, eq11, h⟩ := e_b h
              refine xv_i (As := [.int v10, .int x3]) (rest := []) (ci := 3) (b := ad 51) ⟨hx, hb, hml, hown, hts⟩ hl.1 (kX3_isAhead l D cA (fun i => ad (51 + i)) tally v10 x3 _ eq11) (cwV 2 hts gX5_rank_X3_isAhead rfl rfl rfl (by decide +kernel) ⟨Nat.le_of_ble_eq_true rfl, Nat.le_of_ble_eq_true rfl⟩) rfl hK hP hD hS hA 4 rfl rfl rfl [4, 5, 6, 7, 8] rfl (by decide +kernel) rfl (Nat.le_of_ble_eq_true rfl) dX5_rank_75 ⟨Nat.zero_le _, Nat.zero_le _⟩ (fun H locs hP hD hS hnq11 => ?_)
              have hP : va_P D vwCl (wD_row_tally cA ad block ties lines pmn row tally) H := hP
              have hD : va_D A (wD_row_tally cA ad block ties lines pmn row tally) := hD
              refine lv_if_eq (tgt := 84) hx hb dX5_rank_78 (by decide) (fun c12 => ?_) (fun c12 => ?_)
              · have h := e_t c12 h
                refine lv_iinc (v := (x5 + 1)) (lv' := [(5, .int (x5 + 1)), (0, .ref (ad 0)), (3, .int x3), (4, .int x4)]) hx hb dX5_rank_84 hl (k := 3) rfl rfl (by decide) rfl (fun ls hl => ?_)
                refine lv_goto (tgt := 48) hx hb dX5_rank_87 (by decide) ?_
                exact ih48 x3 x4 (x5 + 1) block ties lines pmn row tally z8 _ _ _ (lv_sub hl [1, 2, 3, 0] rfl) hP hD hS h hk48
              · have h := e_f c12 h
                refine lv_iinc (v := (x4 + 1)) (lv' := [(4, .int (x4 + 1)), (0, .ref (ad 0)), (3, .int x3), (5, .int x5)]) hx hb dX5_rank_81 hl (k := 2) rfl rfl (by decide) rfl (fun ls hl => ?_)
                refine lv_iinc (v := (x5 + 1)) (lv' := [(5, .int (x5 + 1)), (4, .int (x4 + 1)), (0, .ref (ad 0)), (3, .int x3)]) hx hb dX5_rank_84 hl (k := 3) rfl rfl (by decide) rfl (fun ls hl => ?_)
                refine lv_goto (tgt := 48) hx hb dX5_rank_87 (by decide) ?_
                exact ih48 x3 (x4 + 1) (x5 + 1) block ties lines pmn row tally z8 _ _ _ (lv_sub hl [2, 3, 1, 0] rfl) hP hD hS h hk48
        obtain ⟨z13, ez13, h⟩ := e_b h
        refine hL48 FU x3 0 0 block ties lines pmn row q5 z13 _ _ _ (lv_sub hl [2, 5, 1, 0] rfl) hP hD hS ez13 (fun ls H locs hl hP hD hS => ?_)
        refine lv_iload hx hb dX5_rank_90 (lv_at hl 0 rfl) ?_
        obtain rfl := e_s h
        exact hret hP hS rfl dX5_rank_92
      · have h := e_f (not_not_intro c7) h
        refine lv_bipush (v := (-2)) hx hb dX5_rank_39 (by decide) ?_
        obtain rfl := e_s h
        exact hret hP hS rfl dX5_rank_41
    · have h := e_f (not_not_intro c4) h
      refine lv_iconst (v := (-1)) hx hb dX5_rank_19 (by decide) ?_
      obtain rfl := e_s h
      exact hret hP hS rfl dX5_rank_20
set_option maxHeartbeats 4000000 in
set_option maxRecDepth 100000 in
theorem kX5_often (l : Launch) (D : va_G) (cA : Nat → ClassId) (ad : Nat → Nat) (block : Int32) (ties : Int32) (lines : Int32) (pmn : Int32) (row : RowT) (x1 : Int32) (x2 : Int32) (x3 : Int32) (q : Int32) (h : mX5_often row x1 x2 x3 = some q) : MI l yX5_often wsX5_often { frames := 1, cells := 0, slots := 0, locals := 25 } D cA .int [.ref (ad 0), .int x1, .int x2, .int x3] (wD_row cA ad block ties lines pmn row) (wD_row cA ad block ties lines pmn row) q := by
  refine MI.of (cc := cX5_often) (maxL := 4) (by decide +kernel) rfl rfl rfl (Nat.le_of_ble_eq_true rfl) ?_
  intro p e s m args below meth c A ls Q hx hb hml hts hown hK hP hD hA hS hl hret
  have hl : lv_has ls 4 [(0, .ref (ad 0)), (1, .int x1), (2, .int x2), (3, .int x3)] := hl
  have f26 := hts (.fieldLink RX5 26 "ModeDesk" "row" "LModeDesk$Row;") (by decide +kernel)
  have iX5 : ∀ w ∈ wsX50, w ∈ wsX5_often := by decide +kernel
  unfold mX5_often at h
  refine lv_aload_n hx hb dX5_often_0 rfl (lv_at hl 0 rfl) ?_
  refine va_get (D := D) (ci := 5) (v := .ref (ad 7)) (C := RX5) (T := TX5) (N := 12) hx hb hts iX5 hown hK hP 0 rfl rfl 2 (Nat.le_of_ble_eq_true rfl) f26 (fun _ h9 => h9) rfl dX5_often_1 ?_
  refine lv_iload_n hx hb dX5_often_4 rfl (lv_at hl 1 rfl) ?_
  refine lv_iload_n hx hb dX5_often_5 rfl (lv_at hl 2 rfl) ?_
  obtain ⟨q1, eq1, h⟩ := e_b h
  refine xv_i (As := [.int x1, .int x2]) (rest := []) (ci := 2) (b := ad 7) ⟨hx, hb, hml, hown, hts⟩ hl.1 (kX2_hasSpan l D cA (fun i => ad (7 + i)) row x1 x2 _ eq1) (cwV 2 hts gX5_often_X2_hasSpan rfl rfl rfl (by decide +kernel) ⟨Nat.le_of_ble_eq_true rfl, Nat.le_of_ble_eq_true rfl⟩) rfl hK hP hD hS hA 1 rfl rfl rfl [1, 2, 3] rfl (by decide +kernel) rfl (Nat.le_of_ble_eq_true rfl) dX5_often_6 ⟨Nat.zero_le _, Nat.zero_le _⟩ (fun H locs hP hD hS hnq1 => ?_)
  have hP : va_P D vwCl (wD_row cA ad block ties lines pmn row) H := hP
  have hD : va_D A (wD_row cA ad block ties lines pmn row) := hD
  refine lv_if_eq (tgt := 19) hx hb dX5_often_9 (by decide) (fun c2 => ?_) (fun c2 => ?_)
  · have h := e_t c2 h
    refine lv_iconst (v := (-1)) hx hb dX5_often_19 (by decide) ?_
    obtain rfl := e_s h
    exact hret hP hS rfl dX5_often_20
  · have h := e_f c2 h
    refine lv_iload_n hx hb dX5_often_12 rfl (lv_at hl 3 rfl) ?_
    obtain ⟨q3, eq3, h⟩ := e_b h
    refine xs_i (As := [.int x3]) (rest := []) ⟨hx, hb, hml, hown, hts⟩ hl.1 (kX5_isValue l D cA   x3 _ eq3) (va_cwS 1 hts gX5_often_X5_isValue rfl rfl rfl (by decide +kernel) ⟨Nat.le_of_ble_eq_true rfl, Nat.le_of_ble_eq_true rfl⟩) rfl hK hP hD hS hA [] rfl (by decide +kernel) rfl (Nat.le_of_ble_eq_true rfl) dX5_often_13 ⟨Nat.zero_le _, Nat.zero_le _⟩ (fun H locs hP hD hS hnq3 => ?_)
    have hP : va_P D vwCl (wD_row cA ad block ties lines pmn row) H := hP
    have hD : va_D A (wD_row cA ad block ties lines pmn row) := hD
    refine lv_if_ne (tgt := 21) hx hb dX5_often_16 (by decide) (fun c4 => ?_) (fun c4 => ?_)
    · have h := e_t c4 h
      refine lv_aload_n hx hb dX5_often_21 rfl (lv_at hl 0 rfl) ?_
      refine va_get (D := D) (ci := 5) (v := .ref (ad 7)) (C := RX5) (T := TX5) (N := 12) hx hb hts iX5 hown hK hP 0 rfl rfl 2 (Nat.le_of_ble_eq_true rfl) f26 (fun _ h9 => h9) rfl dX5_often_22 ?_
      refine lv_iload_n hx hb dX5_often_25 rfl (lv_at hl 3 rfl) ?_
      refine lv_iload_n hx hb dX5_often_26 rfl (lv_at hl 1 rfl) ?_
      refine lv_iload_n hx hb dX5_often_27 rfl (lv_at hl 2 rfl) ?_
      obtain ⟨q5, eq5, h⟩ := e_b h
      refine xv_i (As := [.int x3, .int x1, .int x2]) (rest := []) (ci := 2) (b := ad 7) ⟨hx, hb, hml, hown, hts⟩ hl.1 (kX2_howOften l D cA (fun i => ad (7 + i)) row x3 x1 x2 _ eq5) (cwV 3 hts gX5_often_X2_howOften rfl rfl rfl (by decide +kernel) ⟨Nat.le_of_ble_eq_true rfl, Nat.le_of_ble_eq_true rfl⟩) rfl hK hP hD hS hA 1 rfl rfl rfl [1, 2, 3] rfl (by decide +kernel) rfl (Nat.le_of_ble_eq_true rfl) dX5_often_28 ⟨Nat.zero_le _, Nat.zero_le _⟩ (fun H locs hP hD hS hnq5 => ?_)
      have hP : va_P D vwCl (wD_row cA ad block ties lines pmn row) H := hP
      have hD : va_D A (wD_row cA ad block ties lines pmn row) := hD
      obtain rfl := e_s h
      exact hret hP hS rfl dX5_often_31
    · have h := e_f (not_not_intro c4) h
      refine lv_iconst (v := (-1)) hx hb dX5_often_19 (by decide) ?_
      obtain rfl := e_s h
      exact hret hP hS rfl dX5_often_20
set_option maxHeartbeats 4000000 in
set_option maxRecDepth 100000 in
theorem kX5_unlike (l : Launch) (D : va_G) (cA : Nat → ClassId) (ad : Nat → Nat) (block : Int32) (ties : Int32) (lines : Int32) (pmn : Int32) (row : RowT) (tally : TalT) (x1 : Int32) (x2 : Int32) (q : Int32 × TalT) (h : mX5_unlike ties row tally x1 x2 = some q) : MI l yX5_unlike wsX5_unlike { frames := 3, cells := 0, slots := 0, locals := 66 } D cA .int [.ref (ad 0), .int x1, .int x2] (wD_row_tally cA ad block ties lines pmn row tally) (wD_row_tally cA ad block ties lines pmn row q.2) q.1 := by
  refine MI.of (cc := cX5_unlike) (maxL := 3) (by decide +kernel) rfl rfl rfl (Nat.le_of_ble_eq_true rfl) ?_
  intro p e s m args below meth c A ls Q hx hb hml hts hown hK hP hD hA hS hl hret
  have hl : lv_has ls 3 [(0, .ref (ad 0)), (1, .int x1), (2, .int x2)] := hl
  have f182 := hts (.fieldLink RX5 182 "ModeDesk$Tally" "kinds" "I") (by decide +kernel)
  have f26 := hts (.fieldLink RX5 26 "ModeDesk" "row" "LModeDesk$Row;") (by decide +kernel)
  have f43 := hts (.fieldLink RX5 43 "ModeDesk" "tally" "LModeDesk$Tally;") (by decide +kernel)
  have iX3 : ∀ w ∈ wsX30, w ∈ wsX5_unlike := by decide +kernel
  have iX5 : ∀ w ∈ wsX50, w ∈ wsX5_unlike := by decide +kernel
  unfold mX5_unlike at h
  refine lv_aload_n hx hb dX5_unlike_0 rfl (lv_at hl 0 rfl) ?_
  refine va_get (D := D) (ci := 5) (v := .ref (ad 7)) (C := RX5) (T := TX5) (N := 12) hx hb hts iX5 hown hK hP 0 rfl rfl 2 (Nat.le_of_ble_eq_true rfl) f26 (fun _ h9 => h9) rfl dX5_unlike_1 ?_
  refine lv_iload_n hx hb dX5_unlike_4 rfl (lv_at hl 1 rfl) ?_
  refine lv_iload_n hx hb dX5_unlike_5 rfl (lv_at hl 2 rfl) ?_
  obtain ⟨q1, eq1, h⟩ := e_b h
  refine xv_i (As := [.int x1, .int x2]) (rest := []) (ci := 2) (b := ad 7) ⟨hx, hb, hml, hown, hts⟩ hl.1 (kX2_hasSpan l D cA (fun i => ad (7 + i)) row x1 x2 _ eq1) (cwV 2 hts gX5_unlike_X2_hasSpan rfl rfl rfl (by decide +kernel) ⟨Nat.le_of_ble_eq_true rfl, Nat.le_of_ble_eq_true rfl⟩) rfl hK hP hD hS hA 1 rfl rfl rfl [1, 2, 3] rfl (by decide +kernel) rfl (Nat.le_of_ble_eq_true rfl) dX5_unlike_6 ⟨Nat.zero_le _, Nat.zero_le _⟩ (fun H locs hP hD hS hnq1 => ?_)
  have hP : va_P D vwCl (wD_row_tally cA ad block ties lines pmn row tally) H := hP
  have hD : va_D A (wD_row_tally cA ad block ties lines pmn row tally) := hD
  refine lv_if_ne (tgt := 14) hx hb dX5_unlike_9 (by decide) (fun c2 => ?_) (fun c2 => ?_)
  · have h := e_t c2 h
    refine lv_aload_n hx hb dX5_unlike_14 rfl (lv_at hl 0 rfl) ?_
    refine lv_iload_n hx hb dX5_unlike_15 rfl (lv_at hl 1 rfl) ?_
    refine lv_iload_n hx hb dX5_unlike_16 rfl (lv_at hl 2 rfl) ?_
    obtain ⟨q3, eq3, h⟩ := e_b h
    refine xv_v (As := [.int x1, .int x2]) (rest := []) (ci := 5) (b := ad 0) ⟨hx, hb, hml, hown, hts⟩ hl.1 (kX5_tallySpan l D cA ad block ties lines pmn row tally x1 x2 _ eq3) (cwV 2 hts gX5_unlike_X5_tallySpan rfl rfl rfl (by decide +kernel) ⟨Nat.le_of_ble_eq_true rfl, Nat.le_of_ble_eq_true rfl⟩) rfl hK hP hD hS hA 0 rfl rfl rfl [0, 1, 2, 3, 4, 5, 6, 7, 8] rfl (by decide +kernel) rfl (Nat.le_of_ble_eq_true rfl) dX5_unlike_17 ⟨Nat.zero_le _, Nat.zero_le _⟩ (fun H locs hP hD hS => ?_)
    have hP : va_P D vwCl (wD_row_tally cA ad block ties lines pmn row q3) H := hP
    have hD : va_D A (wD_row_tally cA ad block ties lines pmn row q3) := hD
    refine lv_aload_n hx hb dX5_unlike_20 rfl (lv_at hl 0 rfl) ?_
    refine va_get (D := D) (ci := 5) (v := .ref (ad 51)) (C := RX5) (T := TX5) (N := 12) hx hb hts iX5 hown hK hP 0 rfl rfl 5 (Nat.le_of_ble_eq_true rfl) f43 (fun _ h9 => h9) rfl dX5_unlike_21 ?_
    refine va_get (D := D) (ci := 3) (v := .int q3.2.2.2.2.1) (C := RX3) (T := TX3) (N := 8) hx hb hts iX3 hown hK hP 4 rfl rfl 4 (Nat.le_of_ble_eq_true rfl) f182 (fun _ h9 => h9) rfl dX5_unlike_24 ?_
    obtain rfl := e_s h
    exact hret hP hS rfl dX5_unlike_27
  · have h := e_f (not_not_intro c2) h
    refine lv_iconst (v := (-1)) hx hb dX5_unlike_12 (by decide) ?_
    obtain rfl := e_s h
    exact hret hP hS rfl dX5_unlike_13
set_option maxHeartbeats 4000000 in
set_option maxRecDepth 100000 in
theorem kX5_times (l : Launch) (D : va_G) (cA : Nat → ClassId) (ad : Nat → Nat) (block : Int32) (ties : Int32) (lines : Int32) (pmn : Int32) (row : RowT) (tally : TalT) (x1 : Int32) (x2 : Int32) (x3 : Int32) (q : Int32 × TalT) (h : mX5_times ties row tally x1 x2 x3 = some q) : MI l yX5_times wsX5_times { frames := 3, cells := 0, slots := 0, locals := 66 } D cA .int [.ref (ad 0), .int x1, .int x2, .int x3] (wD_row_tally cA ad block ties lines pmn row tally) (wD_row_tally cA ad block ties lines pmn row q.2) q.1 := by
  refine MI.of (cc := cX5_times) (maxL := 6) (by decide +kernel) rfl rfl rfl (Nat.le_of_ble_eq_true rfl) ?_
  intro p e s m args below meth c A ls Q hx hb hml hts hown hK hP hD hA hS hl hret
  have hl : lv_has ls 6 [(0, .ref (ad 0)), (1, .int x1), (2, .int x2), (3, .int x3)] := hl
  have f182 := hts (.fieldLink RX5 182 "ModeDesk$Tally" "kinds" "I") (by decide +kernel)
  have f187 := hts (.fieldLink RX5 187 "ModeDesk$Tally" "kind" "[I") (by decide +kernel)
  have f190 := hts (.fieldLink RX5 190 "ModeDesk$Tally" "number" "[I") (by decide +kernel)
  have f26 := hts (.fieldLink RX5 26 "ModeDesk" "row" "LModeDesk$Row;") (by decide +kernel)
  have f43 := hts (.fieldLink RX5 43 "ModeDesk" "tally" "LModeDesk$Tally;") (by decide +kernel)
  have iX3 : ∀ w ∈ wsX30, w ∈ wsX5_times := by decide +kernel
  have iX5 : ∀ w ∈ wsX50, w ∈ wsX5_times := by decide +kernel
  unfold mX5_times at h
  refine lv_aload_n hx hb dX5_times_0 rfl (lv_at hl 0 rfl) ?_
  refine va_get (D := D) (ci := 5) (v := .ref (ad 7)) (C := RX5) (T := TX5) (N := 12) hx hb hts iX5 hown hK hP 0 rfl rfl 2 (Nat.le_of_ble_eq_true rfl) f26 (fun _ h9 => h9) rfl dX5_times_1 ?_
  refine lv_iload_n hx hb dX5_times_4 rfl (lv_at hl 1 rfl) ?_
  refine lv_iload_n hx hb dX5_times_5 rfl (lv_at hl 2 rfl) ?_
  obtain ⟨q1, eq1, h⟩ := e_b h
  refine xv_i (As := [.int x1, .int x2]) (rest := []) (ci := 2) (b := ad 7) ⟨hx, hb, hml, hown, hts⟩ hl.1 (kX2_hasSpan l D cA (fun i => ad (7 + i)) row x1 x2 _ eq1) (cwV 2 hts gX5_times_X2_hasSpan rfl rfl rfl (by decide +kernel) ⟨Nat.le_of_ble_eq_true rfl, Nat.le_of_ble_eq_true rfl⟩) rfl hK hP hD hS hA 1 rfl rfl rfl [1, 2, 3] rfl (by decide +kernel) rfl (Nat.le_of_ble_eq_true rfl) dX5_times_6 ⟨Nat.zero_le _, Nat.zero_le _⟩ (fun H locs hP hD hS hnq1 => ?_)
  have hP : va_P D vwCl (wD_row_tally cA ad block ties lines pmn row tally) H := hP
  have hD : va_D A (wD_row_tally cA ad block ties lines pmn row tally) := hD
  refine lv_if_eq (tgt := 17) hx hb dX5_times_9 (by decide) (fun c2 => ?_) (fun c2 => ?_)
  · have h := e_t c2 h
    refine lv_iconst (v := (-1)) hx hb dX5_times_17 (by decide) ?_
    obtain rfl := e_s h
    exact hret hP hS rfl dX5_times_18
  · have h := e_f c2 h
    refine lv_iload_n hx hb dX5_times_12 rfl (lv_at hl 3 rfl) ?_
    refine lv_iconst (v := 1) hx hb dX5_times_13 (by decide) ?_
    refine lv_icmp_ge (tgt := 19) hx hb dX5_times_14 (by decide) (fun c3 => ?_) (fun c3 => ?_)
    · have h := e_t c3 h
      refine lv_aload_n hx hb dX5_times_19 rfl (lv_at hl 0 rfl) ?_
      refine lv_iload_n hx hb dX5_times_20 rfl (lv_at hl 1 rfl) ?_
      refine lv_iload_n hx hb dX5_times_21 rfl (lv_at hl 2 rfl) ?_
      obtain ⟨q4, eq4, h⟩ := e_b h
      refine xv_v (As := [.int x1, .int x2]) (rest := []) (ci := 5) (b := ad 0) ⟨hx, hb, hml, hown, hts⟩ hl.1 (kX5_tallySpan l D cA ad block ties lines pmn row tally x1 x2 _ eq4) (cwV 2 hts gX5_times_X5_tallySpan rfl rfl rfl (by decide +kernel) ⟨Nat.le_of_ble_eq_true rfl, Nat.le_of_ble_eq_true rfl⟩) rfl hK hP hD hS hA 0 rfl rfl rfl [0, 1, 2, 3, 4, 5, 6, 7, 8] rfl (by decide +kernel) rfl (Nat.le_of_ble_eq_true rfl) dX5_times_22 ⟨Nat.zero_le _, Nat.zero_le _⟩ (fun H locs hP hD hS => ?_)
      have hP : va_P D vwCl (wD_row_tally cA ad block ties lines pmn row q4) H := hP
      have hD : va_D A (wD_row_tally cA ad block ties lines pmn row q4) := hD
      refine lv_iconst (v := 0) hx hb dX5_times_25 (by decide) ?_
      refine lv_istore (lv' := [(4, .int 0), (0, .ref (ad 0)), (1, .int x1), (2, .int x2), (3, .int x3)]) hx hb dX5_times_26 hl (by decide) rfl (fun ls hl => ?_)
      refine lv_iconst (v := 0) hx hb dX5_times_28 (by decide) ?_
      refine lv_istore (lv' := [(5, .int 0), (4, .int 0), (0, .ref (ad 0)), (1, .int x1), (2, .int x2), (3, .int x3)]) hx hb dX5_times_29 hl (by decide) rfl (fun ls hl => ?_)
      have hL31 : ∀ (n : Nat) (x3 : Int32) (x4 : Int32) (x5 : Int32) (block : Int32) (ties : Int32) (lines : Int32) (pmn : Int32) (row : RowT) (tally : TalT) (z5 : Int32) (ls : Array Slot) (H : Heap) (locs : List Loc), lv_has ls 6 [(0, .ref (ad 0)), (3, .int x3), (4, .int x4), (5, .int x5)] → va_P D vwCl (wD_row_tally cA ad block ties lines pmn row tally) H → va_D A (wD_row_tally cA ad block ties lines pmn row tally) → va_S A s.heap H locs → mX5_times_L31 tally x3 n x4 x5 = some z5 → (∀ (ls : Array Slot) (H : Heap) (locs : List Loc), lv_has ls 6 [(4, .int z5)] → va_P D vwCl (wD_row_tally cA ad block ties lines pmn row tally) H → va_D A (wD_row_tally cA ad block ties lines pmn row tally) → va_S A s.heap H locs → W p l e (headSpec wsX5_times { frames := 3, cells := 0, slots := 0, locals := 66 }).room s m args below meth c H locs 0 0 Q (F0 m 74 ls [])) → W p l e (headSpec wsX5_times { frames := 3, cells := 0, slots := 0, locals := 66 }).room s m args below meth c H locs 0 0 Q (F0 m 31 ls []) := by
        intro n
        induction n with
        | zero => intro x3 x4 x5 block ties lines pmn row tally z5 ls H locs hl hP hD hS h hk31; exact e_n h
        | succ n ih31 =>
          intro x3 x4 x5 block ties lines pmn row tally z5 ls H locs hl hP hD hS h hk31
          rw [mX5_times_L31.eq_2] at h
          refine lv_iload hx hb dX5_times_31 (lv_at hl 3 rfl) ?_
          refine lv_aload_n hx hb dX5_times_33 rfl (lv_at hl 0 rfl) ?_
          refine va_get (D := D) (ci := 5) (v := .ref (ad 51)) (C := RX5) (T := TX5) (N := 12) hx hb hts iX5 hown hK hP 0 rfl rfl 5 (Nat.le_of_ble_eq_true rfl) f43 (fun _ h9 => h9) rfl dX5_times_34 ?_
          refine va_get (D := D) (ci := 3) (v := .int tally.2.2.2.2.1) (C := RX3) (T := TX3) (N := 8) hx hb hts iX3 hown hK hP 4 rfl rfl 4 (Nat.le_of_ble_eq_true rfl) f182 (fun _ h9 => h9) rfl dX5_times_37 ?_
          refine lv_icmp_ge (tgt := 74) hx hb dX5_times_40 (by decide) (fun c6 => ?_) (fun c6 => ?_)
          · have h := e_t c6 h
            obtain rfl := e_s h
            exact hk31 _ _ _ (lv_sub hl [2] rfl) hP hD hS
          · have h := e_f c6 h
            refine lv_aload_n hx hb dX5_times_43 rfl (lv_at hl 0 rfl) ?_
            refine va_get (D := D) (ci := 5) (v := .ref (ad 51)) (C := RX5) (T := TX5) (N := 12) hx hb hts iX5 hown hK hP 0 rfl rfl 5 (Nat.le_of_ble_eq_true rfl) f43 (fun _ h9 => h9) rfl dX5_times_44 ?_
            refine va_get (D := D) (ci := 3) (v := .ref (ad 52)) (C := RX3) (T := TX3) (N := 8) hx hb hts iX3 hown hK hP 4 rfl rfl 0 (Nat.le_of_ble_eq_true rfl) f190 (fun _ h9 => h9) rfl dX5_times_47 ?_
            refine lv_aload_n hx hb dX5_times_50 rfl (lv_at hl 0 rfl) ?_
            refine va_get (D := D) (ci := 5) (v := .ref (ad 51)) (C := RX5) (T := TX5) (N := 12) hx hb hts iX5 hown hK hP 0 rfl rfl 5 (Nat.le_of_ble_eq_true rfl) f43 (fun _ h9 => h9) rfl dX5_times_51 ?_
            refine va_get (D := D) (ci := 3) (v := .ref (ad 55)) (C := RX3) (T := TX3) (N := 8) hx hb hts iX3 hown hK hP 4 rfl rfl 3 (Nat.le_of_ble_eq_true rfl) f187 (fun _ h9 => h9) rfl dX5_times_54 ?_
            refine lv_iload hx hb dX5_times_57 (lv_at hl 3 rfl) ?_
            obtain ⟨v7, ev7, nv7, h⟩ := e_rd h
            refine xa_iald hx hb hK hP 8 rfl nv7 ev7 dX5_times_59 ?_
            obtain ⟨v8, ev8, nv8, h⟩ := e_rd h
            refine xa_iald hx hb hK hP 5 rfl nv8 ev8 dX5_times_60 ?_
            refine lv_iload_n hx hb dX5_times_61 rfl (lv_at hl 1 rfl) ?_
            refine lv_icmp_ne (tgt := 68) hx hb dX5_times_62 (by decide) (fun c9 => ?_) (fun c9 => ?_)
            · have h := e_t c9 h
              refine lv_iinc (v := (x5 + 1)) (lv' := [(5, .int (x5 + 1)), (0, .ref (ad 0)), (3, .int x3), (4, .int x4)]) hx hb dX5_times_68 hl (k := 3) rfl rfl (by decide) rfl (fun ls hl => ?_)
              refine lv_goto (tgt := 31) hx hb dX5_times_71 (by decide) ?_
              exact ih31 x3 x4 (x5 + 1) block ties lines pmn row tally z5 _ _ _ (lv_sub hl [1, 2, 3, 0] rfl) hP hD hS h hk31
            · have h := e_f (not_not_intro c9) h
              refine lv_iinc (v := (x4 + 1)) (lv' := [(4, .int (x4 + 1)), (0, .ref (ad 0)), (3, .int x3), (5, .int x5)]) hx hb dX5_times_65 hl (k := 2) rfl rfl (by decide) rfl (fun ls hl => ?_)
              refine lv_iinc (v := (x5 + 1)) (lv' := [(5, .int (x5 + 1)), (4, .int (x4 + 1)), (0, .ref (ad 0)), (3, .int x3)]) hx hb dX5_times_68 hl (k := 3) rfl rfl (by decide) rfl (fun ls hl => ?_)
              refine lv_goto (tgt := 31) hx hb dX5_times_71 (by decide) ?_
              exact ih31 x3 (x4 + 1) (x5 + 1) block ties lines pmn row tally z5 _ _ _ (lv_sub hl [2, 3, 1, 0] rfl) hP hD hS h hk31
      obtain ⟨z10, ez10, h⟩ := e_b h
      refine hL31 FU x3 0 0 block ties lines pmn row q4 z10 _ _ _ (lv_sub hl [2, 5, 1, 0] rfl) hP hD hS ez10 (fun ls H locs hl hP hD hS => ?_)
      refine lv_iload hx hb dX5_times_74 (lv_at hl 0 rfl) ?_
      obtain rfl := e_s h
      exact hret hP hS rfl dX5_times_76
    · have h := e_f c3 h
      refine lv_iconst (v := (-1)) hx hb dX5_times_17 (by decide) ?_
      obtain rfl := e_s h
      exact hret hP hS rfl dX5_times_18
set_option maxHeartbeats 4000000 in
set_option maxRecDepth 100000 in
theorem kX5_majority (l : Launch) (D : va_G) (cA : Nat → ClassId) (ad : Nat → Nat) (block : Int32) (ties : Int32) (lines : Int32) (pmn : Int32) (row : RowT) (tally : TalT) (x1 : Int32) (x2 : Int32) (q : Int32 × TalT) (h : mX5_majority ties row tally x1 x2 = some q) : MI l yX5_majority wsX5_majority { frames := 3, cells := 0, slots := 0, locals := 66 } D cA .int [.ref (ad 0), .int x1, .int x2] (wD_row_tally cA ad block ties lines pmn row tally) (wD_row_tally cA ad block ties lines pmn row q.2) q.1 := by
  refine MI.of (cc := cX5_majority) (maxL := 3) (by decide +kernel) rfl rfl rfl (Nat.le_of_ble_eq_true rfl) ?_
  intro p e s m args below meth c A ls Q hx hb hml hts hown hK hP hD hA hS hl hret
  have hl : lv_has ls 3 [(0, .ref (ad 0)), (1, .int x1), (2, .int x2)] := hl
  have f176 := hts (.fieldLink RX5 176 "ModeDesk$Tally" "best" "I") (by decide +kernel)
  have f26 := hts (.fieldLink RX5 26 "ModeDesk" "row" "LModeDesk$Row;") (by decide +kernel)
  have f43 := hts (.fieldLink RX5 43 "ModeDesk" "tally" "LModeDesk$Tally;") (by decide +kernel)
  have iX3 : ∀ w ∈ wsX30, w ∈ wsX5_majority := by decide +kernel
  have iX5 : ∀ w ∈ wsX50, w ∈ wsX5_majority := by decide +kernel
  unfold mX5_majority at h
  refine lv_aload_n hx hb dX5_majority_0 rfl (lv_at hl 0 rfl) ?_
  refine va_get (D := D) (ci := 5) (v := .ref (ad 7)) (C := RX5) (T := TX5) (N := 12) hx hb hts iX5 hown hK hP 0 rfl rfl 2 (Nat.le_of_ble_eq_true rfl) f26 (fun _ h9 => h9) rfl dX5_majority_1 ?_
  refine lv_iload_n hx hb dX5_majority_4 rfl (lv_at hl 1 rfl) ?_
  refine lv_iload_n hx hb dX5_majority_5 rfl (lv_at hl 2 rfl) ?_
  obtain ⟨q1, eq1, h⟩ := e_b h
  refine xv_i (As := [.int x1, .int x2]) (rest := []) (ci := 2) (b := ad 7) ⟨hx, hb, hml, hown, hts⟩ hl.1 (kX2_hasSpan l D cA (fun i => ad (7 + i)) row x1 x2 _ eq1) (cwV 2 hts gX5_majority_X2_hasSpan rfl rfl rfl (by decide +kernel) ⟨Nat.le_of_ble_eq_true rfl, Nat.le_of_ble_eq_true rfl⟩) rfl hK hP hD hS hA 1 rfl rfl rfl [1, 2, 3] rfl (by decide +kernel) rfl (Nat.le_of_ble_eq_true rfl) dX5_majority_6 ⟨Nat.zero_le _, Nat.zero_le _⟩ (fun H locs hP hD hS hnq1 => ?_)
  have hP : va_P D vwCl (wD_row_tally cA ad block ties lines pmn row tally) H := hP
  have hD : va_D A (wD_row_tally cA ad block ties lines pmn row tally) := hD
  refine lv_if_ne (tgt := 14) hx hb dX5_majority_9 (by decide) (fun c2 => ?_) (fun c2 => ?_)
  · have h := e_t c2 h
    refine lv_aload_n hx hb dX5_majority_14 rfl (lv_at hl 0 rfl) ?_
    refine lv_iload_n hx hb dX5_majority_15 rfl (lv_at hl 1 rfl) ?_
    refine lv_iload_n hx hb dX5_majority_16 rfl (lv_at hl 2 rfl) ?_
    obtain ⟨q3, eq3, h⟩ := e_b h
    refine xv_v (As := [.int x1, .int x2]) (rest := []) (ci := 5) (b := ad 0) ⟨hx, hb, hml, hown, hts⟩ hl.1 (kX5_tallySpan l D cA ad block ties lines pmn row tally x1 x2 _ eq3) (cwV 2 hts gX5_majority_X5_tallySpan rfl rfl rfl (by decide +kernel) ⟨Nat.le_of_ble_eq_true rfl, Nat.le_of_ble_eq_true rfl⟩) rfl hK hP hD hS hA 0 rfl rfl rfl [0, 1, 2, 3, 4, 5, 6, 7, 8] rfl (by decide +kernel) rfl (Nat.le_of_ble_eq_true rfl) dX5_majority_17 ⟨Nat.zero_le _, Nat.zero_le _⟩ (fun H locs hP hD hS => ?_)
    have hP : va_P D vwCl (wD_row_tally cA ad block ties lines pmn row q3) H := hP
    have hD : va_D A (wD_row_tally cA ad block ties lines pmn row q3) := hD
    refine lv_aload_n hx hb dX5_majority_20 rfl (lv_at hl 0 rfl) ?_
    refine va_get (D := D) (ci := 5) (v := .ref (ad 51)) (C := RX5) (T := TX5) (N := 12) hx hb hts iX5 hown hK hP 0 rfl rfl 5 (Nat.le_of_ble_eq_true rfl) f43 (fun _ h9 => h9) rfl dX5_majority_21 ?_
    obtain ⟨q4, eq4, h⟩ := e_b h
    refine xv_i (As := []) (rest := []) (ci := 3) (b := ad 51) ⟨hx, hb, hml, hown, hts⟩ hl.1 (kX3_hasMajority l D cA (fun i => ad (51 + i)) q3  _ eq4) (cwV 0 hts gX5_majority_X3_hasMajority rfl rfl rfl (by decide +kernel) ⟨Nat.le_of_ble_eq_true rfl, Nat.le_of_ble_eq_true rfl⟩) rfl hK hP hD hS hA 4 rfl rfl rfl [4, 5, 6, 7, 8] rfl (by decide +kernel) rfl (Nat.le_of_ble_eq_true rfl) dX5_majority_24 ⟨Nat.zero_le _, Nat.zero_le _⟩ (fun H locs hP hD hS hnq4 => ?_)
    have hP : va_P D vwCl (wD_row_tally cA ad block ties lines pmn row q3) H := hP
    have hD : va_D A (wD_row_tally cA ad block ties lines pmn row q3) := hD
    refine lv_if_eq (tgt := 40) hx hb dX5_majority_27 (by decide) (fun c5 => ?_) (fun c5 => ?_)
    · have h := e_t c5 h
      refine lv_bipush (v := (-2)) hx hb dX5_majority_40 (by decide) ?_
      obtain rfl := e_s h
      exact hret hP hS rfl dX5_majority_42
    · have h := e_f c5 h
      refine lv_aload_n hx hb dX5_majority_30 rfl (lv_at hl 0 rfl) ?_
      refine va_get (D := D) (ci := 5) (v := .ref (ad 51)) (C := RX5) (T := TX5) (N := 12) hx hb hts iX5 hown hK hP 0 rfl rfl 5 (Nat.le_of_ble_eq_true rfl) f43 (fun _ h9 => h9) rfl dX5_majority_31 ?_
      refine va_get (D := D) (ci := 3) (v := .int q3.2.2.2.2.2.2.1) (C := RX3) (T := TX3) (N := 8) hx hb hts iX3 hown hK hP 4 rfl rfl 6 (Nat.le_of_ble_eq_true rfl) f176 (fun _ h9 => h9) rfl dX5_majority_34 ?_
      refine lv_goto (tgt := 42) hx hb dX5_majority_37 (by decide) ?_
      obtain rfl := e_s h
      exact hret hP hS rfl dX5_majority_42
  · have h := e_f (not_not_intro c2) h
    refine lv_iconst (v := (-1)) hx hb dX5_majority_12 (by decide) ?_
    obtain rfl := e_s h
    exact hret hP hS rfl dX5_majority_13
set_option maxHeartbeats 4000000 in
set_option maxRecDepth 100000 in
theorem kX5_heaviest (l : Launch) (D : va_G) (cA : Nat → ClassId) (ad : Nat → Nat) (block : Int32) (ties : Int32) (lines : Int32) (pmn : Int32) (row : RowT) (tally : TalT) (x1 : Int32) (x2 : Int32) (x3 : Int32) (q : Int32 × TalT) (h : mX5_heaviest ties row tally x1 x2 x3 = some q) : MI l yX5_heaviest wsX5_heaviest { frames := 3, cells := 0, slots := 0, locals := 66 } D cA .int [.ref (ad 0), .int x1, .int x2, .int x3] (wD_row_tally cA ad block ties lines pmn row tally) (wD_row_tally cA ad block ties lines pmn row q.2) q.1 := by
  refine MI.of (cc := cX5_heaviest) (maxL := 9) (by decide +kernel) rfl rfl rfl (Nat.le_of_ble_eq_true rfl) ?_
  intro p e s m args below meth c A ls Q hx hb hml hts hown hK hP hD hA hS hl hret
  have hl : lv_has ls 9 [(0, .ref (ad 0)), (1, .int x1), (2, .int x2), (3, .int x3)] := hl
  have f176 := hts (.fieldLink RX5 176 "ModeDesk$Tally" "best" "I") (by decide +kernel)
  have f182 := hts (.fieldLink RX5 182 "ModeDesk$Tally" "kinds" "I") (by decide +kernel)
  have f187 := hts (.fieldLink RX5 187 "ModeDesk$Tally" "kind" "[I") (by decide +kernel)
  have f26 := hts (.fieldLink RX5 26 "ModeDesk" "row" "LModeDesk$Row;") (by decide +kernel)
  have f43 := hts (.fieldLink RX5 43 "ModeDesk" "tally" "LModeDesk$Tally;") (by decide +kernel)
  have iX3 : ∀ w ∈ wsX30, w ∈ wsX5_heaviest := by decide +kernel
  have iX5 : ∀ w ∈ wsX50, w ∈ wsX5_heaviest := by decide +kernel
  unfold mX5_heaviest at h
  refine lv_aload_n hx hb dX5_heaviest_0 rfl (lv_at hl 0 rfl) ?_
  refine va_get (D := D) (ci := 5) (v := .ref (ad 7)) (C := RX5) (T := TX5) (N := 12) hx hb hts iX5 hown hK hP 0 rfl rfl 2 (Nat.le_of_ble_eq_true rfl) f26 (fun _ h9 => h9) rfl dX5_heaviest_1 ?_
  refine lv_iload_n hx hb dX5_heaviest_4 rfl (lv_at hl 1 rfl) ?_
  refine lv_iload_n hx hb dX5_heaviest_5 rfl (lv_at hl 2 rfl) ?_
  obtain ⟨q1, eq1, h⟩ := e_b h
  refine xv_i (As := [.int x1, .int x2]) (rest := []) (ci := 2) (b := ad 7) ⟨hx, hb, hml, hown, hts⟩ hl.1 (kX2_hasSpan l D cA (fun i => ad (7 + i)) row x1 x2 _ eq1) (cwV 2 hts gX5_heaviest_X2_hasSpan rfl rfl rfl (by decide +kernel) ⟨Nat.le_of_ble_eq_true rfl, Nat.le_of_ble_eq_true rfl⟩) rfl hK hP hD hS hA 1 rfl rfl rfl [1, 2, 3] rfl (by decide +kernel) rfl (Nat.le_of_ble_eq_true rfl) dX5_heaviest_6 ⟨Nat.zero_le _, Nat.zero_le _⟩ (fun H locs hP hD hS hnq1 => ?_)
  have hP : va_P D vwCl (wD_row_tally cA ad block ties lines pmn row tally) H := hP
  have hD : va_D A (wD_row_tally cA ad block ties lines pmn row tally) := hD
  refine lv_if_eq (tgt := 20) hx hb dX5_heaviest_9 (by decide) (fun c2 => ?_) (fun c2 => ?_)
  · have h := e_t c2 h
    refine lv_iconst (v := (-1)) hx hb dX5_heaviest_20 (by decide) ?_
    obtain rfl := e_s h
    exact hret hP hS rfl dX5_heaviest_21
  · have h := e_f c2 h
    refine lv_iload_n hx hb dX5_heaviest_12 rfl (lv_at hl 3 rfl) ?_
    refine lv_iconst (v := 2) hx hb dX5_heaviest_13 (by decide) ?_
    obtain ⟨q3, eq3, h⟩ := e_b h
    refine xs_i (As := [.int x3, .int 2]) (rest := []) ⟨hx, hb, hml, hown, hts⟩ hl.1 (kX5_isBelow l D cA   x3 2 _ eq3) (va_cwS 2 hts gX5_heaviest_X5_isBelow rfl rfl rfl (by decide +kernel) ⟨Nat.le_of_ble_eq_true rfl, Nat.le_of_ble_eq_true rfl⟩) rfl hK hP hD hS hA [] rfl (by decide +kernel) rfl (Nat.le_of_ble_eq_true rfl) dX5_heaviest_14 ⟨Nat.zero_le _, Nat.zero_le _⟩ (fun H locs hP hD hS hnq3 => ?_)
    have hP : va_P D vwCl (wD_row_tally cA ad block ties lines pmn row tally) H := hP
    have hD : va_D A (wD_row_tally cA ad block ties lines pmn row tally) := hD
    refine lv_if_ne (tgt := 22) hx hb dX5_heaviest_17 (by decide) (fun c4 => ?_) (fun c4 => ?_)
    · have h := e_t c4 h
      refine lv_aload_n hx hb dX5_heaviest_22 rfl (lv_at hl 0 rfl) ?_
      refine lv_iload_n hx hb dX5_heaviest_23 rfl (lv_at hl 1 rfl) ?_
      refine lv_iload_n hx hb dX5_heaviest_24 rfl (lv_at hl 2 rfl) ?_
      obtain ⟨q5, eq5, h⟩ := e_b h
      refine xv_v (As := [.int x1, .int x2]) (rest := []) (ci := 5) (b := ad 0) ⟨hx, hb, hml, hown, hts⟩ hl.1 (kX5_tallySpan l D cA ad block ties lines pmn row tally x1 x2 _ eq5) (cwV 2 hts gX5_heaviest_X5_tallySpan rfl rfl rfl (by decide +kernel) ⟨Nat.le_of_ble_eq_true rfl, Nat.le_of_ble_eq_true rfl⟩) rfl hK hP hD hS hA 0 rfl rfl rfl [0, 1, 2, 3, 4, 5, 6, 7, 8] rfl (by decide +kernel) rfl (Nat.le_of_ble_eq_true rfl) dX5_heaviest_25 ⟨Nat.zero_le _, Nat.zero_le _⟩ (fun H locs hP hD hS => ?_)
      have hP : va_P D vwCl (wD_row_tally cA ad block ties lines pmn row q5) H := hP
      have hD : va_D A (wD_row_tally cA ad block ties lines pmn row q5) := hD
      refine lv_aload_n hx hb dX5_heaviest_28 rfl (lv_at hl 0 rfl) ?_
      refine va_get (D := D) (ci := 5) (v := .ref (ad 51)) (C := RX5) (T := TX5) (N := 12) hx hb hts iX5 hown hK hP 0 rfl rfl 5 (Nat.le_of_ble_eq_true rfl) f43 (fun _ h9 => h9) rfl dX5_heaviest_29 ?_
      refine va_get (D := D) (ci := 3) (v := .int q5.2.2.2.2.2.2.1) (C := RX3) (T := TX3) (N := 8) hx hb hts iX3 hown hK hP 4 rfl rfl 6 (Nat.le_of_ble_eq_true rfl) f176 (fun _ h9 => h9) rfl dX5_heaviest_32 ?_
      refine lv_istore (lv' := [(4, .int q5.2.2.2.2.2.2.1), (0, .ref (ad 0)), (1, .int x1), (2, .int x2), (3, .int x3)]) hx hb dX5_heaviest_35 hl (by decide) rfl (fun ls hl => ?_)
      refine lv_iconst (v := 0) hx hb dX5_heaviest_37 (by decide) ?_
      refine lv_istore (lv' := [(5, .int 0), (4, .int q5.2.2.2.2.2.2.1), (0, .ref (ad 0)), (1, .int x1), (2, .int x2), (3, .int x3)]) hx hb dX5_heaviest_38 hl (by decide) rfl (fun ls hl => ?_)
      refine lv_iconst (v := 0) hx hb dX5_heaviest_40 (by decide) ?_
      refine lv_istore (lv' := [(6, .int 0), (5, .int 0), (4, .int q5.2.2.2.2.2.2.1), (0, .ref (ad 0)), (1, .int x1), (2, .int x2), (3, .int x3)]) hx hb dX5_heaviest_41 hl (by decide) rfl (fun ls hl => ?_)
      have hL43 : ∀ (n : Nat) (x1 : Int32) (x2 : Int32) (x3 : Int32) (x4 : Int32) (x5 : Int32) (x6 : Int32) (block : Int32) (ties : Int32) (lines : Int32) (pmn : Int32) (row : RowT) (tally : TalT) (z6 : Int32 × Int32) (ls : Array Slot) (H : Heap) (locs : List Loc), lv_has ls 9 [(0, .ref (ad 0)), (1, .int x1), (2, .int x2), (3, .int x3), (4, .int x4), (5, .int x5), (6, .int x6)] → va_P D vwCl (wD_row_tally cA ad block ties lines pmn row tally) H → va_D A (wD_row_tally cA ad block ties lines pmn row tally) → va_S A s.heap H locs → mX5_heaviest_L43 row tally x1 x2 n x4 x5 x6 = some z6 → (∀ (ls : Array Slot) (H : Heap) (locs : List Loc), lv_has ls 9 [(3, .int x3), (4, .int z6.1), (5, .int z6.2)] → va_P D vwCl (wD_row_tally cA ad block ties lines pmn row tally) H → va_D A (wD_row_tally cA ad block ties lines pmn row tally) → va_S A s.heap H locs → W p l e (headSpec wsX5_heaviest { frames := 3, cells := 0, slots := 0, locals := 66 }).room s m args below meth c H locs 0 0 Q (F0 m 122 ls [])) → W p l e (headSpec wsX5_heaviest { frames := 3, cells := 0, slots := 0, locals := 66 }).room s m args below meth c H locs 0 0 Q (F0 m 43 ls []) := by
        intro n
        induction n with
        | zero => intro x1 x2 x3 x4 x5 x6 block ties lines pmn row tally z6 ls H locs hl hP hD hS h hk43; exact e_n h
        | succ n ih43 =>
          intro x1 x2 x3 x4 x5 x6 block ties lines pmn row tally z6 ls H locs hl hP hD hS h hk43
          rw [mX5_heaviest_L43.eq_2] at h
          refine lv_iload hx hb dX5_heaviest_43 (lv_at hl 6 rfl) ?_
          refine lv_aload_n hx hb dX5_heaviest_45 rfl (lv_at hl 0 rfl) ?_
          refine va_get (D := D) (ci := 5) (v := .ref (ad 51)) (C := RX5) (T := TX5) (N := 12) hx hb hts iX5 hown hK hP 0 rfl rfl 5 (Nat.le_of_ble_eq_true rfl) f43 (fun _ h9 => h9) rfl dX5_heaviest_46 ?_
          refine va_get (D := D) (ci := 3) (v := .int tally.2.2.2.2.1) (C := RX3) (T := TX3) (N := 8) hx hb hts iX3 hown hK hP 4 rfl rfl 4 (Nat.le_of_ble_eq_true rfl) f182 (fun _ h9 => h9) rfl dX5_heaviest_49 ?_
          refine lv_icmp_ge (tgt := 122) hx hb dX5_heaviest_52 (by decide) (fun c7 => ?_) (fun c7 => ?_)
          · have h := e_t c7 h
            obtain rfl := e_s h
            exact hk43 _ _ _ (lv_sub hl [3, 4, 5] rfl) hP hD hS
          · have h := e_f c7 h
            refine lv_aload_n hx hb dX5_heaviest_55 rfl (lv_at hl 0 rfl) ?_
            refine va_get (D := D) (ci := 5) (v := .ref (ad 51)) (C := RX5) (T := TX5) (N := 12) hx hb hts iX5 hown hK hP 0 rfl rfl 5 (Nat.le_of_ble_eq_true rfl) f43 (fun _ h9 => h9) rfl dX5_heaviest_56 ?_
            refine va_get (D := D) (ci := 3) (v := .ref (ad 55)) (C := RX3) (T := TX3) (N := 8) hx hb hts iX3 hown hK hP 4 rfl rfl 3 (Nat.le_of_ble_eq_true rfl) f187 (fun _ h9 => h9) rfl dX5_heaviest_59 ?_
            refine lv_iload hx hb dX5_heaviest_62 (lv_at hl 6 rfl) ?_
            obtain ⟨v8, ev8, nv8, h⟩ := e_rd h
            refine xa_iald hx hb hK hP 8 rfl nv8 ev8 dX5_heaviest_64 ?_
            refine lv_istore (lv' := [(7, .int v8), (0, .ref (ad 0)), (1, .int x1), (2, .int x2), (3, .int x3), (4, .int x4), (5, .int x5), (6, .int x6)]) hx hb dX5_heaviest_65 hl (by decide) rfl (fun ls hl => ?_)
            refine lv_aload_n hx hb dX5_heaviest_67 rfl (lv_at hl 1 rfl) ?_
            refine va_get (D := D) (ci := 5) (v := .ref (ad 7)) (C := RX5) (T := TX5) (N := 12) hx hb hts iX5 hown hK hP 0 rfl rfl 2 (Nat.le_of_ble_eq_true rfl) f26 (fun _ h9 => h9) rfl dX5_heaviest_68 ?_
            refine lv_iload hx hb dX5_heaviest_71 (lv_at hl 0 rfl) ?_
            refine lv_iload_n hx hb dX5_heaviest_73 rfl (lv_at hl 2 rfl) ?_
            refine lv_iload_n hx hb dX5_heaviest_74 rfl (lv_at hl 3 rfl) ?_
            obtain ⟨q9, eq9, h⟩ := e_b h
            refine xv_i (As := [.int v8, .int x1, .int x2]) (rest := []) (ci := 2) (b := ad 7) ⟨hx, hb, hml, hown, hts⟩ hl.1 (kX2_weightOf l D cA (fun i => ad (7 + i)) row v8 x1 x2 _ eq9) (cwV 3 hts gX5_heaviest_X2_weightOf rfl rfl rfl (by decide +kernel) ⟨Nat.le_of_ble_eq_true rfl, Nat.le_of_ble_eq_true rfl⟩) rfl hK hP hD hS hA 1 rfl rfl rfl [1, 2, 3] rfl (by decide +kernel) rfl (Nat.le_of_ble_eq_true rfl) dX5_heaviest_75 ⟨Nat.zero_le _, Nat.zero_le _⟩ (fun H locs hP hD hS hnq9 => ?_)
            have hP : va_P D vwCl (wD_row_tally cA ad block ties lines pmn row tally) H := hP
            have hD : va_D A (wD_row_tally cA ad block ties lines pmn row tally) := hD
            refine lv_istore (lv' := [(8, .int q9), (7, .int v8), (0, .ref (ad 0)), (1, .int x1), (2, .int x2), (3, .int x3), (4, .int x4), (5, .int x5), (6, .int x6)]) hx hb dX5_heaviest_78 hl (by decide) rfl (fun ls hl => ?_)
            refine lv_iload hx hb dX5_heaviest_80 (lv_at hl 0 rfl) ?_
            refine lv_iload hx hb dX5_heaviest_82 (lv_at hl 7 rfl) ?_
            refine lv_icmp_gt (tgt := 108) hx hb dX5_heaviest_84 (by decide) (fun c10 => ?_) (fun c10 => ?_)
            · have h := e_t c10 h
              refine lv_iload hx hb dX5_heaviest_108 (lv_at hl 1 rfl) ?_
              refine lv_istore (lv' := [(4, .int v8), (8, .int q9), (7, .int v8), (0, .ref (ad 0)), (1, .int x1), (2, .int x2), (3, .int x3), (5, .int x5), (6, .int x6)]) hx hb dX5_heaviest_110 hl (by decide) rfl (fun ls hl => ?_)
              refine lv_iload hx hb dX5_heaviest_112 (lv_at hl 1 rfl) ?_
              refine lv_istore (lv' := [(5, .int q9), (4, .int v8), (8, .int q9), (7, .int v8), (0, .ref (ad 0)), (1, .int x1), (2, .int x2), (3, .int x3), (6, .int x6)]) hx hb dX5_heaviest_114 hl (by decide) rfl (fun ls hl => ?_)
              refine lv_iinc (v := (x6 + 1)) (lv' := [(6, .int (x6 + 1)), (5, .int q9), (4, .int v8), (8, .int q9), (7, .int v8), (0, .ref (ad 0)), (1, .int x1), (2, .int x2), (3, .int x3)]) hx hb dX5_heaviest_116 hl (k := 8) rfl rfl (by decide) rfl (fun ls hl => ?_)
              refine lv_goto (tgt := 43) hx hb dX5_heaviest_119 (by decide) ?_
              exact ih43 x1 x2 x3 v8 q9 (x6 + 1) block ties lines pmn row tally z6 _ _ _ (lv_sub hl [5, 6, 7, 8, 2, 1, 0] rfl) hP hD hS h hk43
            · have h := e_f c10 h
              refine lv_iload hx hb dX5_heaviest_87 (lv_at hl 0 rfl) ?_
              refine lv_iload hx hb dX5_heaviest_89 (lv_at hl 7 rfl) ?_
              refine lv_icmp_ne (tgt := 116) hx hb dX5_heaviest_91 (by decide) (fun c11 => ?_) (fun c11 => ?_)
              · have h := e_t c11 h
                refine lv_iinc (v := (x6 + 1)) (lv' := [(6, .int (x6 + 1)), (8, .int q9), (7, .int v8), (0, .ref (ad 0)), (1, .int x1), (2, .int x2), (3, .int x3), (4, .int x4), (5, .int x5)]) hx hb dX5_heaviest_116 hl (k := 8) rfl rfl (by decide) rfl (fun ls hl => ?_)
                refine lv_goto (tgt := 43) hx hb dX5_heaviest_119 (by decide) ?_
                exact ih43 x1 x2 x3 x4 x5 (x6 + 1) block ties lines pmn row tally z6 _ _ _ (lv_sub hl [3, 4, 5, 6, 7, 8, 0] rfl) hP hD hS h hk43
              · have h := e_f (not_not_intro c11) h
                refine lv_aload_n hx hb dX5_heaviest_94 rfl (lv_at hl 2 rfl) ?_
                refine va_get (D := D) (ci := 5) (v := .ref (ad 51)) (C := RX5) (T := TX5) (N := 12) hx hb hts iX5 hown hK hP 0 rfl rfl 5 (Nat.le_of_ble_eq_true rfl) f43 (fun _ h9 => h9) rfl dX5_heaviest_95 ?_
                refine lv_iload hx hb dX5_heaviest_98 (lv_at hl 1 rfl) ?_
                refine lv_iload hx hb dX5_heaviest_100 (lv_at hl 6 rfl) ?_
                obtain ⟨q12, eq12, h⟩ := e_b h
                refine xv_i (As := [.int v8, .int x4]) (rest := []) (ci := 3) (b := ad 51) ⟨hx, hb, hml, hown, hts⟩ hl.1 (kX3_isAhead l D cA (fun i => ad (51 + i)) tally v8 x4 _ eq12) (cwV 2 hts gX5_heaviest_X3_isAhead rfl rfl rfl (by decide +kernel) ⟨Nat.le_of_ble_eq_true rfl, Nat.le_of_ble_eq_true rfl⟩) rfl hK hP hD hS hA 4 rfl rfl rfl [4, 5, 6, 7, 8] rfl (by decide +kernel) rfl (Nat.le_of_ble_eq_true rfl) dX5_heaviest_102 ⟨Nat.zero_le _, Nat.zero_le _⟩ (fun H locs hP hD hS hnq12 => ?_)
                have hP : va_P D vwCl (wD_row_tally cA ad block ties lines pmn row tally) H := hP
                have hD : va_D A (wD_row_tally cA ad block ties lines pmn row tally) := hD
                refine lv_if_eq (tgt := 116) hx hb dX5_heaviest_105 (by decide) (fun c13 => ?_) (fun c13 => ?_)
                · have h := e_t c13 h
                  refine lv_iinc (v := (x6 + 1)) (lv' := [(6, .int (x6 + 1)), (8, .int q9), (7, .int v8), (0, .ref (ad 0)), (1, .int x1), (2, .int x2), (3, .int x3), (4, .int x4), (5, .int x5)]) hx hb dX5_heaviest_116 hl (k := 8) rfl rfl (by decide) rfl (fun ls hl => ?_)
                  refine lv_goto (tgt := 43) hx hb dX5_heaviest_119 (by decide) ?_
                  exact ih43 x1 x2 x3 x4 x5 (x6 + 1) block ties lines pmn row tally z6 _ _ _ (lv_sub hl [3, 4, 5, 6, 7, 8, 0] rfl) hP hD hS h hk43
                · have h := e_f c13 h
                  refine lv_iload hx hb dX5_heaviest_108 (lv_at hl 1 rfl) ?_
                  refine lv_istore (lv' := [(4, .int v8), (8, .int q9), (7, .int v8), (0, .ref (ad 0)), (1, .int x1), (2, .int x2), (3, .int x3), (5, .int x5), (6, .int x6)]) hx hb dX5_heaviest_110 hl (by decide) rfl (fun ls hl => ?_)
                  refine lv_iload hx hb dX5_heaviest_112 (lv_at hl 1 rfl) ?_
                  refine lv_istore (lv' := [(5, .int q9), (4, .int v8), (8, .int q9), (7, .int v8), (0, .ref (ad 0)), (1, .int x1), (2, .int x2), (3, .int x3), (6, .int x6)]) hx hb dX5_heaviest_114 hl (by decide) rfl (fun ls hl => ?_)
                  refine lv_iinc (v := (x6 + 1)) (lv' := [(6, .int (x6 + 1)), (5, .int q9), (4, .int v8), (8, .int q9), (7, .int v8), (0, .ref (ad 0)), (1, .int x1), (2, .int x2), (3, .int x3)]) hx hb dX5_heaviest_116 hl (k := 8) rfl rfl (by decide) rfl (fun ls hl => ?_)
                  refine lv_goto (tgt := 43) hx hb dX5_heaviest_119 (by decide) ?_
                  exact ih43 x1 x2 x3 v8 q9 (x6 + 1) block ties lines pmn row tally z6 _ _ _ (lv_sub hl [5, 6, 7, 8, 2, 1, 0] rfl) hP hD hS h hk43
      obtain ⟨z14, ez14, h⟩ := e_b h
      refine hL43 FU x1 x2 x3 q5.2.2.2.2.2.2.1 0 0 block ties lines pmn row q5 z14 _ _ _ (lv_sub hl [3, 4, 5, 6, 2, 1, 0] rfl) hP hD hS ez14 (fun ls H locs hl hP hD hS => ?_)
      refine lv_iload_n hx hb dX5_heaviest_122 rfl (lv_at hl 0 rfl) ?_
      refine lv_if_ne (tgt := 131) hx hb dX5_heaviest_123 (by decide) (fun c15 => ?_) (fun c15 => ?_)
      · have h := e_t c15 h
        refine lv_iload hx hb dX5_heaviest_131 (lv_at hl 2 rfl) ?_
        obtain rfl := e_s h
        exact hret hP hS rfl dX5_heaviest_133
      · have h := e_f (not_not_intro c15) h
        refine lv_iload hx hb dX5_heaviest_126 (lv_at hl 1 rfl) ?_
        refine lv_goto (tgt := 133) hx hb dX5_heaviest_128 (by decide) ?_
        obtain rfl := e_s h
        exact hret hP hS rfl dX5_heaviest_133
    · have h := e_f (not_not_intro c4) h
      refine lv_iconst (v := (-1)) hx hb dX5_heaviest_20 (by decide) ?_
      obtain rfl := e_s h
      exact hret hP hS rfl dX5_heaviest_21
set_option maxHeartbeats 4000000 in
set_option maxRecDepth 100000 in
theorem kX5_lead (l : Launch) (D : va_G) (cA : Nat → ClassId) (ad : Nat → Nat) (block : Int32) (ties : Int32) (lines : Int32) (pmn : Int32) (row : RowT) (tally : TalT) (x1 : Int32) (x2 : Int32) (q : Int32 × TalT) (h : mX5_lead ties row tally x1 x2 = some q) : MI l yX5_lead wsX5_lead { frames := 3, cells := 0, slots := 0, locals := 66 } D cA .int [.ref (ad 0), .int x1, .int x2] (wD_row_tally cA ad block ties lines pmn row tally) (wD_row_tally cA ad block ties lines pmn row q.2) q.1 := by
  refine MI.of (cc := cX5_lead) (maxL := 6) (by decide +kernel) rfl rfl rfl (Nat.le_of_ble_eq_true rfl) ?_
  intro p e s m args below meth c A ls Q hx hb hml hts hown hK hP hD hA hS hl hret
  have hl : lv_has ls 6 [(0, .ref (ad 0)), (1, .int x1), (2, .int x2)] := hl
  have f176 := hts (.fieldLink RX5 176 "ModeDesk$Tally" "best" "I") (by decide +kernel)
  have f182 := hts (.fieldLink RX5 182 "ModeDesk$Tally" "kinds" "I") (by decide +kernel)
  have f187 := hts (.fieldLink RX5 187 "ModeDesk$Tally" "kind" "[I") (by decide +kernel)
  have f190 := hts (.fieldLink RX5 190 "ModeDesk$Tally" "number" "[I") (by decide +kernel)
  have f26 := hts (.fieldLink RX5 26 "ModeDesk" "row" "LModeDesk$Row;") (by decide +kernel)
  have f43 := hts (.fieldLink RX5 43 "ModeDesk" "tally" "LModeDesk$Tally;") (by decide +kernel)
  have iX3 : ∀ w ∈ wsX30, w ∈ wsX5_lead := by decide +kernel
  have iX5 : ∀ w ∈ wsX50, w ∈ wsX5_lead := by decide +kernel
  unfold mX5_lead at h
  refine lv_aload_n hx hb dX5_lead_0 rfl (lv_at hl 0 rfl) ?_
  refine va_get (D := D) (ci := 5) (v := .ref (ad 7)) (C := RX5) (T := TX5) (N := 12) hx hb hts iX5 hown hK hP 0 rfl rfl 2 (Nat.le_of_ble_eq_true rfl) f26 (fun _ h9 => h9) rfl dX5_lead_1 ?_
  refine lv_iload_n hx hb dX5_lead_4 rfl (lv_at hl 1 rfl) ?_
  refine lv_iload_n hx hb dX5_lead_5 rfl (lv_at hl 2 rfl) ?_
  obtain ⟨q1, eq1, h⟩ := e_b h
  refine xv_i (As := [.int x1, .int x2]) (rest := []) (ci := 2) (b := ad 7) ⟨hx, hb, hml, hown, hts⟩ hl.1 (kX2_hasSpan l D cA (fun i => ad (7 + i)) row x1 x2 _ eq1) (cwV 2 hts gX5_lead_X2_hasSpan rfl rfl rfl (by decide +kernel) ⟨Nat.le_of_ble_eq_true rfl, Nat.le_of_ble_eq_true rfl⟩) rfl hK hP hD hS hA 1 rfl rfl rfl [1, 2, 3] rfl (by decide +kernel) rfl (Nat.le_of_ble_eq_true rfl) dX5_lead_6 ⟨Nat.zero_le _, Nat.zero_le _⟩ (fun H locs hP hD hS hnq1 => ?_)
  have hP : va_P D vwCl (wD_row_tally cA ad block ties lines pmn row tally) H := hP
  have hD : va_D A (wD_row_tally cA ad block ties lines pmn row tally) := hD
  refine lv_if_ne (tgt := 14) hx hb dX5_lead_9 (by decide) (fun c2 => ?_) (fun c2 => ?_)
  · have h := e_t c2 h
    refine lv_aload_n hx hb dX5_lead_14 rfl (lv_at hl 0 rfl) ?_
    refine lv_iload_n hx hb dX5_lead_15 rfl (lv_at hl 1 rfl) ?_
    refine lv_iload_n hx hb dX5_lead_16 rfl (lv_at hl 2 rfl) ?_
    obtain ⟨q3, eq3, h⟩ := e_b h
    refine xv_v (As := [.int x1, .int x2]) (rest := []) (ci := 5) (b := ad 0) ⟨hx, hb, hml, hown, hts⟩ hl.1 (kX5_tallySpan l D cA ad block ties lines pmn row tally x1 x2 _ eq3) (cwV 2 hts gX5_lead_X5_tallySpan rfl rfl rfl (by decide +kernel) ⟨Nat.le_of_ble_eq_true rfl, Nat.le_of_ble_eq_true rfl⟩) rfl hK hP hD hS hA 0 rfl rfl rfl [0, 1, 2, 3, 4, 5, 6, 7, 8] rfl (by decide +kernel) rfl (Nat.le_of_ble_eq_true rfl) dX5_lead_17 ⟨Nat.zero_le _, Nat.zero_le _⟩ (fun H locs hP hD hS => ?_)
    have hP : va_P D vwCl (wD_row_tally cA ad block ties lines pmn row q3) H := hP
    have hD : va_D A (wD_row_tally cA ad block ties lines pmn row q3) := hD
    refine lv_iconst (v := 0) hx hb dX5_lead_20 (by decide) ?_
    refine lv_istore_n (lv' := [(3, .int 0), (0, .ref (ad 0)), (1, .int x1), (2, .int x2)]) hx hb dX5_lead_21 rfl hl (by decide) rfl (fun ls hl => ?_)
    refine lv_iconst (v := 0) hx hb dX5_lead_22 (by decide) ?_
    refine lv_istore (lv' := [(4, .int 0), (3, .int 0), (0, .ref (ad 0)), (1, .int x1), (2, .int x2)]) hx hb dX5_lead_23 hl (by decide) rfl (fun ls hl => ?_)
    have hL25 : ∀ (n : Nat) (x3 : Int32) (x4 : Int32) (block : Int32) (ties : Int32) (lines : Int32) (pmn : Int32) (row : RowT) (tally : TalT) (z4 : Int32) (ls : Array Slot) (H : Heap) (locs : List Loc), lv_has ls 6 [(0, .ref (ad 0)), (3, .int x3), (4, .int x4)] → va_P D vwCl (wD_row_tally cA ad block ties lines pmn row tally) H → va_D A (wD_row_tally cA ad block ties lines pmn row tally) → va_S A s.heap H locs → mX5_lead_L25 tally n x3 x4 = some z4 → (∀ (ls : Array Slot) (H : Heap) (locs : List Loc), lv_has ls 6 [(0, .ref (ad 0)), (3, .int z4)] → va_P D vwCl (wD_row_tally cA ad block ties lines pmn row tally) H → va_D A (wD_row_tally cA ad block ties lines pmn row tally) → va_S A s.heap H locs → W p l e (headSpec wsX5_lead { frames := 3, cells := 0, slots := 0, locals := 66 }).room s m args below meth c H locs 0 0 Q (F0 m 82 ls [])) → W p l e (headSpec wsX5_lead { frames := 3, cells := 0, slots := 0, locals := 66 }).room s m args below meth c H locs 0 0 Q (F0 m 25 ls []) := by
      intro n
      induction n with
      | zero => intro x3 x4 block ties lines pmn row tally z4 ls H locs hl hP hD hS h hk25; exact e_n h
      | succ n ih25 =>
        intro x3 x4 block ties lines pmn row tally z4 ls H locs hl hP hD hS h hk25
        rw [mX5_lead_L25.eq_2] at h
        refine lv_iload hx hb dX5_lead_25 (lv_at hl 2 rfl) ?_
        refine lv_aload_n hx hb dX5_lead_27 rfl (lv_at hl 0 rfl) ?_
        refine va_get (D := D) (ci := 5) (v := .ref (ad 51)) (C := RX5) (T := TX5) (N := 12) hx hb hts iX5 hown hK hP 0 rfl rfl 5 (Nat.le_of_ble_eq_true rfl) f43 (fun _ h9 => h9) rfl dX5_lead_28 ?_
        refine va_get (D := D) (ci := 3) (v := .int tally.2.2.2.2.1) (C := RX3) (T := TX3) (N := 8) hx hb hts iX3 hown hK hP 4 rfl rfl 4 (Nat.le_of_ble_eq_true rfl) f182 (fun _ h9 => h9) rfl dX5_lead_31 ?_
        refine lv_icmp_ge (tgt := 82) hx hb dX5_lead_34 (by decide) (fun c5 => ?_) (fun c5 => ?_)
        · have h := e_t c5 h
          obtain rfl := e_s h
          exact hk25 _ _ _ (lv_sub hl [0, 1] rfl) hP hD hS
        · have h := e_f c5 h
          refine lv_aload_n hx hb dX5_lead_37 rfl (lv_at hl 0 rfl) ?_
          refine va_get (D := D) (ci := 5) (v := .ref (ad 51)) (C := RX5) (T := TX5) (N := 12) hx hb hts iX5 hown hK hP 0 rfl rfl 5 (Nat.le_of_ble_eq_true rfl) f43 (fun _ h9 => h9) rfl dX5_lead_38 ?_
          refine va_get (D := D) (ci := 3) (v := .ref (ad 55)) (C := RX3) (T := TX3) (N := 8) hx hb hts iX3 hown hK hP 4 rfl rfl 3 (Nat.le_of_ble_eq_true rfl) f187 (fun _ h9 => h9) rfl dX5_lead_41 ?_
          refine lv_iload hx hb dX5_lead_44 (lv_at hl 2 rfl) ?_
          obtain ⟨v6, ev6, nv6, h⟩ := e_rd h
          refine xa_iald hx hb hK hP 8 rfl nv6 ev6 dX5_lead_46 ?_
          refine lv_istore (lv' := [(5, .int v6), (0, .ref (ad 0)), (3, .int x3), (4, .int x4)]) hx hb dX5_lead_47 hl (by decide) rfl (fun ls hl => ?_)
          refine lv_iload hx hb dX5_lead_49 (lv_at hl 0 rfl) ?_
          refine lv_aload_n hx hb dX5_lead_51 rfl (lv_at hl 1 rfl) ?_
          refine va_get (D := D) (ci := 5) (v := .ref (ad 51)) (C := RX5) (T := TX5) (N := 12) hx hb hts iX5 hown hK hP 0 rfl rfl 5 (Nat.le_of_ble_eq_true rfl) f43 (fun _ h9 => h9) rfl dX5_lead_52 ?_
          refine va_get (D := D) (ci := 3) (v := .int tally.2.2.2.2.2.2.1) (C := RX3) (T := TX3) (N := 8) hx hb hts iX3 hown hK hP 4 rfl rfl 6 (Nat.le_of_ble_eq_true rfl) f176 (fun _ h9 => h9) rfl dX5_lead_55 ?_
          refine lv_icmp_eq (tgt := 76) hx hb dX5_lead_58 (by decide) (fun c7 => ?_) (fun c7 => ?_)
          · have h := e_t c7 h
            refine lv_iinc (v := (x4 + 1)) (lv' := [(4, .int (x4 + 1)), (5, .int v6), (0, .ref (ad 0)), (3, .int x3)]) hx hb dX5_lead_76 hl (k := 3) rfl rfl (by decide) rfl (fun ls hl => ?_)
            refine lv_goto (tgt := 25) hx hb dX5_lead_79 (by decide) ?_
            exact ih25 x3 (x4 + 1) block ties lines pmn row tally z4 _ _ _ (lv_sub hl [2, 3, 0] rfl) hP hD hS h hk25
          · have h := e_f c7 h
            refine lv_iload_n hx hb dX5_lead_61 rfl (lv_at hl 2 rfl) ?_
            refine lv_aload_n hx hb dX5_lead_62 rfl (lv_at hl 1 rfl) ?_
            refine va_get (D := D) (ci := 5) (v := .ref (ad 51)) (C := RX5) (T := TX5) (N := 12) hx hb hts iX5 hown hK hP 0 rfl rfl 5 (Nat.le_of_ble_eq_true rfl) f43 (fun _ h9 => h9) rfl dX5_lead_63 ?_
            refine va_get (D := D) (ci := 3) (v := .ref (ad 52)) (C := RX3) (T := TX3) (N := 8) hx hb hts iX3 hown hK hP 4 rfl rfl 0 (Nat.le_of_ble_eq_true rfl) f190 (fun _ h9 => h9) rfl dX5_lead_66 ?_
            refine lv_iload hx hb dX5_lead_69 (lv_at hl 0 rfl) ?_
            obtain ⟨v8, ev8, nv8, h⟩ := e_rd h
            refine xa_iald hx hb hK hP 5 rfl nv8 ev8 dX5_lead_71 ?_
            refine va_mmax hx hb (by rw [hml, hl.1]) hown (hts (.methodLink RX5 203 Lib.Math.max.name) (by decide +kernel)) (hts (.static Lib.Math.max.name) (by decide +kernel)) (hts (.initialized "java/lang/Math") (by decide +kernel)) (hts (.code Lib.Math.max.name Lib.Math.max.code 2 (some .int)) (by decide +kernel)) (Nat.le_of_ble_eq_true rfl) (Nat.le_of_ble_eq_true rfl) (Nat.zero_le _) (Nat.zero_le _) dX5_lead_72 ?_
            refine lv_istore_n (lv' := [(3, .int (if x3 < v8 then v8 else x3)), (5, .int v6), (0, .ref (ad 0)), (4, .int x4)]) hx hb dX5_lead_75 rfl hl (by decide) rfl (fun ls hl => ?_)
            refine lv_iinc (v := (x4 + 1)) (lv' := [(4, .int (x4 + 1)), (3, .int (if x3 < v8 then v8 else x3)), (5, .int v6), (0, .ref (ad 0))]) hx hb dX5_lead_76 hl (k := 3) rfl rfl (by decide) rfl (fun ls hl => ?_)
            refine lv_goto (tgt := 25) hx hb dX5_lead_79 (by decide) ?_
            exact ih25 (if x3 < v8 then v8 else x3) (x4 + 1) block ties lines pmn row tally z4 _ _ _ (lv_sub hl [3, 1, 0] rfl) hP hD hS h hk25
    obtain ⟨z9, ez9, h⟩ := e_b h
    refine hL25 FU 0 0 block ties lines pmn row q3 z9 _ _ _ (lv_sub hl [2, 1, 0] rfl) hP hD hS ez9 (fun ls H locs hl hP hD hS => ?_)
    refine lv_aload_n hx hb dX5_lead_82 rfl (lv_at hl 0 rfl) ?_
    refine va_get (D := D) (ci := 5) (v := .ref (ad 51)) (C := RX5) (T := TX5) (N := 12) hx hb hts iX5 hown hK hP 0 rfl rfl 5 (Nat.le_of_ble_eq_true rfl) f43 (fun _ h9 => h9) rfl dX5_lead_83 ?_
    obtain ⟨q10, eq10, h⟩ := e_b h
    refine xv_i (As := []) (rest := []) (ci := 3) (b := ad 51) ⟨hx, hb, hml, hown, hts⟩ hl.1 (kX3_most l D cA (fun i => ad (51 + i)) q3  _ eq10) (cwV 0 hts gX5_lead_X3_most rfl rfl rfl (by decide +kernel) ⟨Nat.le_of_ble_eq_true rfl, Nat.le_of_ble_eq_true rfl⟩) rfl hK hP hD hS hA 4 rfl rfl rfl [4, 5, 6, 7, 8] rfl (by decide +kernel) rfl (Nat.le_of_ble_eq_true rfl) dX5_lead_86 ⟨Nat.zero_le _, Nat.zero_le _⟩ (fun H locs hP hD hS hnq10 => ?_)
    have hP : va_P D vwCl (wD_row_tally cA ad block ties lines pmn row q3) H := hP
    have hD : va_D A (wD_row_tally cA ad block ties lines pmn row q3) := hD
    refine lv_iload_n hx hb dX5_lead_89 rfl (lv_at hl 1 rfl) ?_
    refine lv_isub hx hb dX5_lead_90 ?_
    obtain rfl := e_s h
    exact hret hP hS rfl dX5_lead_91
  · have h := e_f (not_not_intro c2) h
    refine lv_iconst (v := (-1)) hx hb dX5_lead_12 (by decide) ?_
    obtain rfl := e_s h
    exact hret hP hS rfl dX5_lead_13
set_option maxHeartbeats 4000000 in
set_option maxRecDepth 100000 in
theorem kX5_rarest (l : Launch) (D : va_G) (cA : Nat → ClassId) (ad : Nat → Nat) (block : Int32) (ties : Int32) (lines : Int32) (pmn : Int32) (row : RowT) (tally : TalT) (x1 : Int32) (x2 : Int32) (x3 : Int32) (q : Int32 × TalT) (h : mX5_rarest ties row tally x1 x2 x3 = some q) : MI l yX5_rarest wsX5_rarest { frames := 3, cells := 0, slots := 0, locals := 66 } D cA .int [.ref (ad 0), .int x1, .int x2, .int x3] (wD_row_tally cA ad block ties lines pmn row tally) (wD_row_tally cA ad block ties lines pmn row q.2) q.1 := by
  refine MI.of (cc := cX5_rarest) (maxL := 6) (by decide +kernel) rfl rfl rfl (Nat.le_of_ble_eq_true rfl) ?_
  intro p e s m args below meth c A ls Q hx hb hml hts hown hK hP hD hA hS hl hret
  have hl : lv_has ls 6 [(0, .ref (ad 0)), (1, .int x1), (2, .int x2), (3, .int x3)] := hl
  have f176 := hts (.fieldLink RX5 176 "ModeDesk$Tally" "best" "I") (by decide +kernel)
  have f182 := hts (.fieldLink RX5 182 "ModeDesk$Tally" "kinds" "I") (by decide +kernel)
  have f187 := hts (.fieldLink RX5 187 "ModeDesk$Tally" "kind" "[I") (by decide +kernel)
  have f26 := hts (.fieldLink RX5 26 "ModeDesk" "row" "LModeDesk$Row;") (by decide +kernel)
  have f43 := hts (.fieldLink RX5 43 "ModeDesk" "tally" "LModeDesk$Tally;") (by decide +kernel)
  have iX3 : ∀ w ∈ wsX30, w ∈ wsX5_rarest := by decide +kernel
  have iX5 : ∀ w ∈ wsX50, w ∈ wsX5_rarest := by decide +kernel
  unfold mX5_rarest at h
  refine lv_aload_n hx hb dX5_rarest_0 rfl (lv_at hl 0 rfl) ?_
  refine va_get (D := D) (ci := 5) (v := .ref (ad 7)) (C := RX5) (T := TX5) (N := 12) hx hb hts iX5 hown hK hP 0 rfl rfl 2 (Nat.le_of_ble_eq_true rfl) f26 (fun _ h9 => h9) rfl dX5_rarest_1 ?_
  refine lv_iload_n hx hb dX5_rarest_4 rfl (lv_at hl 1 rfl) ?_
  refine lv_iload_n hx hb dX5_rarest_5 rfl (lv_at hl 2 rfl) ?_
  obtain ⟨q1, eq1, h⟩ := e_b h
  refine xv_i (As := [.int x1, .int x2]) (rest := []) (ci := 2) (b := ad 7) ⟨hx, hb, hml, hown, hts⟩ hl.1 (kX2_hasSpan l D cA (fun i => ad (7 + i)) row x1 x2 _ eq1) (cwV 2 hts gX5_rarest_X2_hasSpan rfl rfl rfl (by decide +kernel) ⟨Nat.le_of_ble_eq_true rfl, Nat.le_of_ble_eq_true rfl⟩) rfl hK hP hD hS hA 1 rfl rfl rfl [1, 2, 3] rfl (by decide +kernel) rfl (Nat.le_of_ble_eq_true rfl) dX5_rarest_6 ⟨Nat.zero_le _, Nat.zero_le _⟩ (fun H locs hP hD hS hnq1 => ?_)
  have hP : va_P D vwCl (wD_row_tally cA ad block ties lines pmn row tally) H := hP
  have hD : va_D A (wD_row_tally cA ad block ties lines pmn row tally) := hD
  refine lv_if_eq (tgt := 20) hx hb dX5_rarest_9 (by decide) (fun c2 => ?_) (fun c2 => ?_)
  · have h := e_t c2 h
    refine lv_iconst (v := (-1)) hx hb dX5_rarest_20 (by decide) ?_
    obtain rfl := e_s h
    exact hret hP hS rfl dX5_rarest_21
  · have h := e_f c2 h
    refine lv_iload_n hx hb dX5_rarest_12 rfl (lv_at hl 3 rfl) ?_
    refine lv_iconst (v := 4) hx hb dX5_rarest_13 (by decide) ?_
    obtain ⟨q3, eq3, h⟩ := e_b h
    refine xs_i (As := [.int x3, .int 4]) (rest := []) ⟨hx, hb, hml, hown, hts⟩ hl.1 (kX5_isBelow l D cA   x3 4 _ eq3) (va_cwS 2 hts gX5_rarest_X5_isBelow rfl rfl rfl (by decide +kernel) ⟨Nat.le_of_ble_eq_true rfl, Nat.le_of_ble_eq_true rfl⟩) rfl hK hP hD hS hA [] rfl (by decide +kernel) rfl (Nat.le_of_ble_eq_true rfl) dX5_rarest_14 ⟨Nat.zero_le _, Nat.zero_le _⟩ (fun H locs hP hD hS hnq3 => ?_)
    have hP : va_P D vwCl (wD_row_tally cA ad block ties lines pmn row tally) H := hP
    have hD : va_D A (wD_row_tally cA ad block ties lines pmn row tally) := hD
    refine lv_if_ne (tgt := 22) hx hb dX5_rarest_17 (by decide) (fun c4 => ?_) (fun c4 => ?_)
    · have h := e_t c4 h
      refine lv_aload_n hx hb dX5_rarest_22 rfl (lv_at hl 0 rfl) ?_
      refine lv_iload_n hx hb dX5_rarest_23 rfl (lv_at hl 1 rfl) ?_
      refine lv_iload_n hx hb dX5_rarest_24 rfl (lv_at hl 2 rfl) ?_
      obtain ⟨q5, eq5, h⟩ := e_b h
      refine xv_v (As := [.int x1, .int x2]) (rest := []) (ci := 5) (b := ad 0) ⟨hx, hb, hml, hown, hts⟩ hl.1 (kX5_tallySpan l D cA ad block ties lines pmn row tally x1 x2 _ eq5) (cwV 2 hts gX5_rarest_X5_tallySpan rfl rfl rfl (by decide +kernel) ⟨Nat.le_of_ble_eq_true rfl, Nat.le_of_ble_eq_true rfl⟩) rfl hK hP hD hS hA 0 rfl rfl rfl [0, 1, 2, 3, 4, 5, 6, 7, 8] rfl (by decide +kernel) rfl (Nat.le_of_ble_eq_true rfl) dX5_rarest_25 ⟨Nat.zero_le _, Nat.zero_le _⟩ (fun H locs hP hD hS => ?_)
      have hP : va_P D vwCl (wD_row_tally cA ad block ties lines pmn row q5) H := hP
      have hD : va_D A (wD_row_tally cA ad block ties lines pmn row q5) := hD
      refine lv_aload_n hx hb dX5_rarest_28 rfl (lv_at hl 0 rfl) ?_
      refine va_get (D := D) (ci := 5) (v := .ref (ad 51)) (C := RX5) (T := TX5) (N := 12) hx hb hts iX5 hown hK hP 0 rfl rfl 5 (Nat.le_of_ble_eq_true rfl) f43 (fun _ h9 => h9) rfl dX5_rarest_29 ?_
      refine va_get (D := D) (ci := 3) (v := .int q5.2.2.2.2.2.2.1) (C := RX3) (T := TX3) (N := 8) hx hb hts iX3 hown hK hP 4 rfl rfl 6 (Nat.le_of_ble_eq_true rfl) f176 (fun _ h9 => h9) rfl dX5_rarest_32 ?_
      refine lv_istore (lv' := [(4, .int q5.2.2.2.2.2.2.1), (0, .ref (ad 0)), (1, .int x1), (2, .int x2), (3, .int x3)]) hx hb dX5_rarest_35 hl (by decide) rfl (fun ls hl => ?_)
      refine lv_iconst (v := 0) hx hb dX5_rarest_37 (by decide) ?_
      refine lv_istore (lv' := [(5, .int 0), (4, .int q5.2.2.2.2.2.2.1), (0, .ref (ad 0)), (1, .int x1), (2, .int x2), (3, .int x3)]) hx hb dX5_rarest_38 hl (by decide) rfl (fun ls hl => ?_)
      have hL40 : ∀ (n : Nat) (x1 : Int32) (x3 : Int32) (x4 : Int32) (x5 : Int32) (block : Int32) (ties : Int32) (lines : Int32) (pmn : Int32) (row : RowT) (tally : TalT) (z6 : Int32) (ls : Array Slot) (H : Heap) (locs : List Loc), lv_has ls 6 [(0, .ref (ad 0)), (1, .int x1), (3, .int x3), (4, .int x4), (5, .int x5)] → va_P D vwCl (wD_row_tally cA ad block ties lines pmn row tally) H → va_D A (wD_row_tally cA ad block ties lines pmn row tally) → va_S A s.heap H locs → mX5_rarest_L40 tally n x4 x5 = some z6 → (∀ (ls : Array Slot) (H : Heap) (locs : List Loc), lv_has ls 6 [(0, .ref (ad 0)), (1, .int x1), (3, .int x3), (4, .int z6)] → va_P D vwCl (wD_row_tally cA ad block ties lines pmn row tally) H → va_D A (wD_row_tally cA ad block ties lines pmn row tally) → va_S A s.heap H locs → W p l e (headSpec wsX5_rarest { frames := 3, cells := 0, slots := 0, locals := 66 }).room s m args below meth c H locs 0 0 Q (F0 m 92 ls [])) → W p l e (headSpec wsX5_rarest { frames := 3, cells := 0, slots := 0, locals := 66 }).room s m args below meth c H locs 0 0 Q (F0 m 40 ls []) := by
        intro n
        induction n with
        | zero => intro x1 x3 x4 x5 block ties lines pmn row tally z6 ls H locs hl hP hD hS h hk40; exact e_n h
        | succ n ih40 =>
          intro x1 x3 x4 x5 block ties lines pmn row tally z6 ls H locs hl hP hD hS h hk40
          rw [mX5_rarest_L40.eq_2] at h
          refine lv_iload hx hb dX5_rarest_40 (lv_at hl 4 rfl) ?_
          refine lv_aload_n hx hb dX5_rarest_42 rfl (lv_at hl 0 rfl) ?_
          refine va_get (D := D) (ci := 5) (v := .ref (ad 51)) (C := RX5) (T := TX5) (N := 12) hx hb hts iX5 hown hK hP 0 rfl rfl 5 (Nat.le_of_ble_eq_true rfl) f43 (fun _ h9 => h9) rfl dX5_rarest_43 ?_
          refine va_get (D := D) (ci := 3) (v := .int tally.2.2.2.2.1) (C := RX3) (T := TX3) (N := 8) hx hb hts iX3 hown hK hP 4 rfl rfl 4 (Nat.le_of_ble_eq_true rfl) f182 (fun _ h9 => h9) rfl dX5_rarest_46 ?_
          refine lv_icmp_ge (tgt := 92) hx hb dX5_rarest_49 (by decide) (fun c7 => ?_) (fun c7 => ?_)
          · have h := e_t c7 h
            obtain rfl := e_s h
            exact hk40 _ _ _ (lv_sub hl [0, 1, 2, 3] rfl) hP hD hS
          · have h := e_f c7 h
            refine lv_aload_n hx hb dX5_rarest_52 rfl (lv_at hl 0 rfl) ?_
            refine va_get (D := D) (ci := 5) (v := .ref (ad 51)) (C := RX5) (T := TX5) (N := 12) hx hb hts iX5 hown hK hP 0 rfl rfl 5 (Nat.le_of_ble_eq_true rfl) f43 (fun _ h9 => h9) rfl dX5_rarest_53 ?_
            refine lv_iload hx hb dX5_rarest_56 (lv_at hl 3 rfl) ?_
            refine lv_aload_n hx hb dX5_rarest_58 rfl (lv_at hl 0 rfl) ?_
            refine va_get (D := D) (ci := 5) (v := .ref (ad 51)) (C := RX5) (T := TX5) (N := 12) hx hb hts iX5 hown hK hP 0 rfl rfl 5 (Nat.le_of_ble_eq_true rfl) f43 (fun _ h9 => h9) rfl dX5_rarest_59 ?_
            refine va_get (D := D) (ci := 3) (v := .ref (ad 55)) (C := RX3) (T := TX3) (N := 8) hx hb hts iX3 hown hK hP 4 rfl rfl 3 (Nat.le_of_ble_eq_true rfl) f187 (fun _ h9 => h9) rfl dX5_rarest_62 ?_
            refine lv_iload hx hb dX5_rarest_65 (lv_at hl 4 rfl) ?_
            obtain ⟨v8, ev8, nv8, h⟩ := e_rd h
            refine xa_iald hx hb hK hP 8 rfl nv8 ev8 dX5_rarest_67 ?_
            obtain ⟨q9, eq9, h⟩ := e_b h
            refine xv_i (As := [.int x4, .int v8]) (rest := []) (ci := 3) (b := ad 51) ⟨hx, hb, hml, hown, hts⟩ hl.1 (kX3_isAhead l D cA (fun i => ad (51 + i)) tally x4 v8 _ eq9) (cwV 2 hts gX5_rarest_X3_isAhead rfl rfl rfl (by decide +kernel) ⟨Nat.le_of_ble_eq_true rfl, Nat.le_of_ble_eq_true rfl⟩) rfl hK hP hD hS hA 4 rfl rfl rfl [4, 5, 6, 7, 8] rfl (by decide +kernel) rfl (Nat.le_of_ble_eq_true rfl) dX5_rarest_68 ⟨Nat.zero_le _, Nat.zero_le _⟩ (fun H locs hP hD hS hnq9 => ?_)
            have hP : va_P D vwCl (wD_row_tally cA ad block ties lines pmn row tally) H := hP
            have hD : va_D A (wD_row_tally cA ad block ties lines pmn row tally) := hD
            refine lv_if_eq (tgt := 86) hx hb dX5_rarest_71 (by decide) (fun c10 => ?_) (fun c10 => ?_)
            · have h := e_t c10 h
              refine lv_iinc (v := (x5 + 1)) (lv' := [(5, .int (x5 + 1)), (0, .ref (ad 0)), (1, .int x1), (3, .int x3), (4, .int x4)]) hx hb dX5_rarest_86 hl (k := 4) rfl rfl (by decide) rfl (fun ls hl => ?_)
              refine lv_goto (tgt := 40) hx hb dX5_rarest_89 (by decide) ?_
              exact ih40 x1 x3 x4 (x5 + 1) block ties lines pmn row tally z6 _ _ _ (lv_sub hl [1, 2, 3, 4, 0] rfl) hP hD hS h hk40
            · have h := e_f c10 h
              refine lv_aload_n hx hb dX5_rarest_74 rfl (lv_at hl 0 rfl) ?_
              refine va_get (D := D) (ci := 5) (v := .ref (ad 51)) (C := RX5) (T := TX5) (N := 12) hx hb hts iX5 hown hK hP 0 rfl rfl 5 (Nat.le_of_ble_eq_true rfl) f43 (fun _ h9 => h9) rfl dX5_rarest_75 ?_
              refine va_get (D := D) (ci := 3) (v := .ref (ad 55)) (C := RX3) (T := TX3) (N := 8) hx hb hts iX3 hown hK hP 4 rfl rfl 3 (Nat.le_of_ble_eq_true rfl) f187 (fun _ h9 => h9) rfl dX5_rarest_78 ?_
              refine lv_iload hx hb dX5_rarest_81 (lv_at hl 4 rfl) ?_
              obtain ⟨v11, ev11, nv11, h⟩ := e_rd h
              refine xa_iald hx hb hK hP 8 rfl nv11 ev11 dX5_rarest_83 ?_
              refine lv_istore (lv' := [(4, .int v11), (0, .ref (ad 0)), (1, .int x1), (3, .int x3), (5, .int x5)]) hx hb dX5_rarest_84 hl (by decide) rfl (fun ls hl => ?_)
              refine lv_iinc (v := (x5 + 1)) (lv' := [(5, .int (x5 + 1)), (4, .int v11), (0, .ref (ad 0)), (1, .int x1), (3, .int x3)]) hx hb dX5_rarest_86 hl (k := 4) rfl rfl (by decide) rfl (fun ls hl => ?_)
              refine lv_goto (tgt := 40) hx hb dX5_rarest_89 (by decide) ?_
              exact ih40 x1 x3 v11 (x5 + 1) block ties lines pmn row tally z6 _ _ _ (lv_sub hl [2, 3, 4, 1, 0] rfl) hP hD hS h hk40
      obtain ⟨z12, ez12, h⟩ := e_b h
      refine hL40 FU x1 x3 q5.2.2.2.2.2.2.1 0 block ties lines pmn row q5 z12 _ _ _ (lv_sub hl [2, 3, 5, 1, 0] rfl) hP hD hS ez12 (fun ls H locs hl hP hD hS => ?_)
      refine lv_aload_n hx hb dX5_rarest_92 rfl (lv_at hl 0 rfl) ?_
      refine va_get (D := D) (ci := 5) (v := .ref (ad 51)) (C := RX5) (T := TX5) (N := 12) hx hb hts iX5 hown hK hP 0 rfl rfl 5 (Nat.le_of_ble_eq_true rfl) f43 (fun _ h9 => h9) rfl dX5_rarest_93 ?_
      refine lv_iload hx hb dX5_rarest_96 (lv_at hl 3 rfl) ?_
      refine lv_iload_n hx hb dX5_rarest_98 rfl (lv_at hl 2 rfl) ?_
      refine lv_iload_n hx hb dX5_rarest_99 rfl (lv_at hl 1 rfl) ?_
      obtain ⟨q13, eq13, h⟩ := e_b h
      refine xv_i (As := [.int z12, .int x3, .int x1]) (rest := []) (ci := 3) (b := ad 51) ⟨hx, hb, hml, hown, hts⟩ hl.1 (kX3_told l D cA (fun i => ad (51 + i)) q5 z12 x3 x1 _ eq13) (cwV 3 hts gX5_rarest_X3_told rfl rfl rfl (by decide +kernel) ⟨Nat.le_of_ble_eq_true rfl, Nat.le_of_ble_eq_true rfl⟩) rfl hK hP hD hS hA 4 rfl rfl rfl [4, 5, 6, 7, 8] rfl (by decide +kernel) rfl (Nat.le_of_ble_eq_true rfl) dX5_rarest_100 ⟨Nat.zero_le _, Nat.zero_le _⟩ (fun H locs hP hD hS hnq13 => ?_)
      have hP : va_P D vwCl (wD_row_tally cA ad block ties lines pmn row q5) H := hP
      have hD : va_D A (wD_row_tally cA ad block ties lines pmn row q5) := hD
      obtain rfl := e_s h
      exact hret hP hS rfl dX5_rarest_103
    · have h := e_f (not_not_intro c4) h
      refine lv_iconst (v := (-1)) hx hb dX5_rarest_20 (by decide) ?_
      obtain rfl := e_s h
      exact hret hP hS rfl dX5_rarest_21
set_option maxHeartbeats 4000000 in
set_option maxRecDepth 100000 in
theorem kX5_peeled (l : Launch) (D : va_G) (cA : Nat → ClassId) (ad : Nat → Nat) (block : Int32) (ties : Int32) (lines : Int32) (pmn : Int32) (row : RowT) (tally : TalT) (x1 : Int32) (x2 : Int32) (x3 : Int32) (q : Int32 × TalT) (h : mX5_peeled ties row tally x1 x2 x3 = some q) : MI l yX5_peeled wsX5_peeled { frames := 3, cells := 0, slots := 0, locals := 66 } D cA .int [.ref (ad 0), .int x1, .int x2, .int x3] (wD_row_tally cA ad block ties lines pmn row tally) (wD_row_tally cA ad block ties lines pmn row q.2) q.1 := by
  refine MI.of (cc := cX5_peeled) (maxL := 6) (by decide +kernel) rfl rfl rfl (Nat.le_of_ble_eq_true rfl) ?_
  intro p e s m args below meth c A ls Q hx hb hml hts hown hK hP hD hA hS hl hret
  have hl : lv_has ls 6 [(0, .ref (ad 0)), (1, .int x1), (2, .int x2), (3, .int x3)] := hl
  have f182 := hts (.fieldLink RX5 182 "ModeDesk$Tally" "kinds" "I") (by decide +kernel)
  have f187 := hts (.fieldLink RX5 187 "ModeDesk$Tally" "kind" "[I") (by decide +kernel)
  have f190 := hts (.fieldLink RX5 190 "ModeDesk$Tally" "number" "[I") (by decide +kernel)
  have f26 := hts (.fieldLink RX5 26 "ModeDesk" "row" "LModeDesk$Row;") (by decide +kernel)
  have f43 := hts (.fieldLink RX5 43 "ModeDesk" "tally" "LModeDesk$Tally;") (by decide +kernel)
  have iX3 : ∀ w ∈ wsX30, w ∈ wsX5_peeled := by decide +kernel
  have iX5 : ∀ w ∈ wsX50, w ∈ wsX5_peeled := by decide +kernel
  unfold mX5_peeled at h
  refine lv_aload_n hx hb dX5_peeled_0 rfl (lv_at hl 0 rfl) ?_
  refine va_get (D := D) (ci := 5) (v := .ref (ad 7)) (C := RX5) (T := TX5) (N := 12) hx hb hts iX5 hown hK hP 0 rfl rfl 2 (Nat.le_of_ble_eq_true rfl) f26 (fun _ h9 => h9) rfl dX5_peeled_1 ?_
  refine lv_iload_n hx hb dX5_peeled_4 rfl (lv_at hl 1 rfl) ?_
  refine lv_iload_n hx hb dX5_peeled_5 rfl (lv_at hl 2 rfl) ?_
  obtain ⟨q1, eq1, h⟩ := e_b h
  refine xv_i (As := [.int x1, .int x2]) (rest := []) (ci := 2) (b := ad 7) ⟨hx, hb, hml, hown, hts⟩ hl.1 (kX2_hasSpan l D cA (fun i => ad (7 + i)) row x1 x2 _ eq1) (cwV 2 hts gX5_peeled_X2_hasSpan rfl rfl rfl (by decide +kernel) ⟨Nat.le_of_ble_eq_true rfl, Nat.le_of_ble_eq_true rfl⟩) rfl hK hP hD hS hA 1 rfl rfl rfl [1, 2, 3] rfl (by decide +kernel) rfl (Nat.le_of_ble_eq_true rfl) dX5_peeled_6 ⟨Nat.zero_le _, Nat.zero_le _⟩ (fun H locs hP hD hS hnq1 => ?_)
  have hP : va_P D vwCl (wD_row_tally cA ad block ties lines pmn row tally) H := hP
  have hD : va_D A (wD_row_tally cA ad block ties lines pmn row tally) := hD
  refine lv_if_eq (tgt := 16) hx hb dX5_peeled_9 (by decide) (fun c2 => ?_) (fun c2 => ?_)
  · have h := e_t c2 h
    refine lv_iconst (v := (-1)) hx hb dX5_peeled_16 (by decide) ?_
    obtain rfl := e_s h
    exact hret hP hS rfl dX5_peeled_17
  · have h := e_f c2 h
    refine lv_iload_n hx hb dX5_peeled_12 rfl (lv_at hl 3 rfl) ?_
    refine lv_if_ge (tgt := 18) hx hb dX5_peeled_13 (by decide) (fun c3 => ?_) (fun c3 => ?_)
    · have h := e_t c3 h
      refine lv_aload_n hx hb dX5_peeled_18 rfl (lv_at hl 0 rfl) ?_
      refine lv_iload_n hx hb dX5_peeled_19 rfl (lv_at hl 1 rfl) ?_
      refine lv_iload_n hx hb dX5_peeled_20 rfl (lv_at hl 2 rfl) ?_
      obtain ⟨q4, eq4, h⟩ := e_b h
      refine xv_v (As := [.int x1, .int x2]) (rest := []) (ci := 5) (b := ad 0) ⟨hx, hb, hml, hown, hts⟩ hl.1 (kX5_tallySpan l D cA ad block ties lines pmn row tally x1 x2 _ eq4) (cwV 2 hts gX5_peeled_X5_tallySpan rfl rfl rfl (by decide +kernel) ⟨Nat.le_of_ble_eq_true rfl, Nat.le_of_ble_eq_true rfl⟩) rfl hK hP hD hS hA 0 rfl rfl rfl [0, 1, 2, 3, 4, 5, 6, 7, 8] rfl (by decide +kernel) rfl (Nat.le_of_ble_eq_true rfl) dX5_peeled_21 ⟨Nat.zero_le _, Nat.zero_le _⟩ (fun H locs hP hD hS => ?_)
      have hP : va_P D vwCl (wD_row_tally cA ad block ties lines pmn row q4) H := hP
      have hD : va_D A (wD_row_tally cA ad block ties lines pmn row q4) := hD
      refine lv_iload_n hx hb dX5_peeled_24 rfl (lv_at hl 3 rfl) ?_
      refine lv_aload_n hx hb dX5_peeled_25 rfl (lv_at hl 0 rfl) ?_
      refine va_get (D := D) (ci := 5) (v := .ref (ad 51)) (C := RX5) (T := TX5) (N := 12) hx hb hts iX5 hown hK hP 0 rfl rfl 5 (Nat.le_of_ble_eq_true rfl) f43 (fun _ h9 => h9) rfl dX5_peeled_26 ?_
      refine va_get (D := D) (ci := 3) (v := .int q4.2.2.2.2.1) (C := RX3) (T := TX3) (N := 8) hx hb hts iX3 hown hK hP 4 rfl rfl 4 (Nat.le_of_ble_eq_true rfl) f182 (fun _ h9 => h9) rfl dX5_peeled_29 ?_
      refine lv_icmp_le (tgt := 38) hx hb dX5_peeled_32 (by decide) (fun c5 => ?_) (fun c5 => ?_)
      · have h := e_t c5 h
        refine lv_aload_n hx hb dX5_peeled_38 rfl (lv_at hl 0 rfl) ?_
        refine va_get (D := D) (ci := 5) (v := .ref (ad 51)) (C := RX5) (T := TX5) (N := 12) hx hb hts iX5 hown hK hP 0 rfl rfl 5 (Nat.le_of_ble_eq_true rfl) f43 (fun _ h9 => h9) rfl dX5_peeled_39 ?_
        obtain ⟨q6, eq6, h⟩ := e_b h
        refine xv_v (As := []) (rest := []) (ci := 3) (b := ad 51) ⟨hx, hb, hml, hown, hts⟩ hl.1 (kX3_order l D cA (fun i => ad (51 + i)) q4  _ eq6) (cwV 0 hts gX5_peeled_X3_order rfl rfl rfl (by decide +kernel) ⟨Nat.le_of_ble_eq_true rfl, Nat.le_of_ble_eq_true rfl⟩) rfl hK hP hD hS hA 4 rfl rfl rfl [4, 5, 6, 7, 8] rfl (by decide +kernel) rfl (Nat.le_of_ble_eq_true rfl) dX5_peeled_42 ⟨Nat.zero_le _, Nat.zero_le _⟩ (fun H locs hP hD hS => ?_)
        have hP : va_P D vwCl (wD_row_tally cA ad block ties lines pmn row q6) H := hP
        have hD : va_D A (wD_row_tally cA ad block ties lines pmn row q6) := hD
        refine lv_iload_n hx hb dX5_peeled_45 rfl (lv_at hl 2 rfl) ?_
        refine lv_iload_n hx hb dX5_peeled_46 rfl (lv_at hl 1 rfl) ?_
        refine lv_isub hx hb dX5_peeled_47 ?_
        refine lv_iconst (v := 1) hx hb dX5_peeled_48 (by decide) ?_
        refine lv_iadd hx hb dX5_peeled_49 ?_
        refine lv_istore (lv' := [(4, .int ((x2 - x1) + 1)), (0, .ref (ad 0)), (1, .int x1), (2, .int x2), (3, .int x3)]) hx hb dX5_peeled_50 hl (by decide) rfl (fun ls hl => ?_)
        refine lv_iconst (v := 0) hx hb dX5_peeled_52 (by decide) ?_
        refine lv_istore (lv' := [(5, .int 0), (4, .int ((x2 - x1) + 1)), (0, .ref (ad 0)), (1, .int x1), (2, .int x2), (3, .int x3)]) hx hb dX5_peeled_53 hl (by decide) rfl (fun ls hl => ?_)
        have hL55 : ∀ (n : Nat) (x3 : Int32) (x4 : Int32) (x5 : Int32) (block : Int32) (ties : Int32) (lines : Int32) (pmn : Int32) (row : RowT) (tally : TalT) (z7 : Int32) (ls : Array Slot) (H : Heap) (locs : List Loc), lv_has ls 6 [(0, .ref (ad 0)), (3, .int x3), (4, .int x4), (5, .int x5)] → va_P D vwCl (wD_row_tally cA ad block ties lines pmn row tally) H → va_D A (wD_row_tally cA ad block ties lines pmn row tally) → va_S A s.heap H locs → mX5_peeled_L55 tally x3 n x4 x5 = some z7 → (∀ (ls : Array Slot) (H : Heap) (locs : List Loc), lv_has ls 6 [(4, .int z7)] → va_P D vwCl (wD_row_tally cA ad block ties lines pmn row tally) H → va_D A (wD_row_tally cA ad block ties lines pmn row tally) → va_S A s.heap H locs → W p l e (headSpec wsX5_peeled { frames := 3, cells := 0, slots := 0, locals := 66 }).room s m args below meth c H locs 0 0 Q (F0 m 90 ls [])) → W p l e (headSpec wsX5_peeled { frames := 3, cells := 0, slots := 0, locals := 66 }).room s m args below meth c H locs 0 0 Q (F0 m 55 ls []) := by
          intro n
          induction n with
          | zero => intro x3 x4 x5 block ties lines pmn row tally z7 ls H locs hl hP hD hS h hk55; exact e_n h
          | succ n ih55 =>
            intro x3 x4 x5 block ties lines pmn row tally z7 ls H locs hl hP hD hS h hk55
            rw [mX5_peeled_L55.eq_2] at h
            refine lv_iload hx hb dX5_peeled_55 (lv_at hl 3 rfl) ?_
            refine lv_iload_n hx hb dX5_peeled_57 rfl (lv_at hl 1 rfl) ?_
            refine lv_icmp_ge (tgt := 90) hx hb dX5_peeled_58 (by decide) (fun c8 => ?_) (fun c8 => ?_)
            · have h := e_t c8 h
              obtain rfl := e_s h
              exact hk55 _ _ _ (lv_sub hl [2] rfl) hP hD hS
            · have h := e_f c8 h
              refine lv_iload hx hb dX5_peeled_61 (lv_at hl 2 rfl) ?_
              refine lv_aload_n hx hb dX5_peeled_63 rfl (lv_at hl 0 rfl) ?_
              refine va_get (D := D) (ci := 5) (v := .ref (ad 51)) (C := RX5) (T := TX5) (N := 12) hx hb hts iX5 hown hK hP 0 rfl rfl 5 (Nat.le_of_ble_eq_true rfl) f43 (fun _ h9 => h9) rfl dX5_peeled_64 ?_
              refine va_get (D := D) (ci := 3) (v := .ref (ad 52)) (C := RX3) (T := TX3) (N := 8) hx hb hts iX3 hown hK hP 4 rfl rfl 0 (Nat.le_of_ble_eq_true rfl) f190 (fun _ h9 => h9) rfl dX5_peeled_67 ?_
              refine lv_aload_n hx hb dX5_peeled_70 rfl (lv_at hl 0 rfl) ?_
              refine va_get (D := D) (ci := 5) (v := .ref (ad 51)) (C := RX5) (T := TX5) (N := 12) hx hb hts iX5 hown hK hP 0 rfl rfl 5 (Nat.le_of_ble_eq_true rfl) f43 (fun _ h9 => h9) rfl dX5_peeled_71 ?_
              refine va_get (D := D) (ci := 3) (v := .ref (ad 55)) (C := RX3) (T := TX3) (N := 8) hx hb hts iX3 hown hK hP 4 rfl rfl 3 (Nat.le_of_ble_eq_true rfl) f187 (fun _ h9 => h9) rfl dX5_peeled_74 ?_
              refine lv_iload hx hb dX5_peeled_77 (lv_at hl 3 rfl) ?_
              obtain ⟨v9, ev9, nv9, h⟩ := e_rd h
              refine xa_iald hx hb hK hP 8 rfl nv9 ev9 dX5_peeled_79 ?_
              obtain ⟨v10, ev10, nv10, h⟩ := e_rd h
              refine xa_iald hx hb hK hP 5 rfl nv10 ev10 dX5_peeled_80 ?_
              refine lv_isub hx hb dX5_peeled_81 ?_
              refine lv_istore (lv' := [(4, .int (x4 - v10)), (0, .ref (ad 0)), (3, .int x3), (5, .int x5)]) hx hb dX5_peeled_82 hl (by decide) rfl (fun ls hl => ?_)
              refine lv_iinc (v := (x5 + 1)) (lv' := [(5, .int (x5 + 1)), (4, .int (x4 - v10)), (0, .ref (ad 0)), (3, .int x3)]) hx hb dX5_peeled_84 hl (k := 3) rfl rfl (by decide) rfl (fun ls hl => ?_)
              refine lv_goto (tgt := 55) hx hb dX5_peeled_87 (by decide) ?_
              exact ih55 x3 (x4 - v10) (x5 + 1) block ties lines pmn row tally z7 _ _ _ (lv_sub hl [2, 3, 1, 0] rfl) hP hD hS h hk55
        obtain ⟨z11, ez11, h⟩ := e_b h
        refine hL55 FU x3 ((x2 - x1) + 1) 0 block ties lines pmn row q6 z11 _ _ _ (lv_sub hl [2, 5, 1, 0] rfl) hP hD hS ez11 (fun ls H locs hl hP hD hS => ?_)
        refine lv_iload hx hb dX5_peeled_90 (lv_at hl 0 rfl) ?_
        obtain rfl := e_s h
        exact hret hP hS rfl dX5_peeled_92
      · have h := e_f c5 h
        refine lv_bipush (v := (-2)) hx hb dX5_peeled_35 (by decide) ?_
        obtain rfl := e_s h
        exact hret hP hS rfl dX5_peeled_37
    · have h := e_f c3 h
      refine lv_iconst (v := (-1)) hx hb dX5_peeled_16 (by decide) ?_
      obtain rfl := e_s h
      exact hret hP hS rfl dX5_peeled_17
set_option maxHeartbeats 4000000 in
set_option maxRecDepth 100000 in
theorem kX5_needed (l : Launch) (D : va_G) (cA : Nat → ClassId) (ad : Nat → Nat) (block : Int32) (ties : Int32) (lines : Int32) (pmn : Int32) (row : RowT) (tally : TalT) (x1 : Int32) (x2 : Int32) (x3 : Int32) (q : Int32 × TalT) (h : mX5_needed ties row tally x1 x2 x3 = some q) : MI l yX5_needed wsX5_needed { frames := 3, cells := 0, slots := 0, locals := 66 } D cA .int [.ref (ad 0), .int x1, .int x2, .int x3] (wD_row_tally cA ad block ties lines pmn row tally) (wD_row_tally cA ad block ties lines pmn row q.2) q.1 := by
  refine MI.of (cc := cX5_needed) (maxL := 7) (by decide +kernel) rfl rfl rfl (Nat.le_of_ble_eq_true rfl) ?_
  intro p e s m args below meth c A ls Q hx hb hml hts hown hK hP hD hA hS hl hret
  have hl : lv_has ls 7 [(0, .ref (ad 0)), (1, .int x1), (2, .int x2), (3, .int x3)] := hl
  have f190 := hts (.fieldLink RX5 190 "ModeDesk$Tally" "number" "[I") (by decide +kernel)
  have f26 := hts (.fieldLink RX5 26 "ModeDesk" "row" "LModeDesk$Row;") (by decide +kernel)
  have f43 := hts (.fieldLink RX5 43 "ModeDesk" "tally" "LModeDesk$Tally;") (by decide +kernel)
  have iX3 : ∀ w ∈ wsX30, w ∈ wsX5_needed := by decide +kernel
  have iX5 : ∀ w ∈ wsX50, w ∈ wsX5_needed := by decide +kernel
  unfold mX5_needed at h
  refine lv_aload_n hx hb dX5_needed_0 rfl (lv_at hl 0 rfl) ?_
  refine va_get (D := D) (ci := 5) (v := .ref (ad 7)) (C := RX5) (T := TX5) (N := 12) hx hb hts iX5 hown hK hP 0 rfl rfl 2 (Nat.le_of_ble_eq_true rfl) f26 (fun _ h9 => h9) rfl dX5_needed_1 ?_
  refine lv_iload_n hx hb dX5_needed_4 rfl (lv_at hl 1 rfl) ?_
  refine lv_iload_n hx hb dX5_needed_5 rfl (lv_at hl 2 rfl) ?_
  obtain ⟨q1, eq1, h⟩ := e_b h
  refine xv_i (As := [.int x1, .int x2]) (rest := []) (ci := 2) (b := ad 7) ⟨hx, hb, hml, hown, hts⟩ hl.1 (kX2_hasSpan l D cA (fun i => ad (7 + i)) row x1 x2 _ eq1) (cwV 2 hts gX5_needed_X2_hasSpan rfl rfl rfl (by decide +kernel) ⟨Nat.le_of_ble_eq_true rfl, Nat.le_of_ble_eq_true rfl⟩) rfl hK hP hD hS hA 1 rfl rfl rfl [1, 2, 3] rfl (by decide +kernel) rfl (Nat.le_of_ble_eq_true rfl) dX5_needed_6 ⟨Nat.zero_le _, Nat.zero_le _⟩ (fun H locs hP hD hS hnq1 => ?_)
  have hP : va_P D vwCl (wD_row_tally cA ad block ties lines pmn row tally) H := hP
  have hD : va_D A (wD_row_tally cA ad block ties lines pmn row tally) := hD
  refine lv_if_eq (tgt := 19) hx hb dX5_needed_9 (by decide) (fun c2 => ?_) (fun c2 => ?_)
  · have h := e_t c2 h
    refine lv_iconst (v := (-1)) hx hb dX5_needed_19 (by decide) ?_
    obtain rfl := e_s h
    exact hret hP hS rfl dX5_needed_20
  · have h := e_f c2 h
    refine lv_iload_n hx hb dX5_needed_12 rfl (lv_at hl 3 rfl) ?_
    obtain ⟨q3, eq3, h⟩ := e_b h
    refine xs_i (As := [.int x3]) (rest := []) ⟨hx, hb, hml, hown, hts⟩ hl.1 (kX5_isValue l D cA   x3 _ eq3) (va_cwS 1 hts gX5_needed_X5_isValue rfl rfl rfl (by decide +kernel) ⟨Nat.le_of_ble_eq_true rfl, Nat.le_of_ble_eq_true rfl⟩) rfl hK hP hD hS hA [] rfl (by decide +kernel) rfl (Nat.le_of_ble_eq_true rfl) dX5_needed_13 ⟨Nat.zero_le _, Nat.zero_le _⟩ (fun H locs hP hD hS hnq3 => ?_)
    have hP : va_P D vwCl (wD_row_tally cA ad block ties lines pmn row tally) H := hP
    have hD : va_D A (wD_row_tally cA ad block ties lines pmn row tally) := hD
    refine lv_if_ne (tgt := 21) hx hb dX5_needed_16 (by decide) (fun c4 => ?_) (fun c4 => ?_)
    · have h := e_t c4 h
      refine lv_aload_n hx hb dX5_needed_21 rfl (lv_at hl 0 rfl) ?_
      refine lv_iload_n hx hb dX5_needed_22 rfl (lv_at hl 1 rfl) ?_
      refine lv_iload_n hx hb dX5_needed_23 rfl (lv_at hl 2 rfl) ?_
      obtain ⟨q5, eq5, h⟩ := e_b h
      refine xv_v (As := [.int x1, .int x2]) (rest := []) (ci := 5) (b := ad 0) ⟨hx, hb, hml, hown, hts⟩ hl.1 (kX5_tallySpan l D cA ad block ties lines pmn row tally x1 x2 _ eq5) (cwV 2 hts gX5_needed_X5_tallySpan rfl rfl rfl (by decide +kernel) ⟨Nat.le_of_ble_eq_true rfl, Nat.le_of_ble_eq_true rfl⟩) rfl hK hP hD hS hA 0 rfl rfl rfl [0, 1, 2, 3, 4, 5, 6, 7, 8] rfl (by decide +kernel) rfl (Nat.le_of_ble_eq_true rfl) dX5_needed_24 ⟨Nat.zero_le _, Nat.zero_le _⟩ (fun H locs hP hD hS => ?_)
      have hP : va_P D vwCl (wD_row_tally cA ad block ties lines pmn row q5) H := hP
      have hD : va_D A (wD_row_tally cA ad block ties lines pmn row q5) := hD
      refine lv_aload_n hx hb dX5_needed_27 rfl (lv_at hl 0 rfl) ?_
      refine va_get (D := D) (ci := 5) (v := .ref (ad 51)) (C := RX5) (T := TX5) (N := 12) hx hb hts iX5 hown hK hP 0 rfl rfl 5 (Nat.le_of_ble_eq_true rfl) f43 (fun _ h9 => h9) rfl dX5_needed_28 ?_
      refine va_get (D := D) (ci := 3) (v := .ref (ad 52)) (C := RX3) (T := TX3) (N := 8) hx hb hts iX3 hown hK hP 4 rfl rfl 0 (Nat.le_of_ble_eq_true rfl) f190 (fun _ h9 => h9) rfl dX5_needed_31 ?_
      refine lv_iload_n hx hb dX5_needed_34 rfl (lv_at hl 3 rfl) ?_
      obtain ⟨v6, ev6, nv6, h⟩ := e_rd h
      refine xa_iald hx hb hK hP 5 rfl nv6 ev6 dX5_needed_35 ?_
      refine lv_istore (lv' := [(4, .int v6), (0, .ref (ad 0)), (1, .int x1), (2, .int x2), (3, .int x3)]) hx hb dX5_needed_36 hl (by decide) rfl (fun ls hl => ?_)
      refine lv_iload_n hx hb dX5_needed_38 rfl (lv_at hl 3 rfl) ?_
      refine lv_iload_n hx hb dX5_needed_39 rfl (lv_at hl 2 rfl) ?_
      refine lv_isub hx hb dX5_needed_40 ?_
      refine lv_iconst (v := 1) hx hb dX5_needed_41 (by decide) ?_
      refine lv_iadd hx hb dX5_needed_42 ?_
      refine lv_iload hx hb dX5_needed_43 (lv_at hl 0 rfl) ?_
      refine lv_isub hx hb dX5_needed_45 ?_
      refine lv_istore (lv' := [(5, .int (((x2 - x1) + 1) - v6)), (4, .int v6), (0, .ref (ad 0)), (1, .int x1), (2, .int x2), (3, .int x3)]) hx hb dX5_needed_46 hl (by decide) rfl (fun ls hl => ?_)
      refine lv_iconst (v := 0) hx hb dX5_needed_48 (by decide) ?_
      refine lv_istore (lv' := [(6, .int 0), (5, .int (((x2 - x1) + 1) - v6)), (4, .int v6), (0, .ref (ad 0)), (1, .int x1), (2, .int x2), (3, .int x3)]) hx hb dX5_needed_49 hl (by decide) rfl (fun ls hl => ?_)
      have hL51 : ∀ (n : Nat) (x3 : Int32) (x4 : Int32) (x5 : Int32) (x6 : Int32) (ls : Array Slot) (H : Heap) (locs : List Loc), lv_has ls 7 [(0, .ref (ad 0)), (3, .int x3), (4, .int x4), (5, .int x5), (6, .int x6)] → va_P D vwCl (wD_row_tally cA ad block ties lines pmn row q5) H → va_D A (wD_row_tally cA ad block ties lines pmn row q5) → va_S A s.heap H locs → mX5_needed_L51 q5 x3 x4 x5 n x6 = some q → W p l e (headSpec wsX5_needed { frames := 3, cells := 0, slots := 0, locals := 66 }).room s m args below meth c H locs 0 0 Q (F0 m 51 ls []) := by
        intro n
        induction n with
        | zero => intro x3 x4 x5 x6 ls H locs hl hP hD hS h; exact e_n h
        | succ n ih51 =>
          intro x3 x4 x5 x6 ls H locs hl hP hD hS h
          rw [mX5_needed_L51.eq_2] at h
          refine lv_iload hx hb dX5_needed_51 (lv_at hl 4 rfl) ?_
          refine lv_iload hx hb dX5_needed_53 (lv_at hl 3 rfl) ?_
          refine lv_icmp_ge (tgt := 87) hx hb dX5_needed_55 (by decide) (fun c8 => ?_) (fun c8 => ?_)
          · have h := e_t c8 h
            refine lv_iload hx hb dX5_needed_87 (lv_at hl 3 rfl) ?_
            obtain rfl := e_s h
            exact hret hP hS rfl dX5_needed_89
          · have h := e_f c8 h
            refine lv_aload_n hx hb dX5_needed_58 rfl (lv_at hl 0 rfl) ?_
            refine va_get (D := D) (ci := 5) (v := .ref (ad 51)) (C := RX5) (T := TX5) (N := 12) hx hb hts iX5 hown hK hP 0 rfl rfl 5 (Nat.le_of_ble_eq_true rfl) f43 (fun _ h9 => h9) rfl dX5_needed_59 ?_
            refine lv_iload_n hx hb dX5_needed_62 rfl (lv_at hl 1 rfl) ?_
            refine lv_iload hx hb dX5_needed_63 (lv_at hl 2 rfl) ?_
            refine lv_iload hx hb dX5_needed_65 (lv_at hl 4 rfl) ?_
            refine lv_iadd hx hb dX5_needed_67 ?_
            refine lv_iconst (v := 1) hx hb dX5_needed_68 (by decide) ?_
            refine lv_isub hx hb dX5_needed_69 ?_
            obtain ⟨q9, eq9, h⟩ := e_b h
            refine xv_i (As := [.int x3, .int ((x4 + x6) - 1)]) (rest := []) (ci := 3) (b := ad 51) ⟨hx, hb, hml, hown, hts⟩ hl.1 (kX3_tooMany l D cA (fun i => ad (51 + i)) q5 x3 ((x4 + x6) - 1) _ eq9) (cwV 2 hts gX5_needed_X3_tooMany rfl rfl rfl (by decide +kernel) ⟨Nat.le_of_ble_eq_true rfl, Nat.le_of_ble_eq_true rfl⟩) rfl hK hP hD hS hA 4 rfl rfl rfl [4, 5, 6, 7, 8] rfl (by decide +kernel) rfl (Nat.le_of_ble_eq_true rfl) dX5_needed_70 ⟨Nat.zero_le _, Nat.zero_le _⟩ (fun H locs hP hD hS hnq9 => ?_)
            have hP : va_P D vwCl (wD_row_tally cA ad block ties lines pmn row q5) H := hP
            have hD : va_D A (wD_row_tally cA ad block ties lines pmn row q5) := hD
            refine lv_iload hx hb dX5_needed_73 (lv_at hl 4 rfl) ?_
            refine lv_icmp_gt (tgt := 81) hx hb dX5_needed_75 (by decide) (fun c10 => ?_) (fun c10 => ?_)
            · have h := e_t c10 h
              refine lv_iinc (v := (x6 + 1)) (lv' := [(6, .int (x6 + 1)), (0, .ref (ad 0)), (3, .int x3), (4, .int x4), (5, .int x5)]) hx hb dX5_needed_81 hl (k := 4) rfl rfl (by decide) rfl (fun ls hl => ?_)
              refine lv_goto (tgt := 51) hx hb dX5_needed_84 (by decide) ?_
              exact ih51 x3 x4 x5 (x6 + 1) _ _ _ (lv_sub hl [1, 2, 3, 4, 0] rfl) hP hD hS h
            · have h := e_f c10 h
              refine lv_iload hx hb dX5_needed_78 (lv_at hl 4 rfl) ?_
              obtain rfl := e_s h
              exact hret hP hS rfl dX5_needed_80
      exact hL51 FU x3 v6 (((x2 - x1) + 1) - v6) 0 _ _ _ (lv_sub hl [3, 6, 2, 1, 0] rfl) hP hD hS h
    · have h := e_f (not_not_intro c4) h
      refine lv_iconst (v := (-1)) hx hb dX5_needed_19 (by decide) ?_
      obtain rfl := e_s h
      exact hret hP hS rfl dX5_needed_20
set_option maxHeartbeats 4000000 in
set_option maxRecDepth 100000 in
theorem kX5_pair (l : Launch) (D : va_G) (cA : Nat → ClassId) (ad : Nat → Nat) (block : Int32) (ties : Int32) (lines : Int32) (pmn : Int32) (row : RowT) (tally : TalT) (x1 : Int32) (x2 : Int32) (x3 : Int32) (q : Int32 × TalT) (h : mX5_pair block ties row tally x1 x2 x3 = some q) : MI l yX5_pair wsX5_pair { frames := 3, cells := 0, slots := 0, locals := 66 } D cA .int [.ref (ad 0), .int x1, .int x2, .int x3] (wD_row_tally cA ad block ties lines pmn row tally) (wD_row_tally cA ad block ties lines pmn row q.2) q.1 := by
  refine MI.of (cc := cX5_pair) (maxL := 4) (by decide +kernel) rfl rfl rfl (Nat.le_of_ble_eq_true rfl) ?_
  intro p e s m args below meth c A ls Q hx hb hml hts hown hK hP hD hA hS hl hret
  have hl : lv_has ls 4 [(0, .ref (ad 0)), (1, .int x1), (2, .int x2), (3, .int x3)] := hl
  have f176 := hts (.fieldLink RX5 176 "ModeDesk$Tally" "best" "I") (by decide +kernel)
  have f26 := hts (.fieldLink RX5 26 "ModeDesk" "row" "LModeDesk$Row;") (by decide +kernel)
  have f43 := hts (.fieldLink RX5 43 "ModeDesk" "tally" "LModeDesk$Tally;") (by decide +kernel)
  have f54 := hts (.fieldLink RX5 54 "ModeDesk" "block" "I") (by decide +kernel)
  have iX3 : ∀ w ∈ wsX30, w ∈ wsX5_pair := by decide +kernel
  have iX5 : ∀ w ∈ wsX50, w ∈ wsX5_pair := by decide +kernel
  unfold mX5_pair at h
  refine lv_iload_n hx hb dX5_pair_0 rfl (lv_at hl 1 rfl) ?_
  refine lv_if_lt (tgt := 29) hx hb dX5_pair_1 (by decide) (fun c1 => ?_) (fun c1 => ?_)
  · have h := e_t c1 h
    refine lv_iconst (v := (-1)) hx hb dX5_pair_29 (by decide) ?_
    obtain rfl := e_s h
    exact hret hP hS rfl dX5_pair_30
  · have h := e_f c1 h
    refine lv_iload_n hx hb dX5_pair_4 rfl (lv_at hl 1 rfl) ?_
    refine lv_iload_n hx hb dX5_pair_5 rfl (lv_at hl 2 rfl) ?_
    refine lv_icmp_gt (tgt := 29) hx hb dX5_pair_6 (by decide) (fun c2 => ?_) (fun c2 => ?_)
    · have h := e_t c2 h
      refine lv_iconst (v := (-1)) hx hb dX5_pair_29 (by decide) ?_
      obtain rfl := e_s h
      exact hret hP hS rfl dX5_pair_30
    · have h := e_f c2 h
      refine lv_iload_n hx hb dX5_pair_9 rfl (lv_at hl 2 rfl) ?_
      refine lv_aload_n hx hb dX5_pair_10 rfl (lv_at hl 0 rfl) ?_
      refine lv_aload_n hx hb dX5_pair_11 rfl (lv_at hl 0 rfl) ?_
      refine va_get (D := D) (ci := 5) (v := .ref (ad 7)) (C := RX5) (T := TX5) (N := 12) hx hb hts iX5 hown hK hP 0 rfl rfl 2 (Nat.le_of_ble_eq_true rfl) f26 (fun _ h9 => h9) rfl dX5_pair_12 ?_
      obtain ⟨q3, eq3, h⟩ := e_b h
      refine xv_i (As := [.ref (ad 7)]) (rest := [.int x2]) (ci := 5) (b := ad 0) ⟨hx, hb, hml, hown, hts⟩ hl.1 (kX5_blocksOf l D cA ad (fun i => ad (7 + i)) block ties lines pmn row  _ eq3) (cwV 1 hts gX5_pair_X5_blocksOf rfl rfl rfl (by decide +kernel) ⟨Nat.le_of_ble_eq_true rfl, Nat.le_of_ble_eq_true rfl⟩) rfl hK hP hD hS hA 0 rfl rfl rfl [0, 1, 2, 3] rfl (by decide +kernel) rfl (Nat.le_of_ble_eq_true rfl) dX5_pair_15 ⟨Nat.zero_le _, Nat.zero_le _⟩ (fun H locs hP hD hS hnq3 => ?_)
      have hP : va_P D vwCl (wD_row_tally cA ad block ties lines pmn row tally) H := hP
      have hD : va_D A (wD_row_tally cA ad block ties lines pmn row tally) := hD
      refine lv_icmp_ge (tgt := 29) hx hb dX5_pair_18 (by decide) (fun c4 => ?_) (fun c4 => ?_)
      · have h := e_t c4 h
        refine lv_iconst (v := (-1)) hx hb dX5_pair_29 (by decide) ?_
        obtain rfl := e_s h
        exact hret hP hS rfl dX5_pair_30
      · have h := e_f c4 h
        refine lv_iload_n hx hb dX5_pair_21 rfl (lv_at hl 3 rfl) ?_
        refine lv_iconst (v := 2) hx hb dX5_pair_22 (by decide) ?_
        obtain ⟨q5, eq5, h⟩ := e_b h
        refine xs_i (As := [.int x3, .int 2]) (rest := []) ⟨hx, hb, hml, hown, hts⟩ hl.1 (kX5_isBelow l D cA   x3 2 _ eq5) (va_cwS 2 hts gX5_pair_X5_isBelow rfl rfl rfl (by decide +kernel) ⟨Nat.le_of_ble_eq_true rfl, Nat.le_of_ble_eq_true rfl⟩) rfl hK hP hD hS hA [] rfl (by decide +kernel) rfl (Nat.le_of_ble_eq_true rfl) dX5_pair_23 ⟨Nat.zero_le _, Nat.zero_le _⟩ (fun H locs hP hD hS hnq5 => ?_)
        have hP : va_P D vwCl (wD_row_tally cA ad block ties lines pmn row tally) H := hP
        have hD : va_D A (wD_row_tally cA ad block ties lines pmn row tally) := hD
        refine lv_if_ne (tgt := 31) hx hb dX5_pair_26 (by decide) (fun c6 => ?_) (fun c6 => ?_)
        · have h := e_t c6 h
          refine lv_aload_n hx hb dX5_pair_31 rfl (lv_at hl 0 rfl) ?_
          refine lv_iload_n hx hb dX5_pair_32 rfl (lv_at hl 1 rfl) ?_
          refine lv_aload_n hx hb dX5_pair_33 rfl (lv_at hl 0 rfl) ?_
          refine va_get (D := D) (ci := 5) (v := .int block) (C := RX5) (T := TX5) (N := 12) hx hb hts iX5 hown hK hP 0 rfl rfl 8 (Nat.le_of_ble_eq_true rfl) f54 (fun _ h9 => h9) rfl dX5_pair_34 ?_
          refine lv_imul hx hb dX5_pair_37 ?_
          refine lv_aload_n hx hb dX5_pair_38 rfl (lv_at hl 0 rfl) ?_
          refine lv_aload_n hx hb dX5_pair_39 rfl (lv_at hl 0 rfl) ?_
          refine va_get (D := D) (ci := 5) (v := .ref (ad 7)) (C := RX5) (T := TX5) (N := 12) hx hb hts iX5 hown hK hP 0 rfl rfl 2 (Nat.le_of_ble_eq_true rfl) f26 (fun _ h9 => h9) rfl dX5_pair_40 ?_
          refine lv_iload_n hx hb dX5_pair_43 rfl (lv_at hl 2 rfl) ?_
          obtain ⟨q7, eq7, h⟩ := e_b h
          refine xv_i (As := [.ref (ad 7), .int x2]) (rest := [.int (x1 * block), .ref (ad 0)]) (ci := 5) (b := ad 0) ⟨hx, hb, hml, hown, hts⟩ hl.1 (kX5_blockEnd l D cA ad (fun i => ad (7 + i)) block ties lines pmn row x2 _ eq7) (cwV 2 hts gX5_pair_X5_blockEnd rfl rfl rfl (by decide +kernel) ⟨Nat.le_of_ble_eq_true rfl, Nat.le_of_ble_eq_true rfl⟩) rfl hK hP hD hS hA 0 rfl rfl rfl [0, 1, 2, 3] rfl (by decide +kernel) rfl (Nat.le_of_ble_eq_true rfl) dX5_pair_44 ⟨Nat.zero_le _, Nat.zero_le _⟩ (fun H locs hP hD hS hnq7 => ?_)
          have hP : va_P D vwCl (wD_row_tally cA ad block ties lines pmn row tally) H := hP
          have hD : va_D A (wD_row_tally cA ad block ties lines pmn row tally) := hD
          refine lv_iconst (v := 1) hx hb dX5_pair_47 (by decide) ?_
          refine lv_isub hx hb dX5_pair_48 ?_
          obtain ⟨q8, eq8, h⟩ := e_b h
          refine xv_v (As := [.int (x1 * block), .int (q7 - 1)]) (rest := []) (ci := 5) (b := ad 0) ⟨hx, hb, hml, hown, hts⟩ hl.1 (kX5_tallySpan l D cA ad block ties lines pmn row tally (x1 * block) (q7 - 1) _ eq8) (cwV 2 hts gX5_pair_X5_tallySpan rfl rfl rfl (by decide +kernel) ⟨Nat.le_of_ble_eq_true rfl, Nat.le_of_ble_eq_true rfl⟩) rfl hK hP hD hS hA 0 rfl rfl rfl [0, 1, 2, 3, 4, 5, 6, 7, 8] rfl (by decide +kernel) rfl (Nat.le_of_ble_eq_true rfl) dX5_pair_49 ⟨Nat.zero_le _, Nat.zero_le _⟩ (fun H locs hP hD hS => ?_)
          have hP : va_P D vwCl (wD_row_tally cA ad block ties lines pmn row q8) H := hP
          have hD : va_D A (wD_row_tally cA ad block ties lines pmn row q8) := hD
          refine lv_aload_n hx hb dX5_pair_52 rfl (lv_at hl 0 rfl) ?_
          refine va_get (D := D) (ci := 5) (v := .ref (ad 51)) (C := RX5) (T := TX5) (N := 12) hx hb hts iX5 hown hK hP 0 rfl rfl 5 (Nat.le_of_ble_eq_true rfl) f43 (fun _ h9 => h9) rfl dX5_pair_53 ?_
          refine lv_aload_n hx hb dX5_pair_56 rfl (lv_at hl 0 rfl) ?_
          refine va_get (D := D) (ci := 5) (v := .ref (ad 51)) (C := RX5) (T := TX5) (N := 12) hx hb hts iX5 hown hK hP 0 rfl rfl 5 (Nat.le_of_ble_eq_true rfl) f43 (fun _ h9 => h9) rfl dX5_pair_57 ?_
          refine va_get (D := D) (ci := 3) (v := .int q8.2.2.2.2.2.2.1) (C := RX3) (T := TX3) (N := 8) hx hb hts iX3 hown hK hP 4 rfl rfl 6 (Nat.le_of_ble_eq_true rfl) f176 (fun _ h9 => h9) rfl dX5_pair_60 ?_
          refine lv_iload_n hx hb dX5_pair_63 rfl (lv_at hl 3 rfl) ?_
          refine lv_iconst (v := 0) hx hb dX5_pair_64 (by decide) ?_
          obtain ⟨q9, eq9, h⟩ := e_b h
          refine xv_i (As := [.int q8.2.2.2.2.2.2.1, .int x3, .int 0]) (rest := []) (ci := 3) (b := ad 51) ⟨hx, hb, hml, hown, hts⟩ hl.1 (kX3_told l D cA (fun i => ad (51 + i)) q8 q8.2.2.2.2.2.2.1 x3 0 _ eq9) (cwV 3 hts gX5_pair_X3_told rfl rfl rfl (by decide +kernel) ⟨Nat.le_of_ble_eq_true rfl, Nat.le_of_ble_eq_true rfl⟩) rfl hK hP hD hS hA 4 rfl rfl rfl [4, 5, 6, 7, 8] rfl (by decide +kernel) rfl (Nat.le_of_ble_eq_true rfl) dX5_pair_65 ⟨Nat.zero_le _, Nat.zero_le _⟩ (fun H locs hP hD hS hnq9 => ?_)
          have hP : va_P D vwCl (wD_row_tally cA ad block ties lines pmn row q8) H := hP
          have hD : va_D A (wD_row_tally cA ad block ties lines pmn row q8) := hD
          obtain rfl := e_s h
          exact hret hP hS rfl dX5_pair_68
        · have h := e_f (not_not_intro c6) h
          refine lv_iconst (v := (-1)) hx hb dX5_pair_29 (by decide) ?_
          obtain rfl := e_s h
          exact hret hP hS rfl dX5_pair_30
set_option maxHeartbeats 4000000 in
set_option maxRecDepth 100000 in
theorem kX5_modeOf (l : Launch) (D : va_G) (cA : Nat → ClassId) (ad : Nat → Nat) (block : Int32) (ties : Int32) (lines : Int32) (pmn : Int32) (row : RowT) (tally : TalT) (x1 : Int32) (x2 : Int32) (q : Int32 × TalT) (h : mX5_modeOf ties row tally x1 x2 = some q) : MI l yX5_modeOf wsX5_modeOf { frames := 3, cells := 0, slots := 0, locals := 66 } D cA .int [.ref (ad 0), .int x1, .int x2] (wD_row_tally cA ad block ties lines pmn row tally) (wD_row_tally cA ad block ties lines pmn row q.2) q.1 := by
  refine MI.of (cc := cX5_modeOf) (maxL := 3) (by decide +kernel) rfl rfl rfl (Nat.le_of_ble_eq_true rfl) ?_
  intro p e s m args below meth c A ls Q hx hb hml hts hown hK hP hD hA hS hl hret
  have hl : lv_has ls 3 [(0, .ref (ad 0)), (1, .int x1), (2, .int x2)] := hl
  have f176 := hts (.fieldLink RX5 176 "ModeDesk$Tally" "best" "I") (by decide +kernel)
  have f43 := hts (.fieldLink RX5 43 "ModeDesk" "tally" "LModeDesk$Tally;") (by decide +kernel)
  have iX3 : ∀ w ∈ wsX30, w ∈ wsX5_modeOf := by decide +kernel
  have iX5 : ∀ w ∈ wsX50, w ∈ wsX5_modeOf := by decide +kernel
  unfold mX5_modeOf at h
  refine lv_aload_n hx hb dX5_modeOf_0 rfl (lv_at hl 0 rfl) ?_
  refine lv_iload_n hx hb dX5_modeOf_1 rfl (lv_at hl 1 rfl) ?_
  refine lv_iload_n hx hb dX5_modeOf_2 rfl (lv_at hl 2 rfl) ?_
  obtain ⟨q1, eq1, h⟩ := e_b h
  refine xv_v (As := [.int x1, .int x2]) (rest := []) (ci := 5) (b := ad 0) ⟨hx, hb, hml, hown, hts⟩ hl.1 (kX5_tallySpan l D cA ad block ties lines pmn row tally x1 x2 _ eq1) (cwV 2 hts gX5_modeOf_X5_tallySpan rfl rfl rfl (by decide +kernel) ⟨Nat.le_of_ble_eq_true rfl, Nat.le_of_ble_eq_true rfl⟩) rfl hK hP hD hS hA 0 rfl rfl rfl [0, 1, 2, 3, 4, 5, 6, 7, 8] rfl (by decide +kernel) rfl (Nat.le_of_ble_eq_true rfl) dX5_modeOf_3 ⟨Nat.zero_le _, Nat.zero_le _⟩ (fun H locs hP hD hS => ?_)
  have hP : va_P D vwCl (wD_row_tally cA ad block ties lines pmn row q1) H := hP
  have hD : va_D A (wD_row_tally cA ad block ties lines pmn row q1) := hD
  refine lv_aload_n hx hb dX5_modeOf_6 rfl (lv_at hl 0 rfl) ?_
  refine va_get (D := D) (ci := 5) (v := .ref (ad 51)) (C := RX5) (T := TX5) (N := 12) hx hb hts iX5 hown hK hP 0 rfl rfl 5 (Nat.le_of_ble_eq_true rfl) f43 (fun _ h9 => h9) rfl dX5_modeOf_7 ?_
  refine va_get (D := D) (ci := 3) (v := .int q1.2.2.2.2.2.2.1) (C := RX3) (T := TX3) (N := 8) hx hb hts iX3 hown hK hP 4 rfl rfl 6 (Nat.le_of_ble_eq_true rfl) f176 (fun _ h9 => h9) rfl dX5_modeOf_10 ?_
  obtain rfl := e_s h
  exact hret hP hS rfl dX5_modeOf_13
set_option maxHeartbeats 4000000 in
set_option maxRecDepth 100000 in
theorem kX5_markCandidates (l : Launch) (D : va_G) (cA : Nat → ClassId) (ad : Nat → Nat) (block : Int32) (ties : Int32) (lines : Int32) (pmn : Int32) (row : RowT) (tally : TalT) (aside : TalT) (x1 : Int32) (x2 : Int32) (q : TalT × TalT) (h : mX5_markCandidates block ties row tally aside x1 x2 = some q) : MV l yX5_markCandidates wsX5_markCandidates { frames := 4, cells := 0, slots := 0, locals := 88 } D cA [.ref (ad 0), .int x1, .int x2] (wD_row_tally_aside cA ad block ties lines pmn row tally aside) (wD_row_tally_aside cA ad block ties lines pmn row q.1 q.2) := by
  refine MV.of (cc := cX5_markCandidates) (maxL := 6) (by decide) rfl rfl rfl (Nat.le_of_ble_eq_true rfl) ?_
  intro p e s m args below meth c A ls Q hx hb hml hts hown hK hP hD hA hS hl hret
  have hl : lv_has ls 6 [(0, .ref (ad 0)), (1, .int x1), (2, .int x2)] := hl
  have f106 := hts (.fieldLink RX5 106 "ModeDesk$Row" "values" "[I") (by decide +kernel)
  have f135 := hts (.fieldLink RX5 135 "ModeDesk$Row" "size" "I") (by decide +kernel)
  have f26 := hts (.fieldLink RX5 26 "ModeDesk" "row" "LModeDesk$Row;") (by decide +kernel)
  have f47 := hts (.fieldLink RX5 47 "ModeDesk" "aside" "LModeDesk$Tally;") (by decide +kernel)
  have f54 := hts (.fieldLink RX5 54 "ModeDesk" "block" "I") (by decide +kernel)
  have f58 := hts (.fieldLink RX5 58 "ModeDesk" "ties" "I") (by decide +kernel)
  have iX2 : ∀ w ∈ wsX20, w ∈ wsX5_markCandidates := by decide +kernel
  have iX5 : ∀ w ∈ wsX50, w ∈ wsX5_markCandidates := by decide +kernel
  unfold mX5_markCandidates at h
  refine lv_iload_n hx hb dX5_markCandidates_0 rfl (lv_at hl 1 rfl) ?_
  refine lv_aload_n hx hb dX5_markCandidates_1 rfl (lv_at hl 0 rfl) ?_
  refine va_get (D := D) (ci := 5) (v := .int block) (C := RX5) (T := TX5) (N := 12) hx hb hts iX5 hown hK hP 0 rfl rfl 8 (Nat.le_of_ble_eq_true rfl) f54 (fun _ h9 => h9) rfl dX5_markCandidates_2 ?_
  refine lv_iadd hx hb dX5_markCandidates_5 ?_
  refine lv_iconst (v := 1) hx hb dX5_markCandidates_6 (by decide) ?_
  refine lv_isub hx hb dX5_markCandidates_7 ?_
  refine lv_aload_n hx hb dX5_markCandidates_8 rfl (lv_at hl 0 rfl) ?_
  refine va_get (D := D) (ci := 5) (v := .int block) (C := RX5) (T := TX5) (N := 12) hx hb hts iX5 hown hK hP 0 rfl rfl 8 (Nat.le_of_ble_eq_true rfl) f54 (fun _ h9 => h9) rfl dX5_markCandidates_9 ?_
  obtain ⟨v1, ev1, nv1, h⟩ := e_dv h
  refine xa_idiv hx hb dX5_markCandidates_12 nv1 ev1 ?_
  refine lv_aload_n hx hb dX5_markCandidates_13 rfl (lv_at hl 0 rfl) ?_
  refine va_get (D := D) (ci := 5) (v := .int block) (C := RX5) (T := TX5) (N := 12) hx hb hts iX5 hown hK hP 0 rfl rfl 8 (Nat.le_of_ble_eq_true rfl) f54 (fun _ h9 => h9) rfl dX5_markCandidates_14 ?_
  refine lv_imul hx hb dX5_markCandidates_17 ?_
  refine lv_istore_n (lv' := [(3, .int (v1 * block)), (0, .ref (ad 0)), (1, .int x1), (2, .int x2)]) hx hb dX5_markCandidates_18 rfl hl (by decide) rfl (fun ls hl => ?_)
  refine lv_iload_n hx hb dX5_markCandidates_19 rfl (lv_at hl 3 rfl) ?_
  refine lv_aload_n hx hb dX5_markCandidates_20 rfl (lv_at hl 1 rfl) ?_
  refine va_get (D := D) (ci := 5) (v := .ref (ad 7)) (C := RX5) (T := TX5) (N := 12) hx hb hts iX5 hown hK hP 0 rfl rfl 2 (Nat.le_of_ble_eq_true rfl) f26 (fun _ h9 => h9) rfl dX5_markCandidates_21 ?_
  refine va_get (D := D) (ci := 2) (v := .int row.2.2) (C := RX2) (T := TX2) (N := 3) hx hb hts iX2 hown hK hP 1 rfl rfl 2 (Nat.le_of_ble_eq_true rfl) f135 (fun _ h9 => h9) rfl dX5_markCandidates_24 ?_
  refine lv_iconst (v := 1) hx hb dX5_markCandidates_27 (by decide) ?_
  refine lv_isub hx hb dX5_markCandidates_28 ?_
  obtain ⟨z2, ez2, h⟩ := e_b h
  have hJ3 : ∀ (ls : Array Slot) (H : Heap) (locs : List Loc), lv_has ls 6 [(0, .ref (ad 0)), (1, .int x1), (2, .int x2), (3, .int (v1 * block))] → va_P D vwCl (wD_row_tally_aside cA ad block ties lines pmn row tally aside) H → va_D A (wD_row_tally_aside cA ad block ties lines pmn row tally aside) → va_S A s.heap H locs → W p l e (headSpec wsX5_markCandidates { frames := 4, cells := 0, slots := 0, locals := 88 }).room s m args below meth c H locs 0 0 Q (F0 m 55 ls [.int z2]) := by
    intro ls H locs hl hP hD hS
    refine lv_istore (lv' := [(4, .int z2), (0, .ref (ad 0)), (1, .int x1), (2, .int x2), (3, .int (v1 * block))]) hx hb dX5_markCandidates_55 hl (by decide) rfl (fun ls hl => ?_)
    refine lv_aload_n hx hb dX5_markCandidates_57 rfl (lv_at hl 1 rfl) ?_
    refine va_get (D := D) (ci := 5) (v := .ref (ad 56)) (C := RX5) (T := TX5) (N := 12) hx hb hts iX5 hown hK hP 0 rfl rfl 6 (Nat.le_of_ble_eq_true rfl) f47 (fun _ h9 => h9) rfl dX5_markCandidates_58 ?_
    refine lv_aload_n hx hb dX5_markCandidates_61 rfl (lv_at hl 1 rfl) ?_
    refine va_get (D := D) (ci := 5) (v := .int ties) (C := RX5) (T := TX5) (N := 12) hx hb hts iX5 hown hK hP 0 rfl rfl 9 (Nat.le_of_ble_eq_true rfl) f58 (fun _ h9 => h9) rfl dX5_markCandidates_62 ?_
    obtain ⟨q4, eq4, h⟩ := e_b h
    refine xv_v (As := [.int ties]) (rest := []) (ci := 3) (b := ad 56) ⟨hx, hb, hml, hown, hts⟩ hl.1 (kX3_begin l D cA (fun i => ad (56 + i)) aside ties _ eq4) (cwV 1 hts gX5_markCandidates_X3_begin rfl rfl rfl (by decide +kernel) ⟨Nat.le_of_ble_eq_true rfl, Nat.le_of_ble_eq_true rfl⟩) rfl hK hP hD hS hA 9 rfl rfl rfl [9, 10, 11, 12, 13] rfl (by decide +kernel) rfl (Nat.le_of_ble_eq_true rfl) dX5_markCandidates_65 ⟨Nat.zero_le _, Nat.zero_le _⟩ (fun H locs hP hD hS => ?_)
    have hP : va_P D vwCl (wD_row_tally_aside cA ad block ties lines pmn row tally q4) H := hP
    have hD : va_D A (wD_row_tally_aside cA ad block ties lines pmn row tally q4) := hD
    refine lv_iload_n hx hb dX5_markCandidates_68 rfl (lv_at hl 4 rfl) ?_
    refine lv_iload hx hb dX5_markCandidates_69 (lv_at hl 0 rfl) ?_
    obtain ⟨z5, ez5, h⟩ := e_b h
    have hJ6 : ∀ (ls : Array Slot) (H : Heap) (locs : List Loc), lv_has ls 6 [(0, .ref (ad 0)), (1, .int x1), (2, .int x2), (3, .int (v1 * block)), (4, .int z2)] → va_P D vwCl (wD_row_tally_aside cA ad block ties lines pmn row z5.1 z5.2) H → va_D A (wD_row_tally_aside cA ad block ties lines pmn row z5.1 z5.2) → va_S A s.heap H locs → W p l e (headSpec wsX5_markCandidates { frames := 4, cells := 0, slots := 0, locals := 88 }).room s m args below meth c H locs 0 0 Q (F0 m 90 ls []) := by
      intro ls H locs hl hP hD hS
      refine lv_iload_n hx hb dX5_markCandidates_90 rfl (lv_at hl 1 rfl) ?_
      refine lv_istore (lv' := [(5, .int x1), (0, .ref (ad 0)), (1, .int x1), (2, .int x2), (3, .int (v1 * block)), (4, .int z2)]) hx hb dX5_markCandidates_91 hl (by decide) rfl (fun ls hl => ?_)
      have hL93 : ∀ (n : Nat) (x2 : Int32) (x3 : Int32) (x4 : Int32) (x5 : Int32) (block : Int32) (ties : Int32) (lines : Int32) (pmn : Int32) (row : RowT) (tally : TalT) (aside : TalT) (z7 : TalT) (ls : Array Slot) (H : Heap) (locs : List Loc), lv_has ls 6 [(0, .ref (ad 0)), (2, .int x2), (3, .int x3), (4, .int x4), (5, .int x5)] → va_P D vwCl (wD_row_tally_aside cA ad block ties lines pmn row tally aside) H → va_D A (wD_row_tally_aside cA ad block ties lines pmn row tally aside) → va_S A s.heap H locs → mX5_markCandidates_L93 row x2 x3 x4 n x5 aside = some z7 → (∀ (ls : Array Slot) (H : Heap) (locs : List Loc), lv_has ls 6 [] → va_P D vwCl (wD_row_tally_aside cA ad block ties lines pmn row tally z7) H → va_D A (wD_row_tally_aside cA ad block ties lines pmn row tally z7) → va_S A s.heap H locs → W p l e (headSpec wsX5_markCandidates { frames := 4, cells := 0, slots := 0, locals := 88 }).room s m args below meth c H locs 0 0 Q (F0 m 135 ls [])) → W p l e (headSpec wsX5_markCandidates { frames := 4, cells := 0, slots := 0, locals := 88 }).room s m args below meth c H locs 0 0 Q (F0 m 93 ls []) := by
        intro n
        induction n with
        | zero => intro x2 x3 x4 x5 block ties lines pmn row tally aside z7 ls H locs hl hP hD hS h hk93; exact e_n h
        | succ n ih93 =>
          intro x2 x3 x4 x5 block ties lines pmn row tally aside z7 ls H locs hl hP hD hS h hk93
          rw [mX5_markCandidates_L93.eq_2] at h
          refine lv_iload hx hb dX5_markCandidates_93 (lv_at hl 4 rfl) ?_
          refine lv_iload_n hx hb dX5_markCandidates_95 rfl (lv_at hl 1 rfl) ?_
          refine lv_icmp_gt (tgt := 135) hx hb dX5_markCandidates_96 (by decide) (fun c8 => ?_) (fun c8 => ?_)
          · have h := e_t c8 h
            obtain rfl := e_s h
            exact hk93 _ _ _ (lv_sub hl [] rfl) hP hD hS
          · have h := e_f c8 h
            refine lv_iload hx hb dX5_markCandidates_99 (lv_at hl 4 rfl) ?_
            refine lv_iload_n hx hb dX5_markCandidates_101 rfl (lv_at hl 2 rfl) ?_
            refine lv_icmp_lt (tgt := 112) hx hb dX5_markCandidates_102 (by decide) (fun c9 => ?_) (fun c9 => ?_)
            · have h := e_t c9 h
              refine lv_aload_n hx hb dX5_markCandidates_112 rfl (lv_at hl 0 rfl) ?_
              refine va_get (D := D) (ci := 5) (v := .ref (ad 56)) (C := RX5) (T := TX5) (N := 12) hx hb hts iX5 hown hK hP 0 rfl rfl 6 (Nat.le_of_ble_eq_true rfl) f47 (fun _ h9 => h9) rfl dX5_markCandidates_113 ?_
              refine lv_aload_n hx hb dX5_markCandidates_116 rfl (lv_at hl 0 rfl) ?_
              refine va_get (D := D) (ci := 5) (v := .ref (ad 7)) (C := RX5) (T := TX5) (N := 12) hx hb hts iX5 hown hK hP 0 rfl rfl 2 (Nat.le_of_ble_eq_true rfl) f26 (fun _ h9 => h9) rfl dX5_markCandidates_117 ?_
              refine va_get (D := D) (ci := 2) (v := .ref (ad 8)) (C := RX2) (T := TX2) (N := 3) hx hb hts iX2 hown hK hP 1 rfl rfl 0 (Nat.le_of_ble_eq_true rfl) f106 (fun _ h9 => h9) rfl dX5_markCandidates_120 ?_
              refine lv_iload hx hb dX5_markCandidates_123 (lv_at hl 4 rfl) ?_
              obtain ⟨v10, ev10, nv10, h⟩ := e_rd h
              refine xa_iald hx hb hK hP 2 rfl nv10 ev10 dX5_markCandidates_125 ?_
              obtain ⟨q11, eq11, h⟩ := e_b h
              refine xv_v (As := [.int v10]) (rest := []) (ci := 3) (b := ad 56) ⟨hx, hb, hml, hown, hts⟩ hl.1 (kX3_push l D cA (fun i => ad (56 + i)) aside v10 _ eq11) (cwV 1 hts gX5_markCandidates_X3_push rfl rfl rfl (by decide +kernel) ⟨Nat.le_of_ble_eq_true rfl, Nat.le_of_ble_eq_true rfl⟩) rfl hK hP hD hS hA 9 rfl rfl rfl [9, 10, 11, 12, 13] rfl (by decide +kernel) rfl (Nat.le_of_ble_eq_true rfl) dX5_markCandidates_126 ⟨Nat.zero_le _, Nat.zero_le _⟩ (fun H locs hP hD hS => ?_)
              have hP : va_P D vwCl (wD_row_tally_aside cA ad block ties lines pmn row tally q11) H := hP
              have hD : va_D A (wD_row_tally_aside cA ad block ties lines pmn row tally q11) := hD
              refine lv_iinc (v := (x5 + 1)) (lv' := [(5, .int (x5 + 1)), (0, .ref (ad 0)), (2, .int x2), (3, .int x3), (4, .int x4)]) hx hb dX5_markCandidates_129 hl (k := 4) rfl rfl (by decide) rfl (fun ls hl => ?_)
              refine lv_goto (tgt := 93) hx hb dX5_markCandidates_132 (by decide) ?_
              exact ih93 x2 x3 x4 (x5 + 1) block ties lines pmn row tally q11 z7 _ _ _ (lv_sub hl [1, 2, 3, 4, 0] rfl) hP hD hS h hk93
            · have h := e_f c9 h
              refine lv_iload hx hb dX5_markCandidates_105 (lv_at hl 4 rfl) ?_
              refine lv_iload hx hb dX5_markCandidates_107 (lv_at hl 3 rfl) ?_
              refine lv_icmp_lt (tgt := 129) hx hb dX5_markCandidates_109 (by decide) (fun c12 => ?_) (fun c12 => ?_)
              · have h := e_t c12 h
                refine lv_iinc (v := (x5 + 1)) (lv' := [(5, .int (x5 + 1)), (0, .ref (ad 0)), (2, .int x2), (3, .int x3), (4, .int x4)]) hx hb dX5_markCandidates_129 hl (k := 4) rfl rfl (by decide) rfl (fun ls hl => ?_)
                refine lv_goto (tgt := 93) hx hb dX5_markCandidates_132 (by decide) ?_
                exact ih93 x2 x3 x4 (x5 + 1) block ties lines pmn row tally aside z7 _ _ _ (lv_sub hl [1, 2, 3, 4, 0] rfl) hP hD hS h hk93
              · have h := e_f c12 h
                refine lv_aload_n hx hb dX5_markCandidates_112 rfl (lv_at hl 0 rfl) ?_
                refine va_get (D := D) (ci := 5) (v := .ref (ad 56)) (C := RX5) (T := TX5) (N := 12) hx hb hts iX5 hown hK hP 0 rfl rfl 6 (Nat.le_of_ble_eq_true rfl) f47 (fun _ h9 => h9) rfl dX5_markCandidates_113 ?_
                refine lv_aload_n hx hb dX5_markCandidates_116 rfl (lv_at hl 0 rfl) ?_
                refine va_get (D := D) (ci := 5) (v := .ref (ad 7)) (C := RX5) (T := TX5) (N := 12) hx hb hts iX5 hown hK hP 0 rfl rfl 2 (Nat.le_of_ble_eq_true rfl) f26 (fun _ h9 => h9) rfl dX5_markCandidates_117 ?_
                refine va_get (D := D) (ci := 2) (v := .ref (ad 8)) (C := RX2) (T := TX2) (N := 3) hx hb hts iX2 hown hK hP 1 rfl rfl 0 (Nat.le_of_ble_eq_true rfl) f106 (fun _ h9 => h9) rfl dX5_markCandidates_120 ?_
                refine lv_iload hx hb dX5_markCandidates_123 (lv_at hl 4 rfl) ?_
                obtain ⟨v13, ev13, nv13, h⟩ := e_rd h
                refine xa_iald hx hb hK hP 2 rfl nv13 ev13 dX5_markCandidates_125 ?_
                obtain ⟨q14, eq14, h⟩ := e_b h
                refine xv_v (As := [.int v13]) (rest := []) (ci := 3) (b := ad 56) ⟨hx, hb, hml, hown, hts⟩ hl.1 (kX3_push l D cA (fun i => ad (56 + i)) aside v13 _ eq14) (cwV 1 hts gX5_markCandidates_X3_push rfl rfl rfl (by decide +kernel) ⟨Nat.le_of_ble_eq_true rfl, Nat.le_of_ble_eq_true rfl⟩) rfl hK hP hD hS hA 9 rfl rfl rfl [9, 10, 11, 12, 13] rfl (by decide +kernel) rfl (Nat.le_of_ble_eq_true rfl) dX5_markCandidates_126 ⟨Nat.zero_le _, Nat.zero_le _⟩ (fun H locs hP hD hS => ?_)
                have hP : va_P D vwCl (wD_row_tally_aside cA ad block ties lines pmn row tally q14) H := hP
                have hD : va_D A (wD_row_tally_aside cA ad block ties lines pmn row tally q14) := hD
                refine lv_iinc (v := (x5 + 1)) (lv' := [(5, .int (x5 + 1)), (0, .ref (ad 0)), (2, .int x2), (3, .int x3), (4, .int x4)]) hx hb dX5_markCandidates_129 hl (k := 4) rfl rfl (by decide) rfl (fun ls hl => ?_)
                refine lv_goto (tgt := 93) hx hb dX5_markCandidates_132 (by decide) ?_
                exact ih93 x2 x3 x4 (x5 + 1) block ties lines pmn row tally q14 z7 _ _ _ (lv_sub hl [1, 2, 3, 4, 0] rfl) hP hD hS h hk93
      obtain ⟨z15, ez15, h⟩ := e_b h
      refine hL93 FU x2 (v1 * block) z2 x1 block ties lines pmn row z5.1 z5.2 z15 _ _ _ (lv_sub hl [1, 3, 4, 5, 0] rfl) hP hD hS ez15 (fun ls H locs hl hP hD hS => ?_)
      obtain rfl := e_s h
      exact hret hP hS dX5_markCandidates_135
    have h := ez5
    refine lv_icmp_ge (tgt := 90) hx hb dX5_markCandidates_71 (by decide) (fun c16 => ?_) (fun c16 => ?_)
    · have h := e_t c16 h
      obtain rfl := e_s h
      exact hJ6 _ _ _ (lv_sub hl [1, 2, 3, 4, 0] rfl) hP hD hS
    · have h := e_f c16 h
      refine lv_aload_n hx hb dX5_markCandidates_74 rfl (lv_at hl 1 rfl) ?_
      refine va_get (D := D) (ci := 5) (v := .ref (ad 56)) (C := RX5) (T := TX5) (N := 12) hx hb hts iX5 hown hK hP 0 rfl rfl 6 (Nat.le_of_ble_eq_true rfl) f47 (fun _ h9 => h9) rfl dX5_markCandidates_75 ?_
      refine lv_aload_n hx hb dX5_markCandidates_78 rfl (lv_at hl 1 rfl) ?_
      refine lv_iload_n hx hb dX5_markCandidates_79 rfl (lv_at hl 4 rfl) ?_
      refine lv_iload hx hb dX5_markCandidates_80 (lv_at hl 0 rfl) ?_
      refine lv_iconst (v := 1) hx hb dX5_markCandidates_82 (by decide) ?_
      refine lv_isub hx hb dX5_markCandidates_83 ?_
      obtain ⟨q17, eq17, h⟩ := e_b h
      refine xv_i (As := [.int (v1 * block), .int (z2 - 1)]) (rest := [.ref (ad 56)]) (ci := 5) (b := ad 0) ⟨hx, hb, hml, hown, hts⟩ hl.1 (kX5_modeOf l D cA ad block ties lines pmn row tally (v1 * block) (z2 - 1) _ eq17) (cwV 2 hts gX5_markCandidates_X5_modeOf rfl rfl rfl (by decide +kernel) ⟨Nat.le_of_ble_eq_true rfl, Nat.le_of_ble_eq_true rfl⟩) rfl hK hP hD hS hA 0 rfl rfl rfl [0, 1, 2, 3, 4, 5, 6, 7, 8] rfl (by decide +kernel) rfl (Nat.le_of_ble_eq_true rfl) dX5_markCandidates_84 ⟨Nat.zero_le _, Nat.zero_le _⟩ (fun H locs hP hD hS hnq17 => ?_)
      have hP : va_P D vwCl (wD_row_tally_aside cA ad block ties lines pmn row q17.2 q4) H := hP
      have hD : va_D A (wD_row_tally_aside cA ad block ties lines pmn row q17.2 q4) := hD
      obtain ⟨q18, eq18, h⟩ := e_b h
      refine xv_v (As := [.int q17.1]) (rest := []) (ci := 3) (b := ad 56) ⟨hx, hb, hml, hown, hts⟩ hl.1 (kX3_push l D cA (fun i => ad (56 + i)) q4 q17.1 _ eq18) (cwV 1 hts gX5_markCandidates_X3_push rfl rfl rfl (by decide +kernel) ⟨Nat.le_of_ble_eq_true rfl, Nat.le_of_ble_eq_true rfl⟩) rfl hK hP hD hS hA 9 rfl rfl rfl [9, 10, 11, 12, 13] rfl (by decide +kernel) rfl (Nat.le_of_ble_eq_true rfl) dX5_markCandidates_87 ⟨Nat.zero_le _, Nat.zero_le _⟩ (fun H locs hP hD hS => ?_)
      have hP : va_P D vwCl (wD_row_tally_aside cA ad block ties lines pmn row q17.2 q18) H := hP
      have hD : va_D A (wD_row_tally_aside cA ad block ties lines pmn row q17.2 q18) := hD
      obtain rfl := e_s h
      exact hJ6 _ _ _ (lv_sub hl [1, 2, 3, 4, 0] rfl) hP hD hS
  have h := ez2
  refine lv_icmp_ne (tgt := 42) hx hb dX5_markCandidates_29 (by decide) (fun c19 => ?_) (fun c19 => ?_)
  · have h := e_t c19 h
    refine lv_iload_n hx hb dX5_markCandidates_42 rfl (lv_at hl 3 rfl) ?_
    refine lv_iconst (v := 1) hx hb dX5_markCandidates_43 (by decide) ?_
    refine lv_iadd hx hb dX5_markCandidates_44 ?_
    refine lv_aload_n hx hb dX5_markCandidates_45 rfl (lv_at hl 1 rfl) ?_
    refine va_get (D := D) (ci := 5) (v := .int block) (C := RX5) (T := TX5) (N := 12) hx hb hts iX5 hown hK hP 0 rfl rfl 8 (Nat.le_of_ble_eq_true rfl) f54 (fun _ h9 => h9) rfl dX5_markCandidates_46 ?_
    obtain ⟨v20, ev20, nv20, h⟩ := e_dv h
    refine xa_idiv hx hb dX5_markCandidates_49 nv20 ev20 ?_
    refine lv_aload_n hx hb dX5_markCandidates_50 rfl (lv_at hl 1 rfl) ?_
    refine va_get (D := D) (ci := 5) (v := .int block) (C := RX5) (T := TX5) (N := 12) hx hb hts iX5 hown hK hP 0 rfl rfl 8 (Nat.le_of_ble_eq_true rfl) f54 (fun _ h9 => h9) rfl dX5_markCandidates_51 ?_
    refine lv_imul hx hb dX5_markCandidates_54 ?_
    obtain rfl := e_s h
    exact hJ3 _ _ _ (lv_sub hl [1, 2, 3, 0] rfl) hP hD hS
  · have h := e_f (not_not_intro c19) h
    refine lv_aload_n hx hb dX5_markCandidates_32 rfl (lv_at hl 1 rfl) ?_
    refine va_get (D := D) (ci := 5) (v := .ref (ad 7)) (C := RX5) (T := TX5) (N := 12) hx hb hts iX5 hown hK hP 0 rfl rfl 2 (Nat.le_of_ble_eq_true rfl) f26 (fun _ h9 => h9) rfl dX5_markCandidates_33 ?_
    refine va_get (D := D) (ci := 2) (v := .int row.2.2) (C := RX2) (T := TX2) (N := 3) hx hb hts iX2 hown hK hP 1 rfl rfl 2 (Nat.le_of_ble_eq_true rfl) f135 (fun _ h9 => h9) rfl dX5_markCandidates_36 ?_
    refine lv_goto (tgt := 55) hx hb dX5_markCandidates_39 (by decide) ?_
    obtain rfl := e_s h
    exact hJ3 _ _ _ (lv_sub hl [1, 2, 3, 0] rfl) hP hD hS
set_option maxHeartbeats 4000000 in
set_option maxRecDepth 100000 in
theorem kX5_candidate (l : Launch) (D : va_G) (cA : Nat → ClassId) (ad : Nat → Nat) (block : Int32) (ties : Int32) (lines : Int32) (pmn : Int32) (row : RowT) (tally : TalT) (aside : TalT) (x1 : Int32) (x2 : Int32) (x3 : Int32) (q : Int32 × TalT × TalT) (h : mX5_candidate block ties row tally aside x1 x2 x3 = some q) : MI l yX5_candidate wsX5_candidate { frames := 5, cells := 0, slots := 0, locals := 113 } D cA .int [.ref (ad 0), .int x1, .int x2, .int x3] (wD_row_tally_aside cA ad block ties lines pmn row tally aside) (wD_row_tally_aside cA ad block ties lines pmn row q.2.1 q.2.2) q.1 := by
  refine MI.of (cc := cX5_candidate) (maxL := 6) (by decide +kernel) rfl rfl rfl (Nat.le_of_ble_eq_true rfl) ?_
  intro p e s m args below meth c A ls Q hx hb hml hts hown hK hP hD hA hS hl hret
  have hl : lv_has ls 6 [(0, .ref (ad 0)), (1, .int x1), (2, .int x2), (3, .int x3)] := hl
  have f182 := hts (.fieldLink RX5 182 "ModeDesk$Tally" "kinds" "I") (by decide +kernel)
  have f187 := hts (.fieldLink RX5 187 "ModeDesk$Tally" "kind" "[I") (by decide +kernel)
  have f190 := hts (.fieldLink RX5 190 "ModeDesk$Tally" "number" "[I") (by decide +kernel)
  have f26 := hts (.fieldLink RX5 26 "ModeDesk" "row" "LModeDesk$Row;") (by decide +kernel)
  have f43 := hts (.fieldLink RX5 43 "ModeDesk" "tally" "LModeDesk$Tally;") (by decide +kernel)
  have f47 := hts (.fieldLink RX5 47 "ModeDesk" "aside" "LModeDesk$Tally;") (by decide +kernel)
  have iX3 : ∀ w ∈ wsX30, w ∈ wsX5_candidate := by decide +kernel
  have iX5 : ∀ w ∈ wsX50, w ∈ wsX5_candidate := by decide +kernel
  unfold mX5_candidate at h
  refine lv_aload_n hx hb dX5_candidate_0 rfl (lv_at hl 0 rfl) ?_
  refine va_get (D := D) (ci := 5) (v := .ref (ad 7)) (C := RX5) (T := TX5) (N := 12) hx hb hts iX5 hown hK hP 0 rfl rfl 2 (Nat.le_of_ble_eq_true rfl) f26 (fun _ h9 => h9) rfl dX5_candidate_1 ?_
  refine lv_iload_n hx hb dX5_candidate_4 rfl (lv_at hl 1 rfl) ?_
  refine lv_iload_n hx hb dX5_candidate_5 rfl (lv_at hl 2 rfl) ?_
  obtain ⟨q1, eq1, h⟩ := e_b h
  refine xv_i (As := [.int x1, .int x2]) (rest := []) (ci := 2) (b := ad 7) ⟨hx, hb, hml, hown, hts⟩ hl.1 (kX2_hasSpan l D cA (fun i => ad (7 + i)) row x1 x2 _ eq1) (cwV 2 hts gX5_candidate_X2_hasSpan rfl rfl rfl (by decide +kernel) ⟨Nat.le_of_ble_eq_true rfl, Nat.le_of_ble_eq_true rfl⟩) rfl hK hP hD hS hA 1 rfl rfl rfl [1, 2, 3] rfl (by decide +kernel) rfl (Nat.le_of_ble_eq_true rfl) dX5_candidate_6 ⟨Nat.zero_le _, Nat.zero_le _⟩ (fun H locs hP hD hS hnq1 => ?_)
  have hP : va_P D vwCl (wD_row_tally_aside cA ad block ties lines pmn row tally aside) H := hP
  have hD : va_D A (wD_row_tally_aside cA ad block ties lines pmn row tally aside) := hD
  refine lv_if_eq (tgt := 17) hx hb dX5_candidate_9 (by decide) (fun c2 => ?_) (fun c2 => ?_)
  · have h := e_t c2 h
    refine lv_iconst (v := (-1)) hx hb dX5_candidate_17 (by decide) ?_
    obtain rfl := e_s h
    exact hret hP hS rfl dX5_candidate_18
  · have h := e_f c2 h
    refine lv_iload_n hx hb dX5_candidate_12 rfl (lv_at hl 3 rfl) ?_
    refine lv_iconst (v := (-1)) hx hb dX5_candidate_13 (by decide) ?_
    refine lv_icmp_ge (tgt := 19) hx hb dX5_candidate_14 (by decide) (fun c3 => ?_) (fun c3 => ?_)
    · have h := e_t c3 h
      refine lv_aload_n hx hb dX5_candidate_19 rfl (lv_at hl 0 rfl) ?_
      refine lv_iload_n hx hb dX5_candidate_20 rfl (lv_at hl 1 rfl) ?_
      refine lv_iload_n hx hb dX5_candidate_21 rfl (lv_at hl 2 rfl) ?_
      obtain ⟨q4, eq4, h⟩ := e_b h
      refine xv_v (As := [.int x1, .int x2]) (rest := []) (ci := 5) (b := ad 0) ⟨hx, hb, hml, hown, hts⟩ hl.1 (kX5_markCandidates l D cA ad block ties lines pmn row tally aside x1 x2 _ eq4) (cwV 2 hts gX5_candidate_X5_markCandidates rfl rfl rfl (by decide +kernel) ⟨Nat.le_of_ble_eq_true rfl, Nat.le_of_ble_eq_true rfl⟩) rfl hK hP hD hS hA 0 rfl rfl rfl [0, 1, 2, 3, 4, 5, 6, 7, 8, 9, 10, 11, 12, 13] rfl (by decide +kernel) rfl (Nat.le_of_ble_eq_true rfl) dX5_candidate_22 ⟨Nat.zero_le _, Nat.zero_le _⟩ (fun H locs hP hD hS => ?_)
      have hP : va_P D vwCl (wD_row_tally_aside cA ad block ties lines pmn row q4.1 q4.2) H := hP
      have hD : va_D A (wD_row_tally_aside cA ad block ties lines pmn row q4.1 q4.2) := hD
      refine lv_aload_n hx hb dX5_candidate_25 rfl (lv_at hl 0 rfl) ?_
      refine lv_iload_n hx hb dX5_candidate_26 rfl (lv_at hl 1 rfl) ?_
      refine lv_iload_n hx hb dX5_candidate_27 rfl (lv_at hl 2 rfl) ?_
      obtain ⟨q5, eq5, h⟩ := e_b h
      refine xv_v (As := [.int x1, .int x2]) (rest := []) (ci := 5) (b := ad 0) ⟨hx, hb, hml, hown, hts⟩ hl.1 (kX5_tallySpan l D cA ad block ties lines pmn row q4.1 x1 x2 _ eq5) (cwV 2 hts gX5_candidate_X5_tallySpan rfl rfl rfl (by decide +kernel) ⟨Nat.le_of_ble_eq_true rfl, Nat.le_of_ble_eq_true rfl⟩) rfl hK hP hD hS hA 0 rfl rfl rfl [0, 1, 2, 3, 4, 5, 6, 7, 8] rfl (by decide +kernel) rfl (Nat.le_of_ble_eq_true rfl) dX5_candidate_28 ⟨Nat.zero_le _, Nat.zero_le _⟩ (fun H locs hP hD hS => ?_)
      have hP : va_P D vwCl (wD_row_tally_aside cA ad block ties lines pmn row q5 q4.2) H := hP
      have hD : va_D A (wD_row_tally_aside cA ad block ties lines pmn row q5 q4.2) := hD
      refine lv_aload_n hx hb dX5_candidate_31 rfl (lv_at hl 0 rfl) ?_
      refine va_get (D := D) (ci := 5) (v := .ref (ad 51)) (C := RX5) (T := TX5) (N := 12) hx hb hts iX5 hown hK hP 0 rfl rfl 5 (Nat.le_of_ble_eq_true rfl) f43 (fun _ h9 => h9) rfl dX5_candidate_32 ?_
      obtain ⟨q6, eq6, h⟩ := e_b h
      refine xv_v (As := []) (rest := []) (ci := 3) (b := ad 51) ⟨hx, hb, hml, hown, hts⟩ hl.1 (kX3_order l D cA (fun i => ad (51 + i)) q5  _ eq6) (cwV 0 hts gX5_candidate_X3_order rfl rfl rfl (by decide +kernel) ⟨Nat.le_of_ble_eq_true rfl, Nat.le_of_ble_eq_true rfl⟩) rfl hK hP hD hS hA 4 rfl rfl rfl [4, 5, 6, 7, 8] rfl (by decide +kernel) rfl (Nat.le_of_ble_eq_true rfl) dX5_candidate_35 ⟨Nat.zero_le _, Nat.zero_le _⟩ (fun H locs hP hD hS => ?_)
      have hP : va_P D vwCl (wD_row_tally_aside cA ad block ties lines pmn row q6 q4.2) H := hP
      have hD : va_D A (wD_row_tally_aside cA ad block ties lines pmn row q6 q4.2) := hD
      refine lv_iconst (v := 0) hx hb dX5_candidate_38 (by decide) ?_
      refine lv_istore (lv' := [(4, .int 0), (0, .ref (ad 0)), (1, .int x1), (2, .int x2), (3, .int x3)]) hx hb dX5_candidate_39 hl (by decide) rfl (fun ls hl => ?_)
      refine lv_iconst (v := 0) hx hb dX5_candidate_41 (by decide) ?_
      refine lv_istore (lv' := [(5, .int 0), (4, .int 0), (0, .ref (ad 0)), (1, .int x1), (2, .int x2), (3, .int x3)]) hx hb dX5_candidate_42 hl (by decide) rfl (fun ls hl => ?_)
      have hL44 : ∀ (n : Nat) (x3 : Int32) (x4 : Int32) (x5 : Int32) (ls : Array Slot) (H : Heap) (locs : List Loc), lv_has ls 6 [(0, .ref (ad 0)), (3, .int x3), (4, .int x4), (5, .int x5)] → va_P D vwCl (wD_row_tally_aside cA ad block ties lines pmn row q6 q4.2) H → va_D A (wD_row_tally_aside cA ad block ties lines pmn row q6 q4.2) → va_S A s.heap H locs → mX5_candidate_L44 q6 q4.2 x3 n x4 x5 = some q → W p l e (headSpec wsX5_candidate { frames := 5, cells := 0, slots := 0, locals := 113 }).room s m args below meth c H locs 0 0 Q (F0 m 44 ls []) := by
        intro n
        induction n with
        | zero => intro x3 x4 x5 ls H locs hl hP hD hS h; exact e_n h
        | succ n ih44 =>
          intro x3 x4 x5 ls H locs hl hP hD hS h
          rw [mX5_candidate_L44.eq_2] at h
          refine lv_iload hx hb dX5_candidate_44 (lv_at hl 3 rfl) ?_
          refine lv_aload_n hx hb dX5_candidate_46 rfl (lv_at hl 0 rfl) ?_
          refine va_get (D := D) (ci := 5) (v := .ref (ad 51)) (C := RX5) (T := TX5) (N := 12) hx hb hts iX5 hown hK hP 0 rfl rfl 5 (Nat.le_of_ble_eq_true rfl) f43 (fun _ h9 => h9) rfl dX5_candidate_47 ?_
          refine va_get (D := D) (ci := 3) (v := .int q6.2.2.2.2.1) (C := RX3) (T := TX3) (N := 8) hx hb hts iX3 hown hK hP 4 rfl rfl 4 (Nat.le_of_ble_eq_true rfl) f182 (fun _ h9 => h9) rfl dX5_candidate_50 ?_
          refine lv_icmp_ge (tgt := 103) hx hb dX5_candidate_53 (by decide) (fun c8 => ?_) (fun c8 => ?_)
          · have h := e_t c8 h
            refine lv_iload_n hx hb dX5_candidate_103 rfl (lv_at hl 1 rfl) ?_
            refine lv_iconst (v := (-1)) hx hb dX5_candidate_104 (by decide) ?_
            refine lv_icmp_ne (tgt := 113) hx hb dX5_candidate_105 (by decide) (fun c9 => ?_) (fun c9 => ?_)
            · have h := e_t c9 h
              refine lv_bipush (v := (-2)) hx hb dX5_candidate_113 (by decide) ?_
              obtain rfl := e_s h
              exact hret hP hS rfl dX5_candidate_115
            · have h := e_f (not_not_intro c9) h
              refine lv_iload hx hb dX5_candidate_108 (lv_at hl 2 rfl) ?_
              refine lv_goto (tgt := 115) hx hb dX5_candidate_110 (by decide) ?_
              obtain rfl := e_s h
              exact hret hP hS rfl dX5_candidate_115
          · have h := e_f c8 h
            refine lv_aload_n hx hb dX5_candidate_56 rfl (lv_at hl 0 rfl) ?_
            refine va_get (D := D) (ci := 5) (v := .ref (ad 56)) (C := RX5) (T := TX5) (N := 12) hx hb hts iX5 hown hK hP 0 rfl rfl 6 (Nat.le_of_ble_eq_true rfl) f47 (fun _ h9 => h9) rfl dX5_candidate_57 ?_
            refine va_get (D := D) (ci := 3) (v := .ref (ad 57)) (C := RX3) (T := TX3) (N := 8) hx hb hts iX3 hown hK hP 9 rfl rfl 0 (Nat.le_of_ble_eq_true rfl) f190 (fun _ h9 => h9) rfl dX5_candidate_60 ?_
            refine lv_aload_n hx hb dX5_candidate_63 rfl (lv_at hl 0 rfl) ?_
            refine va_get (D := D) (ci := 5) (v := .ref (ad 51)) (C := RX5) (T := TX5) (N := 12) hx hb hts iX5 hown hK hP 0 rfl rfl 5 (Nat.le_of_ble_eq_true rfl) f43 (fun _ h9 => h9) rfl dX5_candidate_64 ?_
            refine va_get (D := D) (ci := 3) (v := .ref (ad 55)) (C := RX3) (T := TX3) (N := 8) hx hb hts iX3 hown hK hP 4 rfl rfl 3 (Nat.le_of_ble_eq_true rfl) f187 (fun _ h9 => h9) rfl dX5_candidate_67 ?_
            refine lv_iload hx hb dX5_candidate_70 (lv_at hl 3 rfl) ?_
            obtain ⟨v10, ev10, nv10, h⟩ := e_rd h
            refine xa_iald hx hb hK hP 8 rfl nv10 ev10 dX5_candidate_72 ?_
            obtain ⟨v11, ev11, nv11, h⟩ := e_rd h
            refine xa_iald hx hb hK hP 10 rfl nv11 ev11 dX5_candidate_73 ?_
            refine lv_if_le (tgt := 97) hx hb dX5_candidate_74 (by decide) (fun c12 => ?_) (fun c12 => ?_)
            · have h := e_t c12 h
              refine lv_iinc (v := (x5 + 1)) (lv' := [(5, .int (x5 + 1)), (0, .ref (ad 0)), (3, .int x3), (4, .int x4)]) hx hb dX5_candidate_97 hl (k := 3) rfl rfl (by decide) rfl (fun ls hl => ?_)
              refine lv_goto (tgt := 44) hx hb dX5_candidate_100 (by decide) ?_
              exact ih44 x3 x4 (x5 + 1) _ _ _ (lv_sub hl [1, 2, 3, 0] rfl) hP hD hS h
            · have h := e_f c12 h
              refine lv_iload hx hb dX5_candidate_77 (lv_at hl 2 rfl) ?_
              refine lv_iload_n hx hb dX5_candidate_79 rfl (lv_at hl 1 rfl) ?_
              refine lv_icmp_ne (tgt := 94) hx hb dX5_candidate_80 (by decide) (fun c13 => ?_) (fun c13 => ?_)
              · have h := e_t c13 h
                refine lv_iinc (v := (x4 + 1)) (lv' := [(4, .int (x4 + 1)), (0, .ref (ad 0)), (3, .int x3), (5, .int x5)]) hx hb dX5_candidate_94 hl (k := 2) rfl rfl (by decide) rfl (fun ls hl => ?_)
                refine lv_iinc (v := (x5 + 1)) (lv' := [(5, .int (x5 + 1)), (4, .int (x4 + 1)), (0, .ref (ad 0)), (3, .int x3)]) hx hb dX5_candidate_97 hl (k := 3) rfl rfl (by decide) rfl (fun ls hl => ?_)
                refine lv_goto (tgt := 44) hx hb dX5_candidate_100 (by decide) ?_
                exact ih44 x3 (x4 + 1) (x5 + 1) _ _ _ (lv_sub hl [2, 3, 1, 0] rfl) hP hD hS h
              · have h := e_f (not_not_intro c13) h
                refine lv_aload_n hx hb dX5_candidate_83 rfl (lv_at hl 0 rfl) ?_
                refine va_get (D := D) (ci := 5) (v := .ref (ad 51)) (C := RX5) (T := TX5) (N := 12) hx hb hts iX5 hown hK hP 0 rfl rfl 5 (Nat.le_of_ble_eq_true rfl) f43 (fun _ h9 => h9) rfl dX5_candidate_84 ?_
                refine va_get (D := D) (ci := 3) (v := .ref (ad 55)) (C := RX3) (T := TX3) (N := 8) hx hb hts iX3 hown hK hP 4 rfl rfl 3 (Nat.le_of_ble_eq_true rfl) f187 (fun _ h9 => h9) rfl dX5_candidate_87 ?_
                refine lv_iload hx hb dX5_candidate_90 (lv_at hl 3 rfl) ?_
                obtain ⟨v14, ev14, nv14, h⟩ := e_rd h
                refine xa_iald hx hb hK hP 8 rfl nv14 ev14 dX5_candidate_92 ?_
                obtain rfl := e_s h
                exact hret hP hS rfl dX5_candidate_93
      exact hL44 FU x3 0 0 _ _ _ (lv_sub hl [2, 5, 1, 0] rfl) hP hD hS h
    · have h := e_f c3 h
      refine lv_iconst (v := (-1)) hx hb dX5_candidate_17 (by decide) ?_
      obtain rfl := e_s h
      exact hret hP hS rfl dX5_candidate_18
set_option maxHeartbeats 4000000 in
set_option maxRecDepth 100000 in
theorem kX5_at (l : Launch) (D : va_G) (cA : Nat → ClassId) (ad : Nat → Nat) (block : Int32) (ties : Int32) (lines : Int32) (pmn : Int32) (row : RowT) (x1 : Int32) (x2 : Int32) (q : Int32) (h : mX5_at row x1 x2 = some q) : MI l yX5_at wsX5_at { frames := 1, cells := 0, slots := 0, locals := 20 } D cA .int [.ref (ad 0), .int x1, .int x2] (wD_row cA ad block ties lines pmn row) (wD_row cA ad block ties lines pmn row) q := by
  refine MI.of (cc := cX5_at) (maxL := 5) (by decide +kernel) rfl rfl rfl (Nat.le_of_ble_eq_true rfl) ?_
  intro p e s m args below meth c A ls Q hx hb hml hts hown hK hP hD hA hS hl hret
  have hl : lv_has ls 5 [(0, .ref (ad 0)), (1, .int x1), (2, .int x2)] := hl
  have f106 := hts (.fieldLink RX5 106 "ModeDesk$Row" "values" "[I") (by decide +kernel)
  have f135 := hts (.fieldLink RX5 135 "ModeDesk$Row" "size" "I") (by decide +kernel)
  have f26 := hts (.fieldLink RX5 26 "ModeDesk" "row" "LModeDesk$Row;") (by decide +kernel)
  have iX2 : ∀ w ∈ wsX20, w ∈ wsX5_at := by decide +kernel
  have iX5 : ∀ w ∈ wsX50, w ∈ wsX5_at := by decide +kernel
  unfold mX5_at at h
  refine lv_iload_n hx hb dX5_at_0 rfl (lv_at hl 1 rfl) ?_
  obtain ⟨q1, eq1, h⟩ := e_b h
  refine xs_i (As := [.int x1]) (rest := []) ⟨hx, hb, hml, hown, hts⟩ hl.1 (kX5_isValue l D cA   x1 _ eq1) (va_cwS 1 hts gX5_at_X5_isValue rfl rfl rfl (by decide +kernel) ⟨Nat.le_of_ble_eq_true rfl, Nat.le_of_ble_eq_true rfl⟩) rfl hK hP hD hS hA [] rfl (by decide +kernel) rfl (Nat.le_of_ble_eq_true rfl) dX5_at_1 ⟨Nat.zero_le _, Nat.zero_le _⟩ (fun H locs hP hD hS hnq1 => ?_)
  have hP : va_P D vwCl (wD_row cA ad block ties lines pmn row) H := hP
  have hD : va_D A (wD_row cA ad block ties lines pmn row) := hD
  refine lv_if_eq (tgt := 11) hx hb dX5_at_4 (by decide) (fun c2 => ?_) (fun c2 => ?_)
  · have h := e_t c2 h
    refine lv_iconst (v := (-1)) hx hb dX5_at_11 (by decide) ?_
    obtain rfl := e_s h
    exact hret hP hS rfl dX5_at_12
  · have h := e_f c2 h
    refine lv_iload_n hx hb dX5_at_7 rfl (lv_at hl 2 rfl) ?_
    refine lv_if_ge (tgt := 13) hx hb dX5_at_8 (by decide) (fun c3 => ?_) (fun c3 => ?_)
    · have h := e_t c3 h
      refine lv_iload_n hx hb dX5_at_13 rfl (lv_at hl 2 rfl) ?_
      refine lv_istore_n (lv' := [(3, .int x2), (0, .ref (ad 0)), (1, .int x1), (2, .int x2)]) hx hb dX5_at_14 rfl hl (by decide) rfl (fun ls hl => ?_)
      refine lv_iconst (v := 0) hx hb dX5_at_15 (by decide) ?_
      refine lv_istore (lv' := [(4, .int 0), (3, .int x2), (0, .ref (ad 0)), (1, .int x1), (2, .int x2)]) hx hb dX5_at_16 hl (by decide) rfl (fun ls hl => ?_)
      have hL18 : ∀ (n : Nat) (x1 : Int32) (x3 : Int32) (x4 : Int32) (ls : Array Slot) (H : Heap) (locs : List Loc), lv_has ls 5 [(0, .ref (ad 0)), (1, .int x1), (3, .int x3), (4, .int x4)] → va_P D vwCl (wD_row cA ad block ties lines pmn row) H → va_D A (wD_row cA ad block ties lines pmn row) → va_S A s.heap H locs → mX5_at_L18 row x1 n x3 x4 = some q → W p l e (headSpec wsX5_at { frames := 1, cells := 0, slots := 0, locals := 20 }).room s m args below meth c H locs 0 0 Q (F0 m 18 ls []) := by
        intro n
        induction n with
        | zero => intro x1 x3 x4 ls H locs hl hP hD hS h; exact e_n h
        | succ n ih18 =>
          intro x1 x3 x4 ls H locs hl hP hD hS h
          rw [mX5_at_L18.eq_2] at h
          refine lv_iload hx hb dX5_at_18 (lv_at hl 3 rfl) ?_
          refine lv_aload_n hx hb dX5_at_20 rfl (lv_at hl 0 rfl) ?_
          refine va_get (D := D) (ci := 5) (v := .ref (ad 7)) (C := RX5) (T := TX5) (N := 12) hx hb hts iX5 hown hK hP 0 rfl rfl 2 (Nat.le_of_ble_eq_true rfl) f26 (fun _ h9 => h9) rfl dX5_at_21 ?_
          refine va_get (D := D) (ci := 2) (v := .int row.2.2) (C := RX2) (T := TX2) (N := 3) hx hb hts iX2 hown hK hP 1 rfl rfl 2 (Nat.le_of_ble_eq_true rfl) f135 (fun _ h9 => h9) rfl dX5_at_24 ?_
          refine lv_icmp_ge (tgt := 60) hx hb dX5_at_27 (by decide) (fun c5 => ?_) (fun c5 => ?_)
          · have h := e_t c5 h
            refine lv_bipush (v := (-2)) hx hb dX5_at_60 (by decide) ?_
            obtain rfl := e_s h
            exact hret hP hS rfl dX5_at_62
          · have h := e_f c5 h
            refine lv_aload_n hx hb dX5_at_30 rfl (lv_at hl 0 rfl) ?_
            refine va_get (D := D) (ci := 5) (v := .ref (ad 7)) (C := RX5) (T := TX5) (N := 12) hx hb hts iX5 hown hK hP 0 rfl rfl 2 (Nat.le_of_ble_eq_true rfl) f26 (fun _ h9 => h9) rfl dX5_at_31 ?_
            refine va_get (D := D) (ci := 2) (v := .ref (ad 8)) (C := RX2) (T := TX2) (N := 3) hx hb hts iX2 hown hK hP 1 rfl rfl 0 (Nat.le_of_ble_eq_true rfl) f106 (fun _ h9 => h9) rfl dX5_at_34 ?_
            refine lv_iload hx hb dX5_at_37 (lv_at hl 3 rfl) ?_
            obtain ⟨v6, ev6, nv6, h⟩ := e_rd h
            refine xa_iald hx hb hK hP 2 rfl nv6 ev6 dX5_at_39 ?_
            refine lv_iload_n hx hb dX5_at_40 rfl (lv_at hl 1 rfl) ?_
            refine lv_icmp_ne (tgt := 54) hx hb dX5_at_41 (by decide) (fun c7 => ?_) (fun c7 => ?_)
            · have h := e_t c7 h
              refine lv_iinc (v := (x4 + 1)) (lv' := [(4, .int (x4 + 1)), (0, .ref (ad 0)), (1, .int x1), (3, .int x3)]) hx hb dX5_at_54 hl (k := 3) rfl rfl (by decide) rfl (fun ls hl => ?_)
              refine lv_goto (tgt := 18) hx hb dX5_at_57 (by decide) ?_
              exact ih18 x1 x3 (x4 + 1) _ _ _ (lv_sub hl [1, 2, 3, 0] rfl) hP hD hS h
            · have h := e_f (not_not_intro c7) h
              refine lv_iload_n hx hb dX5_at_44 rfl (lv_at hl 2 rfl) ?_
              refine lv_if_ne (tgt := 51) hx hb dX5_at_45 (by decide) (fun c8 => ?_) (fun c8 => ?_)
              · have h := e_t c8 h
                refine lv_iinc (v := (x3 + (-1))) (lv' := [(3, .int (x3 + (-1))), (0, .ref (ad 0)), (1, .int x1), (4, .int x4)]) hx hb dX5_at_51 hl (k := 2) rfl rfl (by decide) rfl (fun ls hl => ?_)
                refine lv_iinc (v := (x4 + 1)) (lv' := [(4, .int (x4 + 1)), (3, .int (x3 + (-1))), (0, .ref (ad 0)), (1, .int x1)]) hx hb dX5_at_54 hl (k := 3) rfl rfl (by decide) rfl (fun ls hl => ?_)
                refine lv_goto (tgt := 18) hx hb dX5_at_57 (by decide) ?_
                exact ih18 x1 (x3 + (-1)) (x4 + 1) _ _ _ (lv_sub hl [2, 3, 1, 0] rfl) hP hD hS h
              · have h := e_f (not_not_intro c8) h
                refine lv_iload hx hb dX5_at_48 (lv_at hl 3 rfl) ?_
                obtain rfl := e_s h
                exact hret hP hS rfl dX5_at_50
      exact hL18 FU x1 x2 0 _ _ _ (lv_sub hl [2, 3, 1, 0] rfl) hP hD hS h
    · have h := e_f c3 h
      refine lv_iconst (v := (-1)) hx hb dX5_at_11 (by decide) ?_
      obtain rfl := e_s h
      exact hret hP hS rfl dX5_at_12
set_option maxHeartbeats 4000000 in
set_option maxRecDepth 100000 in
theorem kX5_follow (l : Launch) (D : va_G) (cA : Nat → ClassId) (ad : Nat → Nat) (block : Int32) (ties : Int32) (lines : Int32) (pmn : Int32) (row : RowT) (x1 : Int32) (x2 : Int32) (x3 : Int32) (q : Int32) (h : mX5_follow row x1 x2 x3 = some q) : MI l yX5_follow wsX5_follow { frames := 2, cells := 0, slots := 0, locals := 47 } D cA .int [.ref (ad 0), .int x1, .int x2, .int x3] (wD_row cA ad block ties lines pmn row) (wD_row cA ad block ties lines pmn row) q := by
  refine MI.of (cc := cX5_follow) (maxL := 4) (by decide +kernel) rfl rfl rfl (Nat.le_of_ble_eq_true rfl) ?_
  intro p e s m args below meth c A ls Q hx hb hml hts hown hK hP hD hA hS hl hret
  have hl : lv_has ls 4 [(0, .ref (ad 0)), (1, .int x1), (2, .int x2), (3, .int x3)] := hl
  have f26 := hts (.fieldLink RX5 26 "ModeDesk" "row" "LModeDesk$Row;") (by decide +kernel)
  have iX5 : ∀ w ∈ wsX50, w ∈ wsX5_follow := by decide +kernel
  unfold mX5_follow at h
  refine lv_iload_n hx hb dX5_follow_0 rfl (lv_at hl 1 rfl) ?_
  obtain ⟨q1, eq1, h⟩ := e_b h
  refine xs_i (As := [.int x1]) (rest := []) ⟨hx, hb, hml, hown, hts⟩ hl.1 (kX5_isValue l D cA   x1 _ eq1) (va_cwS 1 hts gX5_follow_X5_isValue rfl rfl rfl (by decide +kernel) ⟨Nat.le_of_ble_eq_true rfl, Nat.le_of_ble_eq_true rfl⟩) rfl hK hP hD hS hA [] rfl (by decide +kernel) rfl (Nat.le_of_ble_eq_true rfl) dX5_follow_1 ⟨Nat.zero_le _, Nat.zero_le _⟩ (fun H locs hP hD hS hnq1 => ?_)
  have hP : va_P D vwCl (wD_row cA ad block ties lines pmn row) H := hP
  have hD : va_D A (wD_row cA ad block ties lines pmn row) := hD
  refine lv_if_eq (tgt := 18) hx hb dX5_follow_4 (by decide) (fun c2 => ?_) (fun c2 => ?_)
  · have h := e_t c2 h
    refine lv_iconst (v := (-1)) hx hb dX5_follow_18 (by decide) ?_
    obtain rfl := e_s h
    exact hret hP hS rfl dX5_follow_19
  · have h := e_f c2 h
    refine lv_aload_n hx hb dX5_follow_7 rfl (lv_at hl 0 rfl) ?_
    refine va_get (D := D) (ci := 5) (v := .ref (ad 7)) (C := RX5) (T := TX5) (N := 12) hx hb hts iX5 hown hK hP 0 rfl rfl 2 (Nat.le_of_ble_eq_true rfl) f26 (fun _ h9 => h9) rfl dX5_follow_8 ?_
    refine lv_iload_n hx hb dX5_follow_11 rfl (lv_at hl 2 rfl) ?_
    obtain ⟨q3, eq3, h⟩ := e_b h
    refine xv_i (As := [.int x2]) (rest := []) (ci := 2) (b := ad 7) ⟨hx, hb, hml, hown, hts⟩ hl.1 (kX2_has l D cA (fun i => ad (7 + i)) row x2 _ eq3) (cwV 1 hts gX5_follow_X2_has rfl rfl rfl (by decide +kernel) ⟨Nat.le_of_ble_eq_true rfl, Nat.le_of_ble_eq_true rfl⟩) rfl hK hP hD hS hA 1 rfl rfl rfl [1, 2, 3] rfl (by decide +kernel) rfl (Nat.le_of_ble_eq_true rfl) dX5_follow_12 ⟨Nat.zero_le _, Nat.zero_le _⟩ (fun H locs hP hD hS hnq3 => ?_)
    have hP : va_P D vwCl (wD_row cA ad block ties lines pmn row) H := hP
    have hD : va_D A (wD_row cA ad block ties lines pmn row) := hD
    refine lv_if_ne (tgt := 20) hx hb dX5_follow_15 (by decide) (fun c4 => ?_) (fun c4 => ?_)
    · have h := e_t c4 h
      refine lv_iload_n hx hb dX5_follow_20 rfl (lv_at hl 3 rfl) ?_
      refine lv_if_eq (tgt := 36) hx hb dX5_follow_21 (by decide) (fun c5 => ?_) (fun c5 => ?_)
      · have h := e_t c5 h
        refine lv_aload_n hx hb dX5_follow_36 rfl (lv_at hl 0 rfl) ?_
        refine va_get (D := D) (ci := 5) (v := .ref (ad 7)) (C := RX5) (T := TX5) (N := 12) hx hb hts iX5 hown hK hP 0 rfl rfl 2 (Nat.le_of_ble_eq_true rfl) f26 (fun _ h9 => h9) rfl dX5_follow_37 ?_
        refine lv_iload_n hx hb dX5_follow_40 rfl (lv_at hl 1 rfl) ?_
        refine lv_iload_n hx hb dX5_follow_41 rfl (lv_at hl 2 rfl) ?_
        obtain ⟨q6, eq6, h⟩ := e_b h
        refine xv_i (As := [.int x1, .int x2]) (rest := []) (ci := 2) (b := ad 7) ⟨hx, hb, hml, hown, hts⟩ hl.1 (kX2_from l D cA (fun i => ad (7 + i)) row x1 x2 _ eq6) (cwV 2 hts gX5_follow_X2_from rfl rfl rfl (by decide +kernel) ⟨Nat.le_of_ble_eq_true rfl, Nat.le_of_ble_eq_true rfl⟩) rfl hK hP hD hS hA 1 rfl rfl rfl [1, 2, 3] rfl (by decide +kernel) rfl (Nat.le_of_ble_eq_true rfl) dX5_follow_42 ⟨Nat.zero_le _, Nat.zero_le _⟩ (fun H locs hP hD hS hnq6 => ?_)
        have hP : va_P D vwCl (wD_row cA ad block ties lines pmn row) H := hP
        have hD : va_D A (wD_row cA ad block ties lines pmn row) := hD
        obtain rfl := e_s h
        exact hret hP hS rfl dX5_follow_45
      · have h := e_f c5 h
        refine lv_aload_n hx hb dX5_follow_24 rfl (lv_at hl 0 rfl) ?_
        refine va_get (D := D) (ci := 5) (v := .ref (ad 7)) (C := RX5) (T := TX5) (N := 12) hx hb hts iX5 hown hK hP 0 rfl rfl 2 (Nat.le_of_ble_eq_true rfl) f26 (fun _ h9 => h9) rfl dX5_follow_25 ?_
        refine lv_iload_n hx hb dX5_follow_28 rfl (lv_at hl 1 rfl) ?_
        refine lv_iload_n hx hb dX5_follow_29 rfl (lv_at hl 2 rfl) ?_
        obtain ⟨q7, eq7, h⟩ := e_b h
        refine xv_i (As := [.int x1, .int x2]) (rest := []) (ci := 2) (b := ad 7) ⟨hx, hb, hml, hown, hts⟩ hl.1 (kX2_upTo l D cA (fun i => ad (7 + i)) row x1 x2 _ eq7) (cwV 2 hts gX5_follow_X2_upTo rfl rfl rfl (by decide +kernel) ⟨Nat.le_of_ble_eq_true rfl, Nat.le_of_ble_eq_true rfl⟩) rfl hK hP hD hS hA 1 rfl rfl rfl [1, 2, 3] rfl (by decide +kernel) rfl (Nat.le_of_ble_eq_true rfl) dX5_follow_30 ⟨Nat.zero_le _, Nat.zero_le _⟩ (fun H locs hP hD hS hnq7 => ?_)
        have hP : va_P D vwCl (wD_row cA ad block ties lines pmn row) H := hP
        have hD : va_D A (wD_row cA ad block ties lines pmn row) := hD
        refine lv_goto (tgt := 45) hx hb dX5_follow_33 (by decide) ?_
        obtain rfl := e_s h
        exact hret hP hS rfl dX5_follow_45
    · have h := e_f (not_not_intro c4) h
      refine lv_iconst (v := (-1)) hx hb dX5_follow_18 (by decide) ?_
      obtain rfl := e_s h
      exact hret hP hS rfl dX5_follow_19
set_option maxHeartbeats 4000000 in
set_option maxRecDepth 100000 in
theorem kX5_gap (l : Launch) (D : va_G) (cA : Nat → ClassId) (ad : Nat → Nat) (block : Int32) (ties : Int32) (lines : Int32) (pmn : Int32) (row : RowT) (x1 : Int32) (q : Int32) (h : mX5_gap row x1 = some q) : MI l yX5_gap wsX5_gap { frames := 1, cells := 0, slots := 0, locals := 24 } D cA .int [.ref (ad 0), .int x1] (wD_row cA ad block ties lines pmn row) (wD_row cA ad block ties lines pmn row) q := by
  refine MI.of (cc := cX5_gap) (maxL := 5) (by decide +kernel) rfl rfl rfl (Nat.le_of_ble_eq_true rfl) ?_
  intro p e s m args below meth c A ls Q hx hb hml hts hown hK hP hD hA hS hl hret
  have hl : lv_has ls 5 [(0, .ref (ad 0)), (1, .int x1)] := hl
  have f106 := hts (.fieldLink RX5 106 "ModeDesk$Row" "values" "[I") (by decide +kernel)
  have f135 := hts (.fieldLink RX5 135 "ModeDesk$Row" "size" "I") (by decide +kernel)
  have f26 := hts (.fieldLink RX5 26 "ModeDesk" "row" "LModeDesk$Row;") (by decide +kernel)
  have iX2 : ∀ w ∈ wsX20, w ∈ wsX5_gap := by decide +kernel
  have iX5 : ∀ w ∈ wsX50, w ∈ wsX5_gap := by decide +kernel
  unfold mX5_gap at h
  refine lv_iload_n hx hb dX5_gap_0 rfl (lv_at hl 1 rfl) ?_
  obtain ⟨q1, eq1, h⟩ := e_b h
  refine xs_i (As := [.int x1]) (rest := []) ⟨hx, hb, hml, hown, hts⟩ hl.1 (kX5_isValue l D cA   x1 _ eq1) (va_cwS 1 hts gX5_gap_X5_isValue rfl rfl rfl (by decide +kernel) ⟨Nat.le_of_ble_eq_true rfl, Nat.le_of_ble_eq_true rfl⟩) rfl hK hP hD hS hA [] rfl (by decide +kernel) rfl (Nat.le_of_ble_eq_true rfl) dX5_gap_1 ⟨Nat.zero_le _, Nat.zero_le _⟩ (fun H locs hP hD hS hnq1 => ?_)
  have hP : va_P D vwCl (wD_row cA ad block ties lines pmn row) H := hP
  have hD : va_D A (wD_row cA ad block ties lines pmn row) := hD
  refine lv_if_ne (tgt := 9) hx hb dX5_gap_4 (by decide) (fun c2 => ?_) (fun c2 => ?_)
  · have h := e_t c2 h
    refine lv_bipush (v := (-2)) hx hb dX5_gap_9 (by decide) ?_
    refine lv_istore_n (lv' := [(2, .int (-2)), (0, .ref (ad 0)), (1, .int x1)]) hx hb dX5_gap_11 rfl hl (by decide) rfl (fun ls hl => ?_)
    refine lv_iconst (v := (-1)) hx hb dX5_gap_12 (by decide) ?_
    refine lv_istore_n (lv' := [(3, .int (-1)), (2, .int (-2)), (0, .ref (ad 0)), (1, .int x1)]) hx hb dX5_gap_13 rfl hl (by decide) rfl (fun ls hl => ?_)
    refine lv_iconst (v := 0) hx hb dX5_gap_14 (by decide) ?_
    refine lv_istore (lv' := [(4, .int 0), (3, .int (-1)), (2, .int (-2)), (0, .ref (ad 0)), (1, .int x1)]) hx hb dX5_gap_15 hl (by decide) rfl (fun ls hl => ?_)
    have hL17 : ∀ (n : Nat) (x1 : Int32) (x2 : Int32) (x3 : Int32) (x4 : Int32) (block : Int32) (ties : Int32) (lines : Int32) (pmn : Int32) (row : RowT) (z3 : Int32) (ls : Array Slot) (H : Heap) (locs : List Loc), lv_has ls 5 [(0, .ref (ad 0)), (1, .int x1), (2, .int x2), (3, .int x3), (4, .int x4)] → va_P D vwCl (wD_row cA ad block ties lines pmn row) H → va_D A (wD_row cA ad block ties lines pmn row) → va_S A s.heap H locs → mX5_gap_L17 row x1 n x2 x3 x4 = some z3 → (∀ (ls : Array Slot) (H : Heap) (locs : List Loc), lv_has ls 5 [(2, .int z3)] → va_P D vwCl (wD_row cA ad block ties lines pmn row) H → va_D A (wD_row cA ad block ties lines pmn row) → va_S A s.heap H locs → W p l e (headSpec wsX5_gap { frames := 1, cells := 0, slots := 0, locals := 24 }).room s m args below meth c H locs 0 0 Q (F0 m 66 ls [])) → W p l e (headSpec wsX5_gap { frames := 1, cells := 0, slots := 0, locals := 24 }).room s m args below meth c H locs 0 0 Q (F0 m 17 ls []) := by
      intro n
      induction n with
      | zero => intro x1 x2 x3 x4 block ties lines pmn row z3 ls H locs hl hP hD hS h hk17; exact e_n h
      | succ n ih17 =>
        intro x1 x2 x3 x4 block ties lines pmn row z3 ls H locs hl hP hD hS h hk17
        rw [mX5_gap_L17.eq_2] at h
        refine lv_iload hx hb dX5_gap_17 (lv_at hl 4 rfl) ?_
        refine lv_aload_n hx hb dX5_gap_19 rfl (lv_at hl 0 rfl) ?_
        refine va_get (D := D) (ci := 5) (v := .ref (ad 7)) (C := RX5) (T := TX5) (N := 12) hx hb hts iX5 hown hK hP 0 rfl rfl 2 (Nat.le_of_ble_eq_true rfl) f26 (fun _ h9 => h9) rfl dX5_gap_20 ?_
        refine va_get (D := D) (ci := 2) (v := .int row.2.2) (C := RX2) (T := TX2) (N := 3) hx hb hts iX2 hown hK hP 1 rfl rfl 2 (Nat.le_of_ble_eq_true rfl) f135 (fun _ h9 => h9) rfl dX5_gap_23 ?_
        refine lv_icmp_ge (tgt := 66) hx hb dX5_gap_26 (by decide) (fun c4 => ?_) (fun c4 => ?_)
        · have h := e_t c4 h
          obtain rfl := e_s h
          exact hk17 _ _ _ (lv_sub hl [2] rfl) hP hD hS
        · have h := e_f c4 h
          refine lv_aload_n hx hb dX5_gap_29 rfl (lv_at hl 0 rfl) ?_
          refine va_get (D := D) (ci := 5) (v := .ref (ad 7)) (C := RX5) (T := TX5) (N := 12) hx hb hts iX5 hown hK hP 0 rfl rfl 2 (Nat.le_of_ble_eq_true rfl) f26 (fun _ h9 => h9) rfl dX5_gap_30 ?_
          refine va_get (D := D) (ci := 2) (v := .ref (ad 8)) (C := RX2) (T := TX2) (N := 3) hx hb hts iX2 hown hK hP 1 rfl rfl 0 (Nat.le_of_ble_eq_true rfl) f106 (fun _ h9 => h9) rfl dX5_gap_33 ?_
          refine lv_iload hx hb dX5_gap_36 (lv_at hl 4 rfl) ?_
          obtain ⟨v5, ev5, nv5, h⟩ := e_rd h
          refine xa_iald hx hb hK hP 2 rfl nv5 ev5 dX5_gap_38 ?_
          refine lv_iload_n hx hb dX5_gap_39 rfl (lv_at hl 1 rfl) ?_
          refine lv_icmp_ne (tgt := 60) hx hb dX5_gap_40 (by decide) (fun c6 => ?_) (fun c6 => ?_)
          · have h := e_t c6 h
            refine lv_iinc (v := (x4 + 1)) (lv' := [(4, .int (x4 + 1)), (0, .ref (ad 0)), (1, .int x1), (2, .int x2), (3, .int x3)]) hx hb dX5_gap_60 hl (k := 4) rfl rfl (by decide) rfl (fun ls hl => ?_)
            refine lv_goto (tgt := 17) hx hb dX5_gap_63 (by decide) ?_
            exact ih17 x1 x2 x3 (x4 + 1) block ties lines pmn row z3 _ _ _ (lv_sub hl [1, 2, 3, 4, 0] rfl) hP hD hS h hk17
          · have h := e_f (not_not_intro c6) h
            refine lv_iload_n hx hb dX5_gap_43 rfl (lv_at hl 3 rfl) ?_
            refine lv_iconst (v := (-1)) hx hb dX5_gap_44 (by decide) ?_
            refine lv_icmp_eq (tgt := 57) hx hb dX5_gap_45 (by decide) (fun c7 => ?_) (fun c7 => ?_)
            · have h := e_t c7 h
              refine lv_iload hx hb dX5_gap_57 (lv_at hl 4 rfl) ?_
              refine lv_istore_n (lv' := [(3, .int x4), (0, .ref (ad 0)), (1, .int x1), (2, .int x2), (4, .int x4)]) hx hb dX5_gap_59 rfl hl (by decide) rfl (fun ls hl => ?_)
              refine lv_iinc (v := (x4 + 1)) (lv' := [(4, .int (x4 + 1)), (3, .int x4), (0, .ref (ad 0)), (1, .int x1), (2, .int x2)]) hx hb dX5_gap_60 hl (k := 4) rfl rfl (by decide) rfl (fun ls hl => ?_)
              refine lv_goto (tgt := 17) hx hb dX5_gap_63 (by decide) ?_
              exact ih17 x1 x2 x4 (x4 + 1) block ties lines pmn row z3 _ _ _ (lv_sub hl [2, 3, 4, 1, 0] rfl) hP hD hS h hk17
            · have h := e_f c7 h
              refine lv_iload_n hx hb dX5_gap_48 rfl (lv_at hl 2 rfl) ?_
              refine lv_iload hx hb dX5_gap_49 (lv_at hl 4 rfl) ?_
              refine lv_iload_n hx hb dX5_gap_51 rfl (lv_at hl 3 rfl) ?_
              refine lv_isub hx hb dX5_gap_52 ?_
              refine va_mmax hx hb (by rw [hml, hl.1]) hown (hts (.methodLink RX5 203 Lib.Math.max.name) (by decide +kernel)) (hts (.static Lib.Math.max.name) (by decide +kernel)) (hts (.initialized "java/lang/Math") (by decide +kernel)) (hts (.code Lib.Math.max.name Lib.Math.max.code 2 (some .int)) (by decide +kernel)) (Nat.le_of_ble_eq_true rfl) (Nat.le_of_ble_eq_true rfl) (Nat.zero_le _) (Nat.zero_le _) dX5_gap_53 ?_
              refine lv_istore_n (lv' := [(2, .int (if x2 < (x4 - x3) then (x4 - x3) else x2)), (0, .ref (ad 0)), (1, .int x1), (3, .int x3), (4, .int x4)]) hx hb dX5_gap_56 rfl hl (by decide) rfl (fun ls hl => ?_)
              refine lv_iload hx hb dX5_gap_57 (lv_at hl 4 rfl) ?_
              refine lv_istore_n (lv' := [(3, .int x4), (2, .int (if x2 < (x4 - x3) then (x4 - x3) else x2)), (0, .ref (ad 0)), (1, .int x1), (4, .int x4)]) hx hb dX5_gap_59 rfl hl (by decide) rfl (fun ls hl => ?_)
              refine lv_iinc (v := (x4 + 1)) (lv' := [(4, .int (x4 + 1)), (3, .int x4), (2, .int (if x2 < (x4 - x3) then (x4 - x3) else x2)), (0, .ref (ad 0)), (1, .int x1)]) hx hb dX5_gap_60 hl (k := 4) rfl rfl (by decide) rfl (fun ls hl => ?_)
              refine lv_goto (tgt := 17) hx hb dX5_gap_63 (by decide) ?_
              exact ih17 x1 (if x2 < (x4 - x3) then (x4 - x3) else x2) x4 (x4 + 1) block ties lines pmn row z3 _ _ _ (lv_sub hl [3, 4, 2, 1, 0] rfl) hP hD hS h hk17
    obtain ⟨z8, ez8, h⟩ := e_b h
    refine hL17 FU x1 (-2) (-1) 0 block ties lines pmn row z8 _ _ _ (lv_sub hl [3, 4, 2, 1, 0] rfl) hP hD hS ez8 (fun ls H locs hl hP hD hS => ?_)
    refine lv_iload_n hx hb dX5_gap_66 rfl (lv_at hl 0 rfl) ?_
    obtain rfl := e_s h
    exact hret hP hS rfl dX5_gap_67
  · have h := e_f (not_not_intro c2) h
    refine lv_iconst (v := (-1)) hx hb dX5_gap_7 (by decide) ?_
    obtain rfl := e_s h
    exact hret hP hS rfl dX5_gap_8
set_option maxHeartbeats 4000000 in
set_option maxRecDepth 100000 in
theorem kX5_median (l : Launch) (D : va_G) (cA : Nat → ClassId) (ad : Nat → Nat) (block : Int32) (ties : Int32) (lines : Int32) (pmn : Int32) (row : RowT) (tally : TalT) (x1 : Int32) (x2 : Int32) (q : Int32 × TalT) (h : mX5_median ties row tally x1 x2 = some q) : MI l yX5_median wsX5_median { frames := 3, cells := 0, slots := 0, locals := 66 } D cA .int [.ref (ad 0), .int x1, .int x2] (wD_row_tally cA ad block ties lines pmn row tally) (wD_row_tally cA ad block ties lines pmn row q.2) q.1 := by
  refine MI.of (cc := cX5_median) (maxL := 5) (by decide +kernel) rfl rfl rfl (Nat.le_of_ble_eq_true rfl) ?_
  intro p e s m args below meth c A ls Q hx hb hml hts hown hK hP hD hA hS hl hret
  have hl : lv_has ls 5 [(0, .ref (ad 0)), (1, .int x1), (2, .int x2)] := hl
  have f190 := hts (.fieldLink RX5 190 "ModeDesk$Tally" "number" "[I") (by decide +kernel)
  have f26 := hts (.fieldLink RX5 26 "ModeDesk" "row" "LModeDesk$Row;") (by decide +kernel)
  have f43 := hts (.fieldLink RX5 43 "ModeDesk" "tally" "LModeDesk$Tally;") (by decide +kernel)
  have iX3 : ∀ w ∈ wsX30, w ∈ wsX5_median := by decide +kernel
  have iX5 : ∀ w ∈ wsX50, w ∈ wsX5_median := by decide +kernel
  unfold mX5_median at h
  refine lv_aload_n hx hb dX5_median_0 rfl (lv_at hl 0 rfl) ?_
  refine va_get (D := D) (ci := 5) (v := .ref (ad 7)) (C := RX5) (T := TX5) (N := 12) hx hb hts iX5 hown hK hP 0 rfl rfl 2 (Nat.le_of_ble_eq_true rfl) f26 (fun _ h9 => h9) rfl dX5_median_1 ?_
  refine lv_iload_n hx hb dX5_median_4 rfl (lv_at hl 1 rfl) ?_
  refine lv_iload_n hx hb dX5_median_5 rfl (lv_at hl 2 rfl) ?_
  obtain ⟨q1, eq1, h⟩ := e_b h
  refine xv_i (As := [.int x1, .int x2]) (rest := []) (ci := 2) (b := ad 7) ⟨hx, hb, hml, hown, hts⟩ hl.1 (kX2_hasSpan l D cA (fun i => ad (7 + i)) row x1 x2 _ eq1) (cwV 2 hts gX5_median_X2_hasSpan rfl rfl rfl (by decide +kernel) ⟨Nat.le_of_ble_eq_true rfl, Nat.le_of_ble_eq_true rfl⟩) rfl hK hP hD hS hA 1 rfl rfl rfl [1, 2, 3] rfl (by decide +kernel) rfl (Nat.le_of_ble_eq_true rfl) dX5_median_6 ⟨Nat.zero_le _, Nat.zero_le _⟩ (fun H locs hP hD hS hnq1 => ?_)
  have hP : va_P D vwCl (wD_row_tally cA ad block ties lines pmn row tally) H := hP
  have hD : va_D A (wD_row_tally cA ad block ties lines pmn row tally) := hD
  refine lv_if_ne (tgt := 14) hx hb dX5_median_9 (by decide) (fun c2 => ?_) (fun c2 => ?_)
  · have h := e_t c2 h
    refine lv_aload_n hx hb dX5_median_14 rfl (lv_at hl 0 rfl) ?_
    refine lv_iload_n hx hb dX5_median_15 rfl (lv_at hl 1 rfl) ?_
    refine lv_iload_n hx hb dX5_median_16 rfl (lv_at hl 2 rfl) ?_
    obtain ⟨q3, eq3, h⟩ := e_b h
    refine xv_v (As := [.int x1, .int x2]) (rest := []) (ci := 5) (b := ad 0) ⟨hx, hb, hml, hown, hts⟩ hl.1 (kX5_tallySpan l D cA ad block ties lines pmn row tally x1 x2 _ eq3) (cwV 2 hts gX5_median_X5_tallySpan rfl rfl rfl (by decide +kernel) ⟨Nat.le_of_ble_eq_true rfl, Nat.le_of_ble_eq_true rfl⟩) rfl hK hP hD hS hA 0 rfl rfl rfl [0, 1, 2, 3, 4, 5, 6, 7, 8] rfl (by decide +kernel) rfl (Nat.le_of_ble_eq_true rfl) dX5_median_17 ⟨Nat.zero_le _, Nat.zero_le _⟩ (fun H locs hP hD hS => ?_)
    have hP : va_P D vwCl (wD_row_tally cA ad block ties lines pmn row q3) H := hP
    have hD : va_D A (wD_row_tally cA ad block ties lines pmn row q3) := hD
    refine lv_iload_n hx hb dX5_median_20 rfl (lv_at hl 2 rfl) ?_
    refine lv_iload_n hx hb dX5_median_21 rfl (lv_at hl 1 rfl) ?_
    refine lv_isub hx hb dX5_median_22 ?_
    refine lv_iconst (v := 2) hx hb dX5_median_23 (by decide) ?_
    obtain ⟨v4, ev4, nv4, h⟩ := e_dv h
    refine xa_idiv hx hb dX5_median_24 nv4 ev4 ?_
    refine lv_istore_n (lv' := [(3, .int v4), (0, .ref (ad 0)), (1, .int x1), (2, .int x2)]) hx hb dX5_median_25 rfl hl (by decide) rfl (fun ls hl => ?_)
    refine lv_iconst (v := 0) hx hb dX5_median_26 (by decide) ?_
    refine lv_istore (lv' := [(4, .int 0), (3, .int v4), (0, .ref (ad 0)), (1, .int x1), (2, .int x2)]) hx hb dX5_median_27 hl (by decide) rfl (fun ls hl => ?_)
    have hL29 : ∀ (n : Nat) (x3 : Int32) (x4 : Int32) (ls : Array Slot) (H : Heap) (locs : List Loc), lv_has ls 5 [(0, .ref (ad 0)), (3, .int x3), (4, .int x4)] → va_P D vwCl (wD_row_tally cA ad block ties lines pmn row q3) H → va_D A (wD_row_tally cA ad block ties lines pmn row q3) → va_S A s.heap H locs → mX5_median_L29 q3 n x3 x4 = some q → W p l e (headSpec wsX5_median { frames := 3, cells := 0, slots := 0, locals := 66 }).room s m args below meth c H locs 0 0 Q (F0 m 29 ls []) := by
      intro n
      induction n with
      | zero => intro x3 x4 ls H locs hl hP hD hS h; exact e_n h
      | succ n ih29 =>
        intro x3 x4 ls H locs hl hP hD hS h
        rw [mX5_median_L29.eq_2] at h
        refine lv_iload hx hb dX5_median_29 (lv_at hl 2 rfl) ?_
        refine lv_sipush (v := 1000) hx hb dX5_median_31 (by decide) ?_
        refine lv_icmp_ge (tgt := 63) hx hb dX5_median_34 (by decide) (fun c6 => ?_) (fun c6 => ?_)
        · have h := e_t c6 h
          refine lv_iconst (v := (-1)) hx hb dX5_median_63 (by decide) ?_
          obtain rfl := e_s h
          exact hret hP hS rfl dX5_median_64
        · have h := e_f c6 h
          refine lv_iload_n hx hb dX5_median_37 rfl (lv_at hl 1 rfl) ?_
          refine lv_aload_n hx hb dX5_median_38 rfl (lv_at hl 0 rfl) ?_
          refine va_get (D := D) (ci := 5) (v := .ref (ad 51)) (C := RX5) (T := TX5) (N := 12) hx hb hts iX5 hown hK hP 0 rfl rfl 5 (Nat.le_of_ble_eq_true rfl) f43 (fun _ h9 => h9) rfl dX5_median_39 ?_
          refine va_get (D := D) (ci := 3) (v := .ref (ad 52)) (C := RX3) (T := TX3) (N := 8) hx hb hts iX3 hown hK hP 4 rfl rfl 0 (Nat.le_of_ble_eq_true rfl) f190 (fun _ h9 => h9) rfl dX5_median_42 ?_
          refine lv_iload hx hb dX5_median_45 (lv_at hl 2 rfl) ?_
          obtain ⟨v7, ev7, nv7, h⟩ := e_rd h
          refine xa_iald hx hb hK hP 5 rfl nv7 ev7 dX5_median_47 ?_
          refine lv_isub hx hb dX5_median_48 ?_
          refine lv_istore_n (lv' := [(3, .int (x3 - v7)), (0, .ref (ad 0)), (4, .int x4)]) hx hb dX5_median_49 rfl hl (by decide) rfl (fun ls hl => ?_)
          refine lv_iload_n hx hb dX5_median_50 rfl (lv_at hl 0 rfl) ?_
          refine lv_if_ge (tgt := 57) hx hb dX5_median_51 (by decide) (fun c8 => ?_) (fun c8 => ?_)
          · have h := e_t c8 h
            refine lv_iinc (v := (x4 + 1)) (lv' := [(4, .int (x4 + 1)), (3, .int (x3 - v7)), (0, .ref (ad 0))]) hx hb dX5_median_57 hl (k := 2) rfl rfl (by decide) rfl (fun ls hl => ?_)
            refine lv_goto (tgt := 29) hx hb dX5_median_60 (by decide) ?_
            exact ih29 (x3 - v7) (x4 + 1) _ _ _ (lv_sub hl [2, 1, 0] rfl) hP hD hS h
          · have h := e_f c8 h
            refine lv_iload hx hb dX5_median_54 (lv_at hl 2 rfl) ?_
            obtain rfl := e_s h
            exact hret hP hS rfl dX5_median_56
    exact hL29 FU v4 0 _ _ _ (lv_sub hl [2, 1, 0] rfl) hP hD hS h
  · have h := e_f (not_not_intro c2) h
    refine lv_iconst (v := (-1)) hx hb dX5_median_12 (by decide) ?_
    obtain rfl := e_s h
    exact hret hP hS rfl dX5_median_13
set_option maxHeartbeats 4000000 in
set_option maxRecDepth 100000 in
theorem kX5_twisted (l : Launch) (D : va_G) (cA : Nat → ClassId) (ad : Nat → Nat) (block : Int32) (ties : Int32) (lines : Int32) (pmn : Int32) (row : RowT) (x1 : Int32) (x2 : Int32) (q : Int32) (h : mX5_twisted row x1 x2 = some q) : MI l yX5_twisted wsX5_twisted { frames := 1, cells := 0, slots := 0, locals := 22 } D cA .int [.ref (ad 0), .int x1, .int x2] (wD_row cA ad block ties lines pmn row) (wD_row cA ad block ties lines pmn row) q := by
  refine MI.of (cc := cX5_twisted) (maxL := 6) (by decide +kernel) rfl rfl rfl (Nat.le_of_ble_eq_true rfl) ?_
  intro p e s m args below meth c A ls Q hx hb hml hts hown hK hP hD hA hS hl hret
  have hl : lv_has ls 6 [(0, .ref (ad 0)), (1, .int x1), (2, .int x2)] := hl
  have f106 := hts (.fieldLink RX5 106 "ModeDesk$Row" "values" "[I") (by decide +kernel)
  have f26 := hts (.fieldLink RX5 26 "ModeDesk" "row" "LModeDesk$Row;") (by decide +kernel)
  have iX2 : ∀ w ∈ wsX20, w ∈ wsX5_twisted := by decide +kernel
  have iX5 : ∀ w ∈ wsX50, w ∈ wsX5_twisted := by decide +kernel
  unfold mX5_twisted at h
  refine lv_aload_n hx hb dX5_twisted_0 rfl (lv_at hl 0 rfl) ?_
  refine va_get (D := D) (ci := 5) (v := .ref (ad 7)) (C := RX5) (T := TX5) (N := 12) hx hb hts iX5 hown hK hP 0 rfl rfl 2 (Nat.le_of_ble_eq_true rfl) f26 (fun _ h9 => h9) rfl dX5_twisted_1 ?_
  refine lv_iload_n hx hb dX5_twisted_4 rfl (lv_at hl 1 rfl) ?_
  refine lv_iload_n hx hb dX5_twisted_5 rfl (lv_at hl 2 rfl) ?_
  obtain ⟨q1, eq1, h⟩ := e_b h
  refine xv_i (As := [.int x1, .int x2]) (rest := []) (ci := 2) (b := ad 7) ⟨hx, hb, hml, hown, hts⟩ hl.1 (kX2_hasSpan l D cA (fun i => ad (7 + i)) row x1 x2 _ eq1) (cwV 2 hts gX5_twisted_X2_hasSpan rfl rfl rfl (by decide +kernel) ⟨Nat.le_of_ble_eq_true rfl, Nat.le_of_ble_eq_true rfl⟩) rfl hK hP hD hS hA 1 rfl rfl rfl [1, 2, 3] rfl (by decide +kernel) rfl (Nat.le_of_ble_eq_true rfl) dX5_twisted_6 ⟨Nat.zero_le _, Nat.zero_le _⟩ (fun H locs hP hD hS hnq1 => ?_)
  have hP : va_P D vwCl (wD_row cA ad block ties lines pmn row) H := hP
  have hD : va_D A (wD_row cA ad block ties lines pmn row) := hD
  refine lv_if_ne (tgt := 14) hx hb dX5_twisted_9 (by decide) (fun c2 => ?_) (fun c2 => ?_)
  · have h := e_t c2 h
    refine lv_iconst (v := 0) hx hb dX5_twisted_14 (by decide) ?_
    refine lv_istore_n (lv' := [(3, .int 0), (0, .ref (ad 0)), (1, .int x1), (2, .int x2)]) hx hb dX5_twisted_15 rfl hl (by decide) rfl (fun ls hl => ?_)
    refine lv_iload_n hx hb dX5_twisted_16 rfl (lv_at hl 2 rfl) ?_
    refine lv_istore (lv' := [(4, .int x1), (3, .int 0), (0, .ref (ad 0)), (1, .int x1), (2, .int x2)]) hx hb dX5_twisted_17 hl (by decide) rfl (fun ls hl => ?_)
    have hL19 : ∀ (n : Nat) (x2 : Int32) (x3 : Int32) (x4 : Int32) (block : Int32) (ties : Int32) (lines : Int32) (pmn : Int32) (row : RowT) (z3 : Int32) (ls : Array Slot) (H : Heap) (locs : List Loc), lv_has ls 6 [(0, .ref (ad 0)), (2, .int x2), (3, .int x3), (4, .int x4)] → va_P D vwCl (wD_row cA ad block ties lines pmn row) H → va_D A (wD_row cA ad block ties lines pmn row) → va_S A s.heap H locs → mX5_twisted_L19 row x2 n x3 x4 = some z3 → (∀ (ls : Array Slot) (H : Heap) (locs : List Loc), lv_has ls 6 [(3, .int z3)] → va_P D vwCl (wD_row cA ad block ties lines pmn row) H → va_D A (wD_row cA ad block ties lines pmn row) → va_S A s.heap H locs → W p l e (headSpec wsX5_twisted { frames := 1, cells := 0, slots := 0, locals := 22 }).room s m args below meth c H locs 0 0 Q (F0 m 75 ls [])) → W p l e (headSpec wsX5_twisted { frames := 1, cells := 0, slots := 0, locals := 22 }).room s m args below meth c H locs 0 0 Q (F0 m 19 ls []) := by
      intro n
      induction n with
      | zero => intro x2 x3 x4 block ties lines pmn row z3 ls H locs hl hP hD hS h hk19; exact e_n h
      | succ n ih19 =>
        intro x2 x3 x4 block ties lines pmn row z3 ls H locs hl hP hD hS h hk19
        rw [mX5_twisted_L19.eq_2] at h
        refine lv_iload hx hb dX5_twisted_19 (lv_at hl 3 rfl) ?_
        refine lv_iload_n hx hb dX5_twisted_21 rfl (lv_at hl 1 rfl) ?_
        refine lv_icmp_gt (tgt := 75) hx hb dX5_twisted_22 (by decide) (fun c4 => ?_) (fun c4 => ?_)
        · have h := e_t c4 h
          obtain rfl := e_s h
          exact hk19 _ _ _ (lv_sub hl [2] rfl) hP hD hS
        · have h := e_f c4 h
          refine lv_iload hx hb dX5_twisted_25 (lv_at hl 3 rfl) ?_
          refine lv_iconst (v := 1) hx hb dX5_twisted_27 (by decide) ?_
          refine lv_iadd hx hb dX5_twisted_28 ?_
          refine lv_istore (lv' := [(5, .int (x4 + 1)), (0, .ref (ad 0)), (2, .int x2), (3, .int x3), (4, .int x4)]) hx hb dX5_twisted_29 hl (by decide) rfl (fun ls hl => ?_)
          have hL31 : ∀ (n : Nat) (x2 : Int32) (x3 : Int32) (x4 : Int32) (x5 : Int32) (block : Int32) (ties : Int32) (lines : Int32) (pmn : Int32) (row : RowT) (z5 : Int32) (ls : Array Slot) (H : Heap) (locs : List Loc), lv_has ls 6 [(0, .ref (ad 0)), (2, .int x2), (3, .int x3), (4, .int x4), (5, .int x5)] → va_P D vwCl (wD_row cA ad block ties lines pmn row) H → va_D A (wD_row cA ad block ties lines pmn row) → va_S A s.heap H locs → mX5_twisted_L31 row x2 x4 n x3 x5 = some z5 → (∀ (ls : Array Slot) (H : Heap) (locs : List Loc), lv_has ls 6 [(0, .ref (ad 0)), (2, .int x2), (3, .int z5), (4, .int x4)] → va_P D vwCl (wD_row cA ad block ties lines pmn row) H → va_D A (wD_row cA ad block ties lines pmn row) → va_S A s.heap H locs → W p l e (headSpec wsX5_twisted { frames := 1, cells := 0, slots := 0, locals := 22 }).room s m args below meth c H locs 0 0 Q (F0 m 69 ls [])) → W p l e (headSpec wsX5_twisted { frames := 1, cells := 0, slots := 0, locals := 22 }).room s m args below meth c H locs 0 0 Q (F0 m 31 ls []) := by
            intro n
            induction n with
            | zero => intro x2 x3 x4 x5 block ties lines pmn row z5 ls H locs hl hP hD hS h hk31; exact e_n h
            | succ n ih31 =>
              intro x2 x3 x4 x5 block ties lines pmn row z5 ls H locs hl hP hD hS h hk31
              rw [mX5_twisted_L31.eq_2] at h
              refine lv_iload hx hb dX5_twisted_31 (lv_at hl 4 rfl) ?_
              refine lv_iload_n hx hb dX5_twisted_33 rfl (lv_at hl 1 rfl) ?_
              refine lv_icmp_gt (tgt := 69) hx hb dX5_twisted_34 (by decide) (fun c6 => ?_) (fun c6 => ?_)
              · have h := e_t c6 h
                obtain rfl := e_s h
                exact hk31 _ _ _ (lv_sub hl [0, 1, 2, 3] rfl) hP hD hS
              · have h := e_f c6 h
                refine lv_aload_n hx hb dX5_twisted_37 rfl (lv_at hl 0 rfl) ?_
                refine va_get (D := D) (ci := 5) (v := .ref (ad 7)) (C := RX5) (T := TX5) (N := 12) hx hb hts iX5 hown hK hP 0 rfl rfl 2 (Nat.le_of_ble_eq_true rfl) f26 (fun _ h9 => h9) rfl dX5_twisted_38 ?_
                refine va_get (D := D) (ci := 2) (v := .ref (ad 8)) (C := RX2) (T := TX2) (N := 3) hx hb hts iX2 hown hK hP 1 rfl rfl 0 (Nat.le_of_ble_eq_true rfl) f106 (fun _ h9 => h9) rfl dX5_twisted_41 ?_
                refine lv_iload hx hb dX5_twisted_44 (lv_at hl 3 rfl) ?_
                obtain ⟨v7, ev7, nv7, h⟩ := e_rd h
                refine xa_iald hx hb hK hP 2 rfl nv7 ev7 dX5_twisted_46 ?_
                refine lv_aload_n hx hb dX5_twisted_47 rfl (lv_at hl 0 rfl) ?_
                refine va_get (D := D) (ci := 5) (v := .ref (ad 7)) (C := RX5) (T := TX5) (N := 12) hx hb hts iX5 hown hK hP 0 rfl rfl 2 (Nat.le_of_ble_eq_true rfl) f26 (fun _ h9 => h9) rfl dX5_twisted_48 ?_
                refine va_get (D := D) (ci := 2) (v := .ref (ad 8)) (C := RX2) (T := TX2) (N := 3) hx hb hts iX2 hown hK hP 1 rfl rfl 0 (Nat.le_of_ble_eq_true rfl) f106 (fun _ h9 => h9) rfl dX5_twisted_51 ?_
                refine lv_iload hx hb dX5_twisted_54 (lv_at hl 4 rfl) ?_
                obtain ⟨v8, ev8, nv8, h⟩ := e_rd h
                refine xa_iald hx hb hK hP 2 rfl nv8 ev8 dX5_twisted_56 ?_
                refine lv_icmp_le (tgt := 63) hx hb dX5_twisted_57 (by decide) (fun c9 => ?_) (fun c9 => ?_)
                · have h := e_t c9 h
                  refine lv_iinc (v := (x5 + 1)) (lv' := [(5, .int (x5 + 1)), (0, .ref (ad 0)), (2, .int x2), (3, .int x3), (4, .int x4)]) hx hb dX5_twisted_63 hl (k := 4) rfl rfl (by decide) rfl (fun ls hl => ?_)
                  refine lv_goto (tgt := 31) hx hb dX5_twisted_66 (by decide) ?_
                  exact ih31 x2 x3 x4 (x5 + 1) block ties lines pmn row z5 _ _ _ (lv_sub hl [1, 2, 3, 4, 0] rfl) hP hD hS h hk31
                · have h := e_f c9 h
                  refine lv_iinc (v := (x3 + 1)) (lv' := [(3, .int (x3 + 1)), (0, .ref (ad 0)), (2, .int x2), (4, .int x4), (5, .int x5)]) hx hb dX5_twisted_60 hl (k := 2) rfl rfl (by decide) rfl (fun ls hl => ?_)
                  refine lv_iinc (v := (x5 + 1)) (lv' := [(5, .int (x5 + 1)), (3, .int (x3 + 1)), (0, .ref (ad 0)), (2, .int x2), (4, .int x4)]) hx hb dX5_twisted_63 hl (k := 4) rfl rfl (by decide) rfl (fun ls hl => ?_)
                  refine lv_goto (tgt := 31) hx hb dX5_twisted_66 (by decide) ?_
                  exact ih31 x2 (x3 + 1) x4 (x5 + 1) block ties lines pmn row z5 _ _ _ (lv_sub hl [2, 3, 1, 4, 0] rfl) hP hD hS h hk31
          obtain ⟨z10, ez10, h⟩ := e_b h
          refine hL31 FU x2 x3 x4 (x4 + 1) block ties lines pmn row z10 _ _ _ (lv_sub hl [1, 2, 3, 4, 0] rfl) hP hD hS ez10 (fun ls H locs hl hP hD hS => ?_)
          refine lv_iinc (v := (x4 + 1)) (lv' := [(4, .int (x4 + 1)), (0, .ref (ad 0)), (2, .int x2), (3, .int z10)]) hx hb dX5_twisted_69 hl (k := 3) rfl rfl (by decide) rfl (fun ls hl => ?_)
          refine lv_goto (tgt := 19) hx hb dX5_twisted_72 (by decide) ?_
          exact ih19 x2 z10 (x4 + 1) block ties lines pmn row z3 _ _ _ (lv_sub hl [1, 2, 3, 0] rfl) hP hD hS h hk19
    obtain ⟨z11, ez11, h⟩ := e_b h
    refine hL19 FU x2 0 x1 block ties lines pmn row z11 _ _ _ (lv_sub hl [2, 4, 1, 0] rfl) hP hD hS ez11 (fun ls H locs hl hP hD hS => ?_)
    refine lv_iload_n hx hb dX5_twisted_75 rfl (lv_at hl 0 rfl) ?_
    obtain rfl := e_s h
    exact hret hP hS rfl dX5_twisted_76
  · have h := e_f (not_not_intro c2) h
    refine lv_iconst (v := (-1)) hx hb dX5_twisted_12 (by decide) ?_
    obtain rfl := e_s h
    exact hret hP hS rfl dX5_twisted_13
set_option maxHeartbeats 4000000 in
set_option maxRecDepth 100000 in
theorem kX5_spanTold (l : Launch) (D : va_G) (cA : Nat → ClassId) (ad : Nat → Nat) (block : Int32) (ties : Int32) (lines : Int32) (pmn : Int32) (row : RowT) (x1 : Int32) (x2 : Int32) (x3 : Int32) (q : Int32) (h : mX5_spanTold row x1 x2 x3 = some q) : MI l yX5_spanTold wsX5_spanTold { frames := 0, cells := 0, slots := 0, locals := 0 } D cA .int [.ref (ad 0), .int x1, .int x2, .int x3] (wD_row cA ad block ties lines pmn row) (wD_row cA ad block ties lines pmn row) q := by
  refine MI.of (cc := cX5_spanTold) (maxL := 4) (by decide +kernel) rfl rfl rfl (Nat.le_of_ble_eq_true rfl) ?_
  intro p e s m args below meth c A ls Q hx hb hml hts hown hK hP hD hA hS hl hret
  have hl : lv_has ls 4 [(0, .ref (ad 0)), (1, .int x1), (2, .int x2), (3, .int x3)] := hl
  have f106 := hts (.fieldLink RX5 106 "ModeDesk$Row" "values" "[I") (by decide +kernel)
  have f26 := hts (.fieldLink RX5 26 "ModeDesk" "row" "LModeDesk$Row;") (by decide +kernel)
  have iX2 : ∀ w ∈ wsX20, w ∈ wsX5_spanTold := by decide +kernel
  have iX5 : ∀ w ∈ wsX50, w ∈ wsX5_spanTold := by decide +kernel
  unfold mX5_spanTold at h
  refine lv_iload_n hx hb dX5_spanTold_0 rfl (lv_at hl 2 rfl) ?_
  refine lv_if_ne (tgt := 7) hx hb dX5_spanTold_1 (by decide) (fun c1 => ?_) (fun c1 => ?_)
  · have h := e_t c1 h
    refine lv_iload_n hx hb dX5_spanTold_7 rfl (lv_at hl 3 rfl) ?_
    refine lv_iconst (v := 2) hx hb dX5_spanTold_8 (by decide) ?_
    refine lv_icmp_ne (tgt := 22) hx hb dX5_spanTold_9 (by decide) (fun c2 => ?_) (fun c2 => ?_)
    · have h := e_t c2 h
      refine lv_iload_n hx hb dX5_spanTold_22 rfl (lv_at hl 3 rfl) ?_
      refine lv_if_ne (tgt := 30) hx hb dX5_spanTold_23 (by decide) (fun c3 => ?_) (fun c3 => ?_)
      · have h := e_t c3 h
        refine lv_iload_n hx hb dX5_spanTold_30 rfl (lv_at hl 1 rfl) ?_
        refine lv_iload_n hx hb dX5_spanTold_31 rfl (lv_at hl 2 rfl) ?_
        refine lv_iadd hx hb dX5_spanTold_32 ?_
        refine lv_iconst (v := 1) hx hb dX5_spanTold_33 (by decide) ?_
        refine lv_isub hx hb dX5_spanTold_34 ?_
        obtain rfl := e_s h
        exact hret hP hS rfl dX5_spanTold_35
      · have h := e_f (not_not_intro c3) h
        refine lv_iload_n hx hb dX5_spanTold_26 rfl (lv_at hl 1 rfl) ?_
        refine lv_goto (tgt := 35) hx hb dX5_spanTold_27 (by decide) ?_
        obtain rfl := e_s h
        exact hret hP hS rfl dX5_spanTold_35
    · have h := e_f (not_not_intro c2) h
      refine lv_aload_n hx hb dX5_spanTold_12 rfl (lv_at hl 0 rfl) ?_
      refine va_get (D := D) (ci := 5) (v := .ref (ad 7)) (C := RX5) (T := TX5) (N := 12) hx hb hts iX5 hown hK hP 0 rfl rfl 2 (Nat.le_of_ble_eq_true rfl) f26 (fun _ h9 => h9) rfl dX5_spanTold_13 ?_
      refine va_get (D := D) (ci := 2) (v := .ref (ad 8)) (C := RX2) (T := TX2) (N := 3) hx hb hts iX2 hown hK hP 1 rfl rfl 0 (Nat.le_of_ble_eq_true rfl) f106 (fun _ h9 => h9) rfl dX5_spanTold_16 ?_
      refine lv_iload_n hx hb dX5_spanTold_19 rfl (lv_at hl 1 rfl) ?_
      obtain ⟨v4, ev4, nv4, h⟩ := e_rd h
      refine xa_iald hx hb hK hP 2 rfl nv4 ev4 dX5_spanTold_20 ?_
      obtain rfl := e_s h
      exact hret hP hS rfl dX5_spanTold_21
  · have h := e_f (not_not_intro c1) h
    refine lv_bipush (v := (-2)) hx hb dX5_spanTold_4 (by decide) ?_
    obtain rfl := e_s h
    exact hret hP hS rfl dX5_spanTold_6
set_option maxHeartbeats 4000000 in
set_option maxRecDepth 100000 in
theorem kX5_run (l : Launch) (D : va_G) (cA : Nat → ClassId) (ad : Nat → Nat) (block : Int32) (ties : Int32) (lines : Int32) (pmn : Int32) (row : RowT) (x1 : Int32) (x2 : Int32) (x3 : Int32) (q : Int32) (h : mX5_run row x1 x2 x3 = some q) : MI l yX5_run wsX5_run { frames := 1, cells := 0, slots := 0, locals := 23 } D cA .int [.ref (ad 0), .int x1, .int x2, .int x3] (wD_row cA ad block ties lines pmn row) (wD_row cA ad block ties lines pmn row) q := by
  refine MI.of (cc := cX5_run) (maxL := 8) (by decide +kernel) rfl rfl rfl (Nat.le_of_ble_eq_true rfl) ?_
  intro p e s m args below meth c A ls Q hx hb hml hts hown hK hP hD hA hS hl hret
  have hl : lv_has ls 8 [(0, .ref (ad 0)), (1, .int x1), (2, .int x2), (3, .int x3)] := hl
  have f106 := hts (.fieldLink RX5 106 "ModeDesk$Row" "values" "[I") (by decide +kernel)
  have f26 := hts (.fieldLink RX5 26 "ModeDesk" "row" "LModeDesk$Row;") (by decide +kernel)
  have iX2 : ∀ w ∈ wsX20, w ∈ wsX5_run := by decide +kernel
  have iX5 : ∀ w ∈ wsX50, w ∈ wsX5_run := by decide +kernel
  unfold mX5_run at h
  refine lv_aload_n hx hb dX5_run_0 rfl (lv_at hl 0 rfl) ?_
  refine va_get (D := D) (ci := 5) (v := .ref (ad 7)) (C := RX5) (T := TX5) (N := 12) hx hb hts iX5 hown hK hP 0 rfl rfl 2 (Nat.le_of_ble_eq_true rfl) f26 (fun _ h9 => h9) rfl dX5_run_1 ?_
  refine lv_iload_n hx hb dX5_run_4 rfl (lv_at hl 1 rfl) ?_
  refine lv_iload_n hx hb dX5_run_5 rfl (lv_at hl 2 rfl) ?_
  obtain ⟨q1, eq1, h⟩ := e_b h
  refine xv_i (As := [.int x1, .int x2]) (rest := []) (ci := 2) (b := ad 7) ⟨hx, hb, hml, hown, hts⟩ hl.1 (kX2_hasSpan l D cA (fun i => ad (7 + i)) row x1 x2 _ eq1) (cwV 2 hts gX5_run_X2_hasSpan rfl rfl rfl (by decide +kernel) ⟨Nat.le_of_ble_eq_true rfl, Nat.le_of_ble_eq_true rfl⟩) rfl hK hP hD hS hA 1 rfl rfl rfl [1, 2, 3] rfl (by decide +kernel) rfl (Nat.le_of_ble_eq_true rfl) dX5_run_6 ⟨Nat.zero_le _, Nat.zero_le _⟩ (fun H locs hP hD hS hnq1 => ?_)
  have hP : va_P D vwCl (wD_row cA ad block ties lines pmn row) H := hP
  have hD : va_D A (wD_row cA ad block ties lines pmn row) := hD
  refine lv_if_eq (tgt := 20) hx hb dX5_run_9 (by decide) (fun c2 => ?_) (fun c2 => ?_)
  · have h := e_t c2 h
    refine lv_iconst (v := (-1)) hx hb dX5_run_20 (by decide) ?_
    obtain rfl := e_s h
    exact hret hP hS rfl dX5_run_21
  · have h := e_f c2 h
    refine lv_iload_n hx hb dX5_run_12 rfl (lv_at hl 3 rfl) ?_
    refine lv_iconst (v := 3) hx hb dX5_run_13 (by decide) ?_
    obtain ⟨q3, eq3, h⟩ := e_b h
    refine xs_i (As := [.int x3, .int 3]) (rest := []) ⟨hx, hb, hml, hown, hts⟩ hl.1 (kX5_isBelow l D cA   x3 3 _ eq3) (va_cwS 2 hts gX5_run_X5_isBelow rfl rfl rfl (by decide +kernel) ⟨Nat.le_of_ble_eq_true rfl, Nat.le_of_ble_eq_true rfl⟩) rfl hK hP hD hS hA [] rfl (by decide +kernel) rfl (Nat.le_of_ble_eq_true rfl) dX5_run_14 ⟨Nat.zero_le _, Nat.zero_le _⟩ (fun H locs hP hD hS hnq3 => ?_)
    have hP : va_P D vwCl (wD_row cA ad block ties lines pmn row) H := hP
    have hD : va_D A (wD_row cA ad block ties lines pmn row) := hD
    refine lv_if_ne (tgt := 22) hx hb dX5_run_17 (by decide) (fun c4 => ?_) (fun c4 => ?_)
    · have h := e_t c4 h
      refine lv_iload_n hx hb dX5_run_22 rfl (lv_at hl 1 rfl) ?_
      refine lv_istore (lv' := [(4, .int x1), (0, .ref (ad 0)), (1, .int x1), (2, .int x2), (3, .int x3)]) hx hb dX5_run_23 hl (by decide) rfl (fun ls hl => ?_)
      refine lv_iload_n hx hb dX5_run_25 rfl (lv_at hl 2 rfl) ?_
      refine lv_istore (lv' := [(5, .int x1), (4, .int x1), (0, .ref (ad 0)), (1, .int x1), (2, .int x2), (3, .int x3)]) hx hb dX5_run_26 hl (by decide) rfl (fun ls hl => ?_)
      refine lv_iconst (v := 0) hx hb dX5_run_28 (by decide) ?_
      refine lv_istore (lv' := [(6, .int 0), (5, .int x1), (4, .int x1), (0, .ref (ad 0)), (1, .int x1), (2, .int x2), (3, .int x3)]) hx hb dX5_run_29 hl (by decide) rfl (fun ls hl => ?_)
      refine lv_iload_n hx hb dX5_run_31 rfl (lv_at hl 4 rfl) ?_
      refine lv_istore (lv' := [(7, .int x1), (6, .int 0), (5, .int x1), (4, .int x1), (0, .ref (ad 0)), (1, .int x1), (2, .int x2), (3, .int x3)]) hx hb dX5_run_32 hl (by decide) rfl (fun ls hl => ?_)
      have hL34 : ∀ (n : Nat) (x2 : Int32) (x3 : Int32) (x4 : Int32) (x5 : Int32) (x6 : Int32) (x7 : Int32) (block : Int32) (ties : Int32) (lines : Int32) (pmn : Int32) (row : RowT) (z5 : Int32 × Int32) (ls : Array Slot) (H : Heap) (locs : List Loc), lv_has ls 8 [(0, .ref (ad 0)), (2, .int x2), (3, .int x3), (4, .int x4), (5, .int x5), (6, .int x6), (7, .int x7)] → va_P D vwCl (wD_row cA ad block ties lines pmn row) H → va_D A (wD_row cA ad block ties lines pmn row) → va_S A s.heap H locs → mX5_run_L34 row x2 n x4 x5 x6 x7 = some z5 → (∀ (ls : Array Slot) (H : Heap) (locs : List Loc), lv_has ls 8 [(0, .ref (ad 0)), (3, .int x3), (5, .int z5.1), (6, .int z5.2)] → va_P D vwCl (wD_row cA ad block ties lines pmn row) H → va_D A (wD_row cA ad block ties lines pmn row) → va_S A s.heap H locs → W p l e (headSpec wsX5_run { frames := 1, cells := 0, slots := 0, locals := 23 }).room s m args below meth c H locs 0 0 Q (F0 m 98 ls [])) → W p l e (headSpec wsX5_run { frames := 1, cells := 0, slots := 0, locals := 23 }).room s m args below meth c H locs 0 0 Q (F0 m 34 ls []) := by
        intro n
        induction n with
        | zero => intro x2 x3 x4 x5 x6 x7 block ties lines pmn row z5 ls H locs hl hP hD hS h hk34; exact e_n h
        | succ n ih34 =>
          intro x2 x3 x4 x5 x6 x7 block ties lines pmn row z5 ls H locs hl hP hD hS h hk34
          rw [mX5_run_L34.eq_2] at h
          refine lv_iload hx hb dX5_run_34 (lv_at hl 6 rfl) ?_
          refine lv_iload_n hx hb dX5_run_36 rfl (lv_at hl 1 rfl) ?_
          refine lv_icmp_gt (tgt := 98) hx hb dX5_run_37 (by decide) (fun c6 => ?_) (fun c6 => ?_)
          · have h := e_t c6 h
            obtain rfl := e_s h
            exact hk34 _ _ _ (lv_sub hl [0, 2, 4, 5] rfl) hP hD hS
          · have h := e_f c6 h
            refine lv_aload_n hx hb dX5_run_40 rfl (lv_at hl 0 rfl) ?_
            refine va_get (D := D) (ci := 5) (v := .ref (ad 7)) (C := RX5) (T := TX5) (N := 12) hx hb hts iX5 hown hK hP 0 rfl rfl 2 (Nat.le_of_ble_eq_true rfl) f26 (fun _ h9 => h9) rfl dX5_run_41 ?_
            refine va_get (D := D) (ci := 2) (v := .ref (ad 8)) (C := RX2) (T := TX2) (N := 3) hx hb hts iX2 hown hK hP 1 rfl rfl 0 (Nat.le_of_ble_eq_true rfl) f106 (fun _ h9 => h9) rfl dX5_run_44 ?_
            refine lv_iload hx hb dX5_run_47 (lv_at hl 6 rfl) ?_
            obtain ⟨v7, ev7, nv7, h⟩ := e_rd h
            refine xa_iald hx hb hK hP 2 rfl nv7 ev7 dX5_run_49 ?_
            refine lv_aload_n hx hb dX5_run_50 rfl (lv_at hl 0 rfl) ?_
            refine va_get (D := D) (ci := 5) (v := .ref (ad 7)) (C := RX5) (T := TX5) (N := 12) hx hb hts iX5 hown hK hP 0 rfl rfl 2 (Nat.le_of_ble_eq_true rfl) f26 (fun _ h9 => h9) rfl dX5_run_51 ?_
            refine va_get (D := D) (ci := 2) (v := .ref (ad 8)) (C := RX2) (T := TX2) (N := 3) hx hb hts iX2 hown hK hP 1 rfl rfl 0 (Nat.le_of_ble_eq_true rfl) f106 (fun _ h9 => h9) rfl dX5_run_54 ?_
            refine lv_iload hx hb dX5_run_57 (lv_at hl 3 rfl) ?_
            obtain ⟨v8, ev8, nv8, h⟩ := e_rd h
            refine xa_iald hx hb hK hP 2 rfl nv8 ev8 dX5_run_59 ?_
            obtain ⟨z9, ez9, h⟩ := e_b h
            have hJ10 : ∀ (ls : Array Slot) (H : Heap) (locs : List Loc), lv_has ls 8 [(0, .ref (ad 0)), (2, .int x2), (3, .int x3), (4, .int z9), (5, .int x5), (6, .int x6), (7, .int x7)] → va_P D vwCl (wD_row cA ad block ties lines pmn row) H → va_D A (wD_row cA ad block ties lines pmn row) → va_S A s.heap H locs → W p l e (headSpec wsX5_run { frames := 1, cells := 0, slots := 0, locals := 23 }).room s m args below meth c H locs 0 0 Q (F0 m 67 ls []) := by
              intro ls H locs hl hP hD hS
              refine lv_iload hx hb dX5_run_67 (lv_at hl 6 rfl) ?_
              refine lv_iload hx hb dX5_run_69 (lv_at hl 3 rfl) ?_
              refine lv_isub hx hb dX5_run_71 ?_
              refine lv_iconst (v := 1) hx hb dX5_run_72 (by decide) ?_
              refine lv_iadd hx hb dX5_run_73 ?_
              refine lv_iload hx hb dX5_run_74 (lv_at hl 5 rfl) ?_
              refine lv_icmp_le (tgt := 92) hx hb dX5_run_76 (by decide) (fun c11 => ?_) (fun c11 => ?_)
              · have h := e_t c11 h
                refine lv_iinc (v := (x7 + 1)) (lv' := [(7, .int (x7 + 1)), (0, .ref (ad 0)), (2, .int x2), (3, .int x3), (4, .int z9), (5, .int x5), (6, .int x6)]) hx hb dX5_run_92 hl (k := 6) rfl rfl (by decide) rfl (fun ls hl => ?_)
                refine lv_goto (tgt := 34) hx hb dX5_run_95 (by decide) ?_
                exact ih34 x2 x3 z9 x5 x6 (x7 + 1) block ties lines pmn row z5 _ _ _ (lv_sub hl [1, 2, 3, 4, 5, 6, 0] rfl) hP hD hS h hk34
              · have h := e_f c11 h
                refine lv_iload hx hb dX5_run_79 (lv_at hl 3 rfl) ?_
                refine lv_istore (lv' := [(5, .int z9), (0, .ref (ad 0)), (2, .int x2), (3, .int x3), (4, .int z9), (6, .int x6), (7, .int x7)]) hx hb dX5_run_81 hl (by decide) rfl (fun ls hl => ?_)
                refine lv_iload hx hb dX5_run_83 (lv_at hl 6 rfl) ?_
                refine lv_iload hx hb dX5_run_85 (lv_at hl 4 rfl) ?_
                refine lv_isub hx hb dX5_run_87 ?_
                refine lv_iconst (v := 1) hx hb dX5_run_88 (by decide) ?_
                refine lv_iadd hx hb dX5_run_89 ?_
                refine lv_istore (lv' := [(6, .int ((x7 - z9) + 1)), (5, .int z9), (0, .ref (ad 0)), (2, .int x2), (3, .int x3), (4, .int z9), (7, .int x7)]) hx hb dX5_run_90 hl (by decide) rfl (fun ls hl => ?_)
                refine lv_iinc (v := (x7 + 1)) (lv' := [(7, .int (x7 + 1)), (6, .int ((x7 - z9) + 1)), (5, .int z9), (0, .ref (ad 0)), (2, .int x2), (3, .int x3), (4, .int z9)]) hx hb dX5_run_92 hl (k := 6) rfl rfl (by decide) rfl (fun ls hl => ?_)
                refine lv_goto (tgt := 34) hx hb dX5_run_95 (by decide) ?_
                exact ih34 x2 x3 z9 z9 ((x7 - z9) + 1) (x7 + 1) block ties lines pmn row z5 _ _ _ (lv_sub hl [3, 4, 5, 6, 2, 1, 0] rfl) hP hD hS h hk34
            have h := ez9
            refine lv_icmp_eq (tgt := 67) hx hb dX5_run_60 (by decide) (fun c12 => ?_) (fun c12 => ?_)
            · have h := e_t c12 h
              obtain rfl := e_s h
              exact hJ10 _ _ _ (lv_sub hl [0, 1, 2, 3, 4, 5, 6] rfl) hP hD hS
            · have h := e_f c12 h
              refine lv_iload hx hb dX5_run_63 (lv_at hl 6 rfl) ?_
              refine lv_istore (lv' := [(4, .int x7), (0, .ref (ad 0)), (2, .int x2), (3, .int x3), (5, .int x5), (6, .int x6), (7, .int x7)]) hx hb dX5_run_65 hl (by decide) rfl (fun ls hl => ?_)
              obtain rfl := e_s h
              exact hJ10 _ _ _ (lv_sub hl [1, 2, 3, 0, 4, 5, 6] rfl) hP hD hS
      obtain ⟨z13, ez13, h⟩ := e_b h
      refine hL34 FU x2 x3 x1 x1 0 x1 block ties lines pmn row z13 _ _ _ (lv_sub hl [4, 6, 7, 3, 2, 1, 0] rfl) hP hD hS ez13 (fun ls H locs hl hP hD hS => ?_)
      refine lv_aload_n hx hb dX5_run_98 rfl (lv_at hl 0 rfl) ?_
      refine lv_iload hx hb dX5_run_99 (lv_at hl 2 rfl) ?_
      refine lv_iload hx hb dX5_run_101 (lv_at hl 3 rfl) ?_
      refine lv_iload_n hx hb dX5_run_103 rfl (lv_at hl 1 rfl) ?_
      obtain ⟨q14, eq14, h⟩ := e_b h
      refine xv_i (As := [.int z13.1, .int z13.2, .int x3]) (rest := []) (ci := 5) (b := ad 0) ⟨hx, hb, hml, hown, hts⟩ hl.1 (kX5_spanTold l D cA ad block ties lines pmn row z13.1 z13.2 x3 _ eq14) (cwV 3 hts gX5_run_X5_spanTold rfl rfl rfl (by decide +kernel) ⟨Nat.le_of_ble_eq_true rfl, Nat.le_of_ble_eq_true rfl⟩) rfl hK hP hD hS hA 0 rfl rfl rfl [0, 1, 2, 3] rfl (by decide +kernel) rfl (Nat.le_of_ble_eq_true rfl) dX5_run_104 ⟨Nat.zero_le _, Nat.zero_le _⟩ (fun H locs hP hD hS hnq14 => ?_)
      have hP : va_P D vwCl (wD_row cA ad block ties lines pmn row) H := hP
      have hD : va_D A (wD_row cA ad block ties lines pmn row) := hD
      obtain rfl := e_s h
      exact hret hP hS rfl dX5_run_107
    · have h := e_f (not_not_intro c4) h
      refine lv_iconst (v := (-1)) hx hb dX5_run_20 (by decide) ?_
      obtain rfl := e_s h
      exact hret hP hS rfl dX5_run_21
set_option maxHeartbeats 4000000 in
set_option maxRecDepth 100000 in
theorem kX5_common (l : Launch) (D : va_G) (cA : Nat → ClassId) (ad : Nat → Nat) (block : Int32) (ties : Int32) (lines : Int32) (pmn : Int32) (row : RowT) (tally : TalT) (aside : TalT) (x1 : Int32) (x2 : Int32) (x3 : Int32) (q : Int32 × TalT × TalT) (h : mX5_common ties row tally aside x1 x2 x3 = some q) : MI l yX5_common wsX5_common { frames := 3, cells := 0, slots := 0, locals := 66 } D cA .int [.ref (ad 0), .int x1, .int x2, .int x3] (wD_row_tally_aside cA ad block ties lines pmn row tally aside) (wD_row_tally_aside cA ad block ties lines pmn row q.2.1 q.2.2) q.1 := by
  refine MI.of (cc := cX5_common) (maxL := 7) (by decide +kernel) rfl rfl rfl (Nat.le_of_ble_eq_true rfl) ?_
  intro p e s m args below meth c A ls Q hx hb hml hts hown hK hP hD hA hS hl hret
  have hl : lv_has ls 7 [(0, .ref (ad 0)), (1, .int x1), (2, .int x2), (3, .int x3)] := hl
  have f106 := hts (.fieldLink RX5 106 "ModeDesk$Row" "values" "[I") (by decide +kernel)
  have f182 := hts (.fieldLink RX5 182 "ModeDesk$Tally" "kinds" "I") (by decide +kernel)
  have f187 := hts (.fieldLink RX5 187 "ModeDesk$Tally" "kind" "[I") (by decide +kernel)
  have f190 := hts (.fieldLink RX5 190 "ModeDesk$Tally" "number" "[I") (by decide +kernel)
  have f26 := hts (.fieldLink RX5 26 "ModeDesk" "row" "LModeDesk$Row;") (by decide +kernel)
  have f43 := hts (.fieldLink RX5 43 "ModeDesk" "tally" "LModeDesk$Tally;") (by decide +kernel)
  have f47 := hts (.fieldLink RX5 47 "ModeDesk" "aside" "LModeDesk$Tally;") (by decide +kernel)
  have f58 := hts (.fieldLink RX5 58 "ModeDesk" "ties" "I") (by decide +kernel)
  have iX2 : ∀ w ∈ wsX20, w ∈ wsX5_common := by decide +kernel
  have iX3 : ∀ w ∈ wsX30, w ∈ wsX5_common := by decide +kernel
  have iX5 : ∀ w ∈ wsX50, w ∈ wsX5_common := by decide +kernel
  unfold mX5_common at h
  refine lv_aload_n hx hb dX5_common_0 rfl (lv_at hl 0 rfl) ?_
  refine va_get (D := D) (ci := 5) (v := .ref (ad 7)) (C := RX5) (T := TX5) (N := 12) hx hb hts iX5 hown hK hP 0 rfl rfl 2 (Nat.le_of_ble_eq_true rfl) f26 (fun _ h9 => h9) rfl dX5_common_1 ?_
  refine lv_iload_n hx hb dX5_common_4 rfl (lv_at hl 1 rfl) ?_
  refine lv_iload_n hx hb dX5_common_5 rfl (lv_at hl 2 rfl) ?_
  obtain ⟨q1, eq1, h⟩ := e_b h
  refine xv_i (As := [.int x1, .int x2]) (rest := []) (ci := 2) (b := ad 7) ⟨hx, hb, hml, hown, hts⟩ hl.1 (kX2_hasSpan l D cA (fun i => ad (7 + i)) row x1 x2 _ eq1) (cwV 2 hts gX5_common_X2_hasSpan rfl rfl rfl (by decide +kernel) ⟨Nat.le_of_ble_eq_true rfl, Nat.le_of_ble_eq_true rfl⟩) rfl hK hP hD hS hA 1 rfl rfl rfl [1, 2, 3] rfl (by decide +kernel) rfl (Nat.le_of_ble_eq_true rfl) dX5_common_6 ⟨Nat.zero_le _, Nat.zero_le _⟩ (fun H locs hP hD hS hnq1 => ?_)
  have hP : va_P D vwCl (wD_row_tally_aside cA ad block ties lines pmn row tally aside) H := hP
  have hD : va_D A (wD_row_tally_aside cA ad block ties lines pmn row tally aside) := hD
  refine lv_if_eq (tgt := 38) hx hb dX5_common_9 (by decide) (fun c2 => ?_) (fun c2 => ?_)
  · have h := e_t c2 h
    refine lv_iconst (v := (-1)) hx hb dX5_common_38 (by decide) ?_
    obtain rfl := e_s h
    exact hret hP hS rfl dX5_common_39
  · have h := e_f c2 h
    refine lv_aload_n hx hb dX5_common_12 rfl (lv_at hl 0 rfl) ?_
    refine va_get (D := D) (ci := 5) (v := .ref (ad 7)) (C := RX5) (T := TX5) (N := 12) hx hb hts iX5 hown hK hP 0 rfl rfl 2 (Nat.le_of_ble_eq_true rfl) f26 (fun _ h9 => h9) rfl dX5_common_13 ?_
    refine lv_iload_n hx hb dX5_common_16 rfl (lv_at hl 3 rfl) ?_
    obtain ⟨q3, eq3, h⟩ := e_b h
    refine xv_i (As := [.int x3]) (rest := []) (ci := 2) (b := ad 7) ⟨hx, hb, hml, hown, hts⟩ hl.1 (kX2_has l D cA (fun i => ad (7 + i)) row x3 _ eq3) (cwV 1 hts gX5_common_X2_has rfl rfl rfl (by decide +kernel) ⟨Nat.le_of_ble_eq_true rfl, Nat.le_of_ble_eq_true rfl⟩) rfl hK hP hD hS hA 1 rfl rfl rfl [1, 2, 3] rfl (by decide +kernel) rfl (Nat.le_of_ble_eq_true rfl) dX5_common_17 ⟨Nat.zero_le _, Nat.zero_le _⟩ (fun H locs hP hD hS hnq3 => ?_)
    have hP : va_P D vwCl (wD_row_tally_aside cA ad block ties lines pmn row tally aside) H := hP
    have hD : va_D A (wD_row_tally_aside cA ad block ties lines pmn row tally aside) := hD
    refine lv_if_eq (tgt := 38) hx hb dX5_common_20 (by decide) (fun c4 => ?_) (fun c4 => ?_)
    · have h := e_t c4 h
      refine lv_iconst (v := (-1)) hx hb dX5_common_38 (by decide) ?_
      obtain rfl := e_s h
      exact hret hP hS rfl dX5_common_39
    · have h := e_f c4 h
      refine lv_aload_n hx hb dX5_common_23 rfl (lv_at hl 0 rfl) ?_
      refine va_get (D := D) (ci := 5) (v := .ref (ad 7)) (C := RX5) (T := TX5) (N := 12) hx hb hts iX5 hown hK hP 0 rfl rfl 2 (Nat.le_of_ble_eq_true rfl) f26 (fun _ h9 => h9) rfl dX5_common_24 ?_
      refine lv_iload_n hx hb dX5_common_27 rfl (lv_at hl 3 rfl) ?_
      refine lv_iload_n hx hb dX5_common_28 rfl (lv_at hl 2 rfl) ?_
      refine lv_iload_n hx hb dX5_common_29 rfl (lv_at hl 1 rfl) ?_
      refine lv_isub hx hb dX5_common_30 ?_
      refine lv_iadd hx hb dX5_common_31 ?_
      obtain ⟨q5, eq5, h⟩ := e_b h
      refine xv_i (As := [.int (x3 + (x2 - x1))]) (rest := []) (ci := 2) (b := ad 7) ⟨hx, hb, hml, hown, hts⟩ hl.1 (kX2_has l D cA (fun i => ad (7 + i)) row (x3 + (x2 - x1)) _ eq5) (cwV 1 hts gX5_common_X2_has rfl rfl rfl (by decide +kernel) ⟨Nat.le_of_ble_eq_true rfl, Nat.le_of_ble_eq_true rfl⟩) rfl hK hP hD hS hA 1 rfl rfl rfl [1, 2, 3] rfl (by decide +kernel) rfl (Nat.le_of_ble_eq_true rfl) dX5_common_32 ⟨Nat.zero_le _, Nat.zero_le _⟩ (fun H locs hP hD hS hnq5 => ?_)
      have hP : va_P D vwCl (wD_row_tally_aside cA ad block ties lines pmn row tally aside) H := hP
      have hD : va_D A (wD_row_tally_aside cA ad block ties lines pmn row tally aside) := hD
      refine lv_if_ne (tgt := 40) hx hb dX5_common_35 (by decide) (fun c6 => ?_) (fun c6 => ?_)
      · have h := e_t c6 h
        refine lv_aload_n hx hb dX5_common_40 rfl (lv_at hl 0 rfl) ?_
        refine lv_iload_n hx hb dX5_common_41 rfl (lv_at hl 1 rfl) ?_
        refine lv_iload_n hx hb dX5_common_42 rfl (lv_at hl 2 rfl) ?_
        obtain ⟨q7, eq7, h⟩ := e_b h
        refine xv_v (As := [.int x1, .int x2]) (rest := []) (ci := 5) (b := ad 0) ⟨hx, hb, hml, hown, hts⟩ hl.1 (kX5_tallySpan l D cA ad block ties lines pmn row tally x1 x2 _ eq7) (cwV 2 hts gX5_common_X5_tallySpan rfl rfl rfl (by decide +kernel) ⟨Nat.le_of_ble_eq_true rfl, Nat.le_of_ble_eq_true rfl⟩) rfl hK hP hD hS hA 0 rfl rfl rfl [0, 1, 2, 3, 4, 5, 6, 7, 8] rfl (by decide +kernel) rfl (Nat.le_of_ble_eq_true rfl) dX5_common_43 ⟨Nat.zero_le _, Nat.zero_le _⟩ (fun H locs hP hD hS => ?_)
        have hP : va_P D vwCl (wD_row_tally_aside cA ad block ties lines pmn row q7 aside) H := hP
        have hD : va_D A (wD_row_tally_aside cA ad block ties lines pmn row q7 aside) := hD
        refine lv_aload_n hx hb dX5_common_46 rfl (lv_at hl 0 rfl) ?_
        refine va_get (D := D) (ci := 5) (v := .ref (ad 56)) (C := RX5) (T := TX5) (N := 12) hx hb hts iX5 hown hK hP 0 rfl rfl 6 (Nat.le_of_ble_eq_true rfl) f47 (fun _ h9 => h9) rfl dX5_common_47 ?_
        refine lv_aload_n hx hb dX5_common_50 rfl (lv_at hl 0 rfl) ?_
        refine va_get (D := D) (ci := 5) (v := .int ties) (C := RX5) (T := TX5) (N := 12) hx hb hts iX5 hown hK hP 0 rfl rfl 9 (Nat.le_of_ble_eq_true rfl) f58 (fun _ h9 => h9) rfl dX5_common_51 ?_
        obtain ⟨q8, eq8, h⟩ := e_b h
        refine xv_v (As := [.int ties]) (rest := []) (ci := 3) (b := ad 56) ⟨hx, hb, hml, hown, hts⟩ hl.1 (kX3_begin l D cA (fun i => ad (56 + i)) aside ties _ eq8) (cwV 1 hts gX5_common_X3_begin rfl rfl rfl (by decide +kernel) ⟨Nat.le_of_ble_eq_true rfl, Nat.le_of_ble_eq_true rfl⟩) rfl hK hP hD hS hA 9 rfl rfl rfl [9, 10, 11, 12, 13] rfl (by decide +kernel) rfl (Nat.le_of_ble_eq_true rfl) dX5_common_54 ⟨Nat.zero_le _, Nat.zero_le _⟩ (fun H locs hP hD hS => ?_)
        have hP : va_P D vwCl (wD_row_tally_aside cA ad block ties lines pmn row q7 q8) H := hP
        have hD : va_D A (wD_row_tally_aside cA ad block ties lines pmn row q7 q8) := hD
        refine lv_iload_n hx hb dX5_common_57 rfl (lv_at hl 3 rfl) ?_
        refine lv_istore (lv' := [(4, .int x3), (0, .ref (ad 0)), (1, .int x1), (2, .int x2), (3, .int x3)]) hx hb dX5_common_58 hl (by decide) rfl (fun ls hl => ?_)
        have hL60 : ∀ (n : Nat) (x1 : Int32) (x2 : Int32) (x3 : Int32) (x4 : Int32) (block : Int32) (ties : Int32) (lines : Int32) (pmn : Int32) (row : RowT) (tally : TalT) (aside : TalT) (z9 : TalT) (ls : Array Slot) (H : Heap) (locs : List Loc), lv_has ls 7 [(0, .ref (ad 0)), (1, .int x1), (2, .int x2), (3, .int x3), (4, .int x4)] → va_P D vwCl (wD_row_tally_aside cA ad block ties lines pmn row tally aside) H → va_D A (wD_row_tally_aside cA ad block ties lines pmn row tally aside) → va_S A s.heap H locs → mX5_common_L60 row x1 x2 x3 n x4 aside = some z9 → (∀ (ls : Array Slot) (H : Heap) (locs : List Loc), lv_has ls 7 [(0, .ref (ad 0))] → va_P D vwCl (wD_row_tally_aside cA ad block ties lines pmn row tally z9) H → va_D A (wD_row_tally_aside cA ad block ties lines pmn row tally z9) → va_S A s.heap H locs → W p l e (headSpec wsX5_common { frames := 3, cells := 0, slots := 0, locals := 66 }).room s m args below meth c H locs 0 0 Q (F0 m 93 ls [])) → W p l e (headSpec wsX5_common { frames := 3, cells := 0, slots := 0, locals := 66 }).room s m args below meth c H locs 0 0 Q (F0 m 60 ls []) := by
          intro n
          induction n with
          | zero => intro x1 x2 x3 x4 block ties lines pmn row tally aside z9 ls H locs hl hP hD hS h hk60; exact e_n h
          | succ n ih60 =>
            intro x1 x2 x3 x4 block ties lines pmn row tally aside z9 ls H locs hl hP hD hS h hk60
            rw [mX5_common_L60.eq_2] at h
            refine lv_iload hx hb dX5_common_60 (lv_at hl 4 rfl) ?_
            refine lv_iload_n hx hb dX5_common_62 rfl (lv_at hl 3 rfl) ?_
            refine lv_iload_n hx hb dX5_common_63 rfl (lv_at hl 2 rfl) ?_
            refine lv_iload_n hx hb dX5_common_64 rfl (lv_at hl 1 rfl) ?_
            refine lv_isub hx hb dX5_common_65 ?_
            refine lv_iadd hx hb dX5_common_66 ?_
            refine lv_icmp_gt (tgt := 93) hx hb dX5_common_67 (by decide) (fun c10 => ?_) (fun c10 => ?_)
            · have h := e_t c10 h
              obtain rfl := e_s h
              exact hk60 _ _ _ (lv_sub hl [0] rfl) hP hD hS
            · have h := e_f c10 h
              refine lv_aload_n hx hb dX5_common_70 rfl (lv_at hl 0 rfl) ?_
              refine va_get (D := D) (ci := 5) (v := .ref (ad 56)) (C := RX5) (T := TX5) (N := 12) hx hb hts iX5 hown hK hP 0 rfl rfl 6 (Nat.le_of_ble_eq_true rfl) f47 (fun _ h9 => h9) rfl dX5_common_71 ?_
              refine lv_aload_n hx hb dX5_common_74 rfl (lv_at hl 0 rfl) ?_
              refine va_get (D := D) (ci := 5) (v := .ref (ad 7)) (C := RX5) (T := TX5) (N := 12) hx hb hts iX5 hown hK hP 0 rfl rfl 2 (Nat.le_of_ble_eq_true rfl) f26 (fun _ h9 => h9) rfl dX5_common_75 ?_
              refine va_get (D := D) (ci := 2) (v := .ref (ad 8)) (C := RX2) (T := TX2) (N := 3) hx hb hts iX2 hown hK hP 1 rfl rfl 0 (Nat.le_of_ble_eq_true rfl) f106 (fun _ h9 => h9) rfl dX5_common_78 ?_
              refine lv_iload hx hb dX5_common_81 (lv_at hl 4 rfl) ?_
              obtain ⟨v11, ev11, nv11, h⟩ := e_rd h
              refine xa_iald hx hb hK hP 2 rfl nv11 ev11 dX5_common_83 ?_
              obtain ⟨q12, eq12, h⟩ := e_b h
              refine xv_v (As := [.int v11]) (rest := []) (ci := 3) (b := ad 56) ⟨hx, hb, hml, hown, hts⟩ hl.1 (kX3_push l D cA (fun i => ad (56 + i)) aside v11 _ eq12) (cwV 1 hts gX5_common_X3_push rfl rfl rfl (by decide +kernel) ⟨Nat.le_of_ble_eq_true rfl, Nat.le_of_ble_eq_true rfl⟩) rfl hK hP hD hS hA 9 rfl rfl rfl [9, 10, 11, 12, 13] rfl (by decide +kernel) rfl (Nat.le_of_ble_eq_true rfl) dX5_common_84 ⟨Nat.zero_le _, Nat.zero_le _⟩ (fun H locs hP hD hS => ?_)
              have hP : va_P D vwCl (wD_row_tally_aside cA ad block ties lines pmn row tally q12) H := hP
              have hD : va_D A (wD_row_tally_aside cA ad block ties lines pmn row tally q12) := hD
              refine lv_iinc (v := (x4 + 1)) (lv' := [(4, .int (x4 + 1)), (0, .ref (ad 0)), (1, .int x1), (2, .int x2), (3, .int x3)]) hx hb dX5_common_87 hl (k := 4) rfl rfl (by decide) rfl (fun ls hl => ?_)
              refine lv_goto (tgt := 60) hx hb dX5_common_90 (by decide) ?_
              exact ih60 x1 x2 x3 (x4 + 1) block ties lines pmn row tally q12 z9 _ _ _ (lv_sub hl [1, 2, 3, 4, 0] rfl) hP hD hS h hk60
        obtain ⟨z13, ez13, h⟩ := e_b h
        refine hL60 FU x1 x2 x3 x3 block ties lines pmn row q7 q8 z13 _ _ _ (lv_sub hl [1, 2, 3, 4, 0] rfl) hP hD hS ez13 (fun ls H locs hl hP hD hS => ?_)
        refine lv_iconst (v := 0) hx hb dX5_common_93 (by decide) ?_
        refine lv_istore (lv' := [(4, .int 0), (0, .ref (ad 0))]) hx hb dX5_common_94 hl (by decide) rfl (fun ls hl => ?_)
        refine lv_iconst (v := 0) hx hb dX5_common_96 (by decide) ?_
        refine lv_istore (lv' := [(5, .int 0), (4, .int 0), (0, .ref (ad 0))]) hx hb dX5_common_97 hl (by decide) rfl (fun ls hl => ?_)
        have hL99 : ∀ (n : Nat) (x4 : Int32) (x5 : Int32) (block : Int32) (ties : Int32) (lines : Int32) (pmn : Int32) (row : RowT) (tally : TalT) (aside : TalT) (z14 : Int32) (ls : Array Slot) (H : Heap) (locs : List Loc), lv_has ls 7 [(0, .ref (ad 0)), (4, .int x4), (5, .int x5)] → va_P D vwCl (wD_row_tally_aside cA ad block ties lines pmn row tally aside) H → va_D A (wD_row_tally_aside cA ad block ties lines pmn row tally aside) → va_S A s.heap H locs → mX5_common_L99 tally aside n x4 x5 = some z14 → (∀ (ls : Array Slot) (H : Heap) (locs : List Loc), lv_has ls 7 [(4, .int z14)] → va_P D vwCl (wD_row_tally_aside cA ad block ties lines pmn row tally aside) H → va_D A (wD_row_tally_aside cA ad block ties lines pmn row tally aside) → va_S A s.heap H locs → W p l e (headSpec wsX5_common { frames := 3, cells := 0, slots := 0, locals := 66 }).room s m args below meth c H locs 0 0 Q (F0 m 157 ls [])) → W p l e (headSpec wsX5_common { frames := 3, cells := 0, slots := 0, locals := 66 }).room s m args below meth c H locs 0 0 Q (F0 m 99 ls []) := by
          intro n
          induction n with
          | zero => intro x4 x5 block ties lines pmn row tally aside z14 ls H locs hl hP hD hS h hk99; exact e_n h
          | succ n ih99 =>
            intro x4 x5 block ties lines pmn row tally aside z14 ls H locs hl hP hD hS h hk99
            rw [mX5_common_L99.eq_2] at h
            refine lv_iload hx hb dX5_common_99 (lv_at hl 2 rfl) ?_
            refine lv_aload_n hx hb dX5_common_101 rfl (lv_at hl 0 rfl) ?_
            refine va_get (D := D) (ci := 5) (v := .ref (ad 51)) (C := RX5) (T := TX5) (N := 12) hx hb hts iX5 hown hK hP 0 rfl rfl 5 (Nat.le_of_ble_eq_true rfl) f43 (fun _ h9 => h9) rfl dX5_common_102 ?_
            refine va_get (D := D) (ci := 3) (v := .int tally.2.2.2.2.1) (C := RX3) (T := TX3) (N := 8) hx hb hts iX3 hown hK hP 4 rfl rfl 4 (Nat.le_of_ble_eq_true rfl) f182 (fun _ h9 => h9) rfl dX5_common_105 ?_
            refine lv_icmp_ge (tgt := 157) hx hb dX5_common_108 (by decide) (fun c15 => ?_) (fun c15 => ?_)
            · have h := e_t c15 h
              obtain rfl := e_s h
              exact hk99 _ _ _ (lv_sub hl [1] rfl) hP hD hS
            · have h := e_f c15 h
              refine lv_aload_n hx hb dX5_common_111 rfl (lv_at hl 0 rfl) ?_
              refine va_get (D := D) (ci := 5) (v := .ref (ad 51)) (C := RX5) (T := TX5) (N := 12) hx hb hts iX5 hown hK hP 0 rfl rfl 5 (Nat.le_of_ble_eq_true rfl) f43 (fun _ h9 => h9) rfl dX5_common_112 ?_
              refine va_get (D := D) (ci := 3) (v := .ref (ad 55)) (C := RX3) (T := TX3) (N := 8) hx hb hts iX3 hown hK hP 4 rfl rfl 3 (Nat.le_of_ble_eq_true rfl) f187 (fun _ h9 => h9) rfl dX5_common_115 ?_
              refine lv_iload hx hb dX5_common_118 (lv_at hl 2 rfl) ?_
              obtain ⟨v16, ev16, nv16, h⟩ := e_rd h
              refine xa_iald hx hb hK hP 8 rfl nv16 ev16 dX5_common_120 ?_
              refine lv_istore (lv' := [(6, .int v16), (0, .ref (ad 0)), (4, .int x4), (5, .int x5)]) hx hb dX5_common_121 hl (by decide) rfl (fun ls hl => ?_)
              refine lv_iload hx hb dX5_common_123 (lv_at hl 2 rfl) ?_
              refine lv_aload_n hx hb dX5_common_125 rfl (lv_at hl 1 rfl) ?_
              refine va_get (D := D) (ci := 5) (v := .ref (ad 51)) (C := RX5) (T := TX5) (N := 12) hx hb hts iX5 hown hK hP 0 rfl rfl 5 (Nat.le_of_ble_eq_true rfl) f43 (fun _ h9 => h9) rfl dX5_common_126 ?_
              refine va_get (D := D) (ci := 3) (v := .ref (ad 52)) (C := RX3) (T := TX3) (N := 8) hx hb hts iX3 hown hK hP 4 rfl rfl 0 (Nat.le_of_ble_eq_true rfl) f190 (fun _ h9 => h9) rfl dX5_common_129 ?_
              refine lv_iload hx hb dX5_common_132 (lv_at hl 0 rfl) ?_
              obtain ⟨v17, ev17, nv17, h⟩ := e_rd h
              refine xa_iald hx hb hK hP 5 rfl nv17 ev17 dX5_common_134 ?_
              refine lv_aload_n hx hb dX5_common_135 rfl (lv_at hl 1 rfl) ?_
              refine va_get (D := D) (ci := 5) (v := .ref (ad 56)) (C := RX5) (T := TX5) (N := 12) hx hb hts iX5 hown hK hP 0 rfl rfl 6 (Nat.le_of_ble_eq_true rfl) f47 (fun _ h9 => h9) rfl dX5_common_136 ?_
              refine va_get (D := D) (ci := 3) (v := .ref (ad 57)) (C := RX3) (T := TX3) (N := 8) hx hb hts iX3 hown hK hP 9 rfl rfl 0 (Nat.le_of_ble_eq_true rfl) f190 (fun _ h9 => h9) rfl dX5_common_139 ?_
              refine lv_iload hx hb dX5_common_142 (lv_at hl 0 rfl) ?_
              obtain ⟨v18, ev18, nv18, h⟩ := e_rd h
              refine xa_iald hx hb hK hP 10 rfl nv18 ev18 dX5_common_144 ?_
              refine va_mmin hx hb (by rw [hml, hl.1]) hown (hts (.methodLink RX5 234 Lib.Math.min.name) (by decide +kernel)) (hts (.static Lib.Math.min.name) (by decide +kernel)) (hts (.initialized "java/lang/Math") (by decide +kernel)) (hts (.code Lib.Math.min.name Lib.Math.min.code 2 (some .int)) (by decide +kernel)) (Nat.le_of_ble_eq_true rfl) (Nat.le_of_ble_eq_true rfl) (Nat.zero_le _) (Nat.zero_le _) dX5_common_145 ?_
              refine lv_iadd hx hb dX5_common_148 ?_
              refine lv_istore (lv' := [(4, .int (x4 + (if v18 < v17 then v18 else v17))), (6, .int v16), (0, .ref (ad 0)), (5, .int x5)]) hx hb dX5_common_149 hl (by decide) rfl (fun ls hl => ?_)
              refine lv_iinc (v := (x5 + 1)) (lv' := [(5, .int (x5 + 1)), (4, .int (x4 + (if v18 < v17 then v18 else v17))), (6, .int v16), (0, .ref (ad 0))]) hx hb dX5_common_151 hl (k := 3) rfl rfl (by decide) rfl (fun ls hl => ?_)
              refine lv_goto (tgt := 99) hx hb dX5_common_154 (by decide) ?_
              exact ih99 (x4 + (if v18 < v17 then v18 else v17)) (x5 + 1) block ties lines pmn row tally aside z14 _ _ _ (lv_sub hl [3, 1, 0] rfl) hP hD hS h hk99
        obtain ⟨z19, ez19, h⟩ := e_b h
        refine hL99 FU 0 0 block ties lines pmn row q7 z13 z19 _ _ _ (lv_sub hl [2, 1, 0] rfl) hP hD hS ez19 (fun ls H locs hl hP hD hS => ?_)
        refine lv_iload hx hb dX5_common_157 (lv_at hl 0 rfl) ?_
        obtain rfl := e_s h
        exact hret hP hS rfl dX5_common_159
      · have h := e_f (not_not_intro c6) h
        refine lv_iconst (v := (-1)) hx hb dX5_common_38 (by decide) ?_
        obtain rfl := e_s h
        exact hret hP hS rfl dX5_common_39
set_option maxHeartbeats 4000000 in
set_option maxRecDepth 100000 in
theorem kX5_together (l : Launch) (D : va_G) (cA : Nat → ClassId) (ad : Nat → Nat) (block : Int32) (ties : Int32) (lines : Int32) (pmn : Int32) (row : RowT) (tally : TalT) (x1 : Int32) (x2 : Int32) (x3 : Int32) (x4 : Int32) (x5 : Int32) (q : Int32 × TalT) (h : mX5_together ties row tally x1 x2 x3 x4 x5 = some q) : MI l yX5_together wsX5_together { frames := 3, cells := 0, slots := 0, locals := 66 } D cA .int [.ref (ad 0), .int x1, .int x2, .int x3, .int x4, .int x5] (wD_row_tally cA ad block ties lines pmn row tally) (wD_row_tally cA ad block ties lines pmn row q.2) q.1 := by
  refine MI.of (cc := cX5_together) (maxL := 7) (by decide +kernel) rfl rfl rfl (Nat.le_of_ble_eq_true rfl) ?_
  intro p e s m args below meth c A ls Q hx hb hml hts hown hK hP hD hA hS hl hret
  have hl : lv_has ls 7 [(0, .ref (ad 0)), (1, .int x1), (2, .int x2), (3, .int x3), (4, .int x4), (5, .int x5)] := hl
  have f106 := hts (.fieldLink RX5 106 "ModeDesk$Row" "values" "[I") (by decide +kernel)
  have f176 := hts (.fieldLink RX5 176 "ModeDesk$Tally" "best" "I") (by decide +kernel)
  have f26 := hts (.fieldLink RX5 26 "ModeDesk" "row" "LModeDesk$Row;") (by decide +kernel)
  have f43 := hts (.fieldLink RX5 43 "ModeDesk" "tally" "LModeDesk$Tally;") (by decide +kernel)
  have iX2 : ∀ w ∈ wsX20, w ∈ wsX5_together := by decide +kernel
  have iX3 : ∀ w ∈ wsX30, w ∈ wsX5_together := by decide +kernel
  have iX5 : ∀ w ∈ wsX50, w ∈ wsX5_together := by decide +kernel
  unfold mX5_together at h
  refine lv_aload_n hx hb dX5_together_0 rfl (lv_at hl 0 rfl) ?_
  refine va_get (D := D) (ci := 5) (v := .ref (ad 7)) (C := RX5) (T := TX5) (N := 12) hx hb hts iX5 hown hK hP 0 rfl rfl 2 (Nat.le_of_ble_eq_true rfl) f26 (fun _ h9 => h9) rfl dX5_together_1 ?_
  refine lv_iload_n hx hb dX5_together_4 rfl (lv_at hl 1 rfl) ?_
  refine lv_iload_n hx hb dX5_together_5 rfl (lv_at hl 2 rfl) ?_
  obtain ⟨q1, eq1, h⟩ := e_b h
  refine xv_i (As := [.int x1, .int x2]) (rest := []) (ci := 2) (b := ad 7) ⟨hx, hb, hml, hown, hts⟩ hl.1 (kX2_hasSpan l D cA (fun i => ad (7 + i)) row x1 x2 _ eq1) (cwV 2 hts gX5_together_X2_hasSpan rfl rfl rfl (by decide +kernel) ⟨Nat.le_of_ble_eq_true rfl, Nat.le_of_ble_eq_true rfl⟩) rfl hK hP hD hS hA 1 rfl rfl rfl [1, 2, 3] rfl (by decide +kernel) rfl (Nat.le_of_ble_eq_true rfl) dX5_together_6 ⟨Nat.zero_le _, Nat.zero_le _⟩ (fun H locs hP hD hS hnq1 => ?_)
  have hP : va_P D vwCl (wD_row_tally cA ad block ties lines pmn row tally) H := hP
  have hD : va_D A (wD_row_tally cA ad block ties lines pmn row tally) := hD
  refine lv_if_eq (tgt := 34) hx hb dX5_together_9 (by decide) (fun c2 => ?_) (fun c2 => ?_)
  · have h := e_t c2 h
    refine lv_iconst (v := (-1)) hx hb dX5_together_34 (by decide) ?_
    obtain rfl := e_s h
    exact hret hP hS rfl dX5_together_35
  · have h := e_f c2 h
    refine lv_aload_n hx hb dX5_together_12 rfl (lv_at hl 0 rfl) ?_
    refine va_get (D := D) (ci := 5) (v := .ref (ad 7)) (C := RX5) (T := TX5) (N := 12) hx hb hts iX5 hown hK hP 0 rfl rfl 2 (Nat.le_of_ble_eq_true rfl) f26 (fun _ h9 => h9) rfl dX5_together_13 ?_
    refine lv_iload_n hx hb dX5_together_16 rfl (lv_at hl 3 rfl) ?_
    refine lv_iload hx hb dX5_together_17 (lv_at hl 4 rfl) ?_
    obtain ⟨q3, eq3, h⟩ := e_b h
    refine xv_i (As := [.int x3, .int x4]) (rest := []) (ci := 2) (b := ad 7) ⟨hx, hb, hml, hown, hts⟩ hl.1 (kX2_hasSpan l D cA (fun i => ad (7 + i)) row x3 x4 _ eq3) (cwV 2 hts gX5_together_X2_hasSpan rfl rfl rfl (by decide +kernel) ⟨Nat.le_of_ble_eq_true rfl, Nat.le_of_ble_eq_true rfl⟩) rfl hK hP hD hS hA 1 rfl rfl rfl [1, 2, 3] rfl (by decide +kernel) rfl (Nat.le_of_ble_eq_true rfl) dX5_together_19 ⟨Nat.zero_le _, Nat.zero_le _⟩ (fun H locs hP hD hS hnq3 => ?_)
    have hP : va_P D vwCl (wD_row_tally cA ad block ties lines pmn row tally) H := hP
    have hD : va_D A (wD_row_tally cA ad block ties lines pmn row tally) := hD
    refine lv_if_eq (tgt := 34) hx hb dX5_together_22 (by decide) (fun c4 => ?_) (fun c4 => ?_)
    · have h := e_t c4 h
      refine lv_iconst (v := (-1)) hx hb dX5_together_34 (by decide) ?_
      obtain rfl := e_s h
      exact hret hP hS rfl dX5_together_35
    · have h := e_f c4 h
      refine lv_iload hx hb dX5_together_25 (lv_at hl 5 rfl) ?_
      refine lv_iconst (v := 2) hx hb dX5_together_27 (by decide) ?_
      obtain ⟨q5, eq5, h⟩ := e_b h
      refine xs_i (As := [.int x5, .int 2]) (rest := []) ⟨hx, hb, hml, hown, hts⟩ hl.1 (kX5_isBelow l D cA   x5 2 _ eq5) (va_cwS 2 hts gX5_together_X5_isBelow rfl rfl rfl (by decide +kernel) ⟨Nat.le_of_ble_eq_true rfl, Nat.le_of_ble_eq_true rfl⟩) rfl hK hP hD hS hA [] rfl (by decide +kernel) rfl (Nat.le_of_ble_eq_true rfl) dX5_together_28 ⟨Nat.zero_le _, Nat.zero_le _⟩ (fun H locs hP hD hS hnq5 => ?_)
      have hP : va_P D vwCl (wD_row_tally cA ad block ties lines pmn row tally) H := hP
      have hD : va_D A (wD_row_tally cA ad block ties lines pmn row tally) := hD
      refine lv_if_ne (tgt := 36) hx hb dX5_together_31 (by decide) (fun c6 => ?_) (fun c6 => ?_)
      · have h := e_t c6 h
        refine lv_aload_n hx hb dX5_together_36 rfl (lv_at hl 0 rfl) ?_
        refine lv_iload_n hx hb dX5_together_37 rfl (lv_at hl 1 rfl) ?_
        refine lv_iload_n hx hb dX5_together_38 rfl (lv_at hl 2 rfl) ?_
        obtain ⟨q7, eq7, h⟩ := e_b h
        refine xv_v (As := [.int x1, .int x2]) (rest := []) (ci := 5) (b := ad 0) ⟨hx, hb, hml, hown, hts⟩ hl.1 (kX5_tallySpan l D cA ad block ties lines pmn row tally x1 x2 _ eq7) (cwV 2 hts gX5_together_X5_tallySpan rfl rfl rfl (by decide +kernel) ⟨Nat.le_of_ble_eq_true rfl, Nat.le_of_ble_eq_true rfl⟩) rfl hK hP hD hS hA 0 rfl rfl rfl [0, 1, 2, 3, 4, 5, 6, 7, 8] rfl (by decide +kernel) rfl (Nat.le_of_ble_eq_true rfl) dX5_together_39 ⟨Nat.zero_le _, Nat.zero_le _⟩ (fun H locs hP hD hS => ?_)
        have hP : va_P D vwCl (wD_row_tally cA ad block ties lines pmn row q7) H := hP
        have hD : va_D A (wD_row_tally cA ad block ties lines pmn row q7) := hD
        refine lv_iload_n hx hb dX5_together_42 rfl (lv_at hl 3 rfl) ?_
        refine lv_istore (lv' := [(6, .int x3), (0, .ref (ad 0)), (1, .int x1), (2, .int x2), (3, .int x3), (4, .int x4), (5, .int x5)]) hx hb dX5_together_43 hl (by decide) rfl (fun ls hl => ?_)
        have hL45 : ∀ (n : Nat) (x1 : Int32) (x2 : Int32) (x4 : Int32) (x5 : Int32) (x6 : Int32) (block : Int32) (ties : Int32) (lines : Int32) (pmn : Int32) (row : RowT) (tally : TalT) (z8 : TalT) (ls : Array Slot) (H : Heap) (locs : List Loc), lv_has ls 7 [(0, .ref (ad 0)), (1, .int x1), (2, .int x2), (4, .int x4), (5, .int x5), (6, .int x6)] → va_P D vwCl (wD_row_tally cA ad block ties lines pmn row tally) H → va_D A (wD_row_tally cA ad block ties lines pmn row tally) → va_S A s.heap H locs → mX5_together_L45 row x1 x2 x4 n x6 tally = some z8 → (∀ (ls : Array Slot) (H : Heap) (locs : List Loc), lv_has ls 7 [(0, .ref (ad 0)), (5, .int x5)] → va_P D vwCl (wD_row_tally cA ad block ties lines pmn row z8) H → va_D A (wD_row_tally cA ad block ties lines pmn row z8) → va_S A s.heap H locs → W p l e (headSpec wsX5_together { frames := 3, cells := 0, slots := 0, locals := 66 }).room s m args below meth c H locs 0 0 Q (F0 m 87 ls [])) → W p l e (headSpec wsX5_together { frames := 3, cells := 0, slots := 0, locals := 66 }).room s m args below meth c H locs 0 0 Q (F0 m 45 ls []) := by
          intro n
          induction n with
          | zero => intro x1 x2 x4 x5 x6 block ties lines pmn row tally z8 ls H locs hl hP hD hS h hk45; exact e_n h
          | succ n ih45 =>
            intro x1 x2 x4 x5 x6 block ties lines pmn row tally z8 ls H locs hl hP hD hS h hk45
            rw [mX5_together_L45.eq_2] at h
            refine lv_iload hx hb dX5_together_45 (lv_at hl 5 rfl) ?_
            refine lv_iload hx hb dX5_together_47 (lv_at hl 3 rfl) ?_
            refine lv_icmp_gt (tgt := 87) hx hb dX5_together_49 (by decide) (fun c9 => ?_) (fun c9 => ?_)
            · have h := e_t c9 h
              obtain rfl := e_s h
              exact hk45 _ _ _ (lv_sub hl [0, 4] rfl) hP hD hS
            · have h := e_f c9 h
              refine lv_iload hx hb dX5_together_52 (lv_at hl 5 rfl) ?_
              refine lv_iload_n hx hb dX5_together_54 rfl (lv_at hl 1 rfl) ?_
              refine lv_icmp_lt (tgt := 64) hx hb dX5_together_55 (by decide) (fun c10 => ?_) (fun c10 => ?_)
              · have h := e_t c10 h
                refine lv_aload_n hx hb dX5_together_64 rfl (lv_at hl 0 rfl) ?_
                refine va_get (D := D) (ci := 5) (v := .ref (ad 51)) (C := RX5) (T := TX5) (N := 12) hx hb hts iX5 hown hK hP 0 rfl rfl 5 (Nat.le_of_ble_eq_true rfl) f43 (fun _ h9 => h9) rfl dX5_together_65 ?_
                refine lv_aload_n hx hb dX5_together_68 rfl (lv_at hl 0 rfl) ?_
                refine va_get (D := D) (ci := 5) (v := .ref (ad 7)) (C := RX5) (T := TX5) (N := 12) hx hb hts iX5 hown hK hP 0 rfl rfl 2 (Nat.le_of_ble_eq_true rfl) f26 (fun _ h9 => h9) rfl dX5_together_69 ?_
                refine va_get (D := D) (ci := 2) (v := .ref (ad 8)) (C := RX2) (T := TX2) (N := 3) hx hb hts iX2 hown hK hP 1 rfl rfl 0 (Nat.le_of_ble_eq_true rfl) f106 (fun _ h9 => h9) rfl dX5_together_72 ?_
                refine lv_iload hx hb dX5_together_75 (lv_at hl 5 rfl) ?_
                obtain ⟨v11, ev11, nv11, h⟩ := e_rd h
                refine xa_iald hx hb hK hP 2 rfl nv11 ev11 dX5_together_77 ?_
                obtain ⟨q12, eq12, h⟩ := e_b h
                refine xv_v (As := [.int v11]) (rest := []) (ci := 3) (b := ad 51) ⟨hx, hb, hml, hown, hts⟩ hl.1 (kX3_push l D cA (fun i => ad (51 + i)) tally v11 _ eq12) (cwV 1 hts gX5_together_X3_push rfl rfl rfl (by decide +kernel) ⟨Nat.le_of_ble_eq_true rfl, Nat.le_of_ble_eq_true rfl⟩) rfl hK hP hD hS hA 4 rfl rfl rfl [4, 5, 6, 7, 8] rfl (by decide +kernel) rfl (Nat.le_of_ble_eq_true rfl) dX5_together_78 ⟨Nat.zero_le _, Nat.zero_le _⟩ (fun H locs hP hD hS => ?_)
                have hP : va_P D vwCl (wD_row_tally cA ad block ties lines pmn row q12) H := hP
                have hD : va_D A (wD_row_tally cA ad block ties lines pmn row q12) := hD
                refine lv_iinc (v := (x6 + 1)) (lv' := [(6, .int (x6 + 1)), (0, .ref (ad 0)), (1, .int x1), (2, .int x2), (4, .int x4), (5, .int x5)]) hx hb dX5_together_81 hl (k := 5) rfl rfl (by decide) rfl (fun ls hl => ?_)
                refine lv_goto (tgt := 45) hx hb dX5_together_84 (by decide) ?_
                exact ih45 x1 x2 x4 x5 (x6 + 1) block ties lines pmn row q12 z8 _ _ _ (lv_sub hl [1, 2, 3, 4, 5, 0] rfl) hP hD hS h hk45
              · have h := e_f c10 h
                refine lv_iload hx hb dX5_together_58 (lv_at hl 5 rfl) ?_
                refine lv_iload_n hx hb dX5_together_60 rfl (lv_at hl 2 rfl) ?_
                refine lv_icmp_le (tgt := 81) hx hb dX5_together_61 (by decide) (fun c13 => ?_) (fun c13 => ?_)
                · have h := e_t c13 h
                  refine lv_iinc (v := (x6 + 1)) (lv' := [(6, .int (x6 + 1)), (0, .ref (ad 0)), (1, .int x1), (2, .int x2), (4, .int x4), (5, .int x5)]) hx hb dX5_together_81 hl (k := 5) rfl rfl (by decide) rfl (fun ls hl => ?_)
                  refine lv_goto (tgt := 45) hx hb dX5_together_84 (by decide) ?_
                  exact ih45 x1 x2 x4 x5 (x6 + 1) block ties lines pmn row tally z8 _ _ _ (lv_sub hl [1, 2, 3, 4, 5, 0] rfl) hP hD hS h hk45
                · have h := e_f c13 h
                  refine lv_aload_n hx hb dX5_together_64 rfl (lv_at hl 0 rfl) ?_
                  refine va_get (D := D) (ci := 5) (v := .ref (ad 51)) (C := RX5) (T := TX5) (N := 12) hx hb hts iX5 hown hK hP 0 rfl rfl 5 (Nat.le_of_ble_eq_true rfl) f43 (fun _ h9 => h9) rfl dX5_together_65 ?_
                  refine lv_aload_n hx hb dX5_together_68 rfl (lv_at hl 0 rfl) ?_
                  refine va_get (D := D) (ci := 5) (v := .ref (ad 7)) (C := RX5) (T := TX5) (N := 12) hx hb hts iX5 hown hK hP 0 rfl rfl 2 (Nat.le_of_ble_eq_true rfl) f26 (fun _ h9 => h9) rfl dX5_together_69 ?_
                  refine va_get (D := D) (ci := 2) (v := .ref (ad 8)) (C := RX2) (T := TX2) (N := 3) hx hb hts iX2 hown hK hP 1 rfl rfl 0 (Nat.le_of_ble_eq_true rfl) f106 (fun _ h9 => h9) rfl dX5_together_72 ?_
                  refine lv_iload hx hb dX5_together_75 (lv_at hl 5 rfl) ?_
                  obtain ⟨v14, ev14, nv14, h⟩ := e_rd h
                  refine xa_iald hx hb hK hP 2 rfl nv14 ev14 dX5_together_77 ?_
                  obtain ⟨q15, eq15, h⟩ := e_b h
                  refine xv_v (As := [.int v14]) (rest := []) (ci := 3) (b := ad 51) ⟨hx, hb, hml, hown, hts⟩ hl.1 (kX3_push l D cA (fun i => ad (51 + i)) tally v14 _ eq15) (cwV 1 hts gX5_together_X3_push rfl rfl rfl (by decide +kernel) ⟨Nat.le_of_ble_eq_true rfl, Nat.le_of_ble_eq_true rfl⟩) rfl hK hP hD hS hA 4 rfl rfl rfl [4, 5, 6, 7, 8] rfl (by decide +kernel) rfl (Nat.le_of_ble_eq_true rfl) dX5_together_78 ⟨Nat.zero_le _, Nat.zero_le _⟩ (fun H locs hP hD hS => ?_)
                  have hP : va_P D vwCl (wD_row_tally cA ad block ties lines pmn row q15) H := hP
                  have hD : va_D A (wD_row_tally cA ad block ties lines pmn row q15) := hD
                  refine lv_iinc (v := (x6 + 1)) (lv' := [(6, .int (x6 + 1)), (0, .ref (ad 0)), (1, .int x1), (2, .int x2), (4, .int x4), (5, .int x5)]) hx hb dX5_together_81 hl (k := 5) rfl rfl (by decide) rfl (fun ls hl => ?_)
                  refine lv_goto (tgt := 45) hx hb dX5_together_84 (by decide) ?_
                  exact ih45 x1 x2 x4 x5 (x6 + 1) block ties lines pmn row q15 z8 _ _ _ (lv_sub hl [1, 2, 3, 4, 5, 0] rfl) hP hD hS h hk45
        obtain ⟨z16, ez16, h⟩ := e_b h
        refine hL45 FU x1 x2 x4 x5 x3 block ties lines pmn row q7 z16 _ _ _ (lv_sub hl [1, 2, 3, 5, 6, 0] rfl) hP hD hS ez16 (fun ls H locs hl hP hD hS => ?_)
        refine lv_aload_n hx hb dX5_together_87 rfl (lv_at hl 0 rfl) ?_
        refine va_get (D := D) (ci := 5) (v := .ref (ad 51)) (C := RX5) (T := TX5) (N := 12) hx hb hts iX5 hown hK hP 0 rfl rfl 5 (Nat.le_of_ble_eq_true rfl) f43 (fun _ h9 => h9) rfl dX5_together_88 ?_
        refine lv_aload_n hx hb dX5_together_91 rfl (lv_at hl 0 rfl) ?_
        refine va_get (D := D) (ci := 5) (v := .ref (ad 51)) (C := RX5) (T := TX5) (N := 12) hx hb hts iX5 hown hK hP 0 rfl rfl 5 (Nat.le_of_ble_eq_true rfl) f43 (fun _ h9 => h9) rfl dX5_together_92 ?_
        refine va_get (D := D) (ci := 3) (v := .int z16.2.2.2.2.2.2.1) (C := RX3) (T := TX3) (N := 8) hx hb hts iX3 hown hK hP 4 rfl rfl 6 (Nat.le_of_ble_eq_true rfl) f176 (fun _ h9 => h9) rfl dX5_together_95 ?_
        refine lv_iload hx hb dX5_together_98 (lv_at hl 1 rfl) ?_
        refine lv_iconst (v := 0) hx hb dX5_together_100 (by decide) ?_
        obtain ⟨q17, eq17, h⟩ := e_b h
        refine xv_i (As := [.int z16.2.2.2.2.2.2.1, .int x5, .int 0]) (rest := []) (ci := 3) (b := ad 51) ⟨hx, hb, hml, hown, hts⟩ hl.1 (kX3_told l D cA (fun i => ad (51 + i)) z16 z16.2.2.2.2.2.2.1 x5 0 _ eq17) (cwV 3 hts gX5_together_X3_told rfl rfl rfl (by decide +kernel) ⟨Nat.le_of_ble_eq_true rfl, Nat.le_of_ble_eq_true rfl⟩) rfl hK hP hD hS hA 4 rfl rfl rfl [4, 5, 6, 7, 8] rfl (by decide +kernel) rfl (Nat.le_of_ble_eq_true rfl) dX5_together_101 ⟨Nat.zero_le _, Nat.zero_le _⟩ (fun H locs hP hD hS hnq17 => ?_)
        have hP : va_P D vwCl (wD_row_tally cA ad block ties lines pmn row z16) H := hP
        have hD : va_D A (wD_row_tally cA ad block ties lines pmn row z16) := hD
        obtain rfl := e_s h
        exact hret hP hS rfl dX5_together_104
      · have h := e_f (not_not_intro c6) h
        refine lv_iconst (v := (-1)) hx hb dX5_together_34 (by decide) ?_
        obtain rfl := e_s h
        exact hret hP hS rfl dX5_together_35
set_option maxHeartbeats 4000000 in
set_option maxRecDepth 100000 in
theorem kX5_agree (l : Launch) (D : va_G) (cA : Nat → ClassId) (ad : Nat → Nat) (block : Int32) (ties : Int32) (lines : Int32) (pmn : Int32) (row : RowT) (tally : TalT) (x1 : Int32) (x2 : Int32) (x3 : Int32) (q : Int32 × TalT) (h : mX5_agree ties row tally x1 x2 x3 = some q) : MI l yX5_agree wsX5_agree { frames := 4, cells := 0, slots := 0, locals := 88 } D cA .int [.ref (ad 0), .int x1, .int x2, .int x3] (wD_row_tally cA ad block ties lines pmn row tally) (wD_row_tally cA ad block ties lines pmn row q.2) q.1 := by
  refine MI.of (cc := cX5_agree) (maxL := 4) (by decide +kernel) rfl rfl rfl (Nat.le_of_ble_eq_true rfl) ?_
  intro p e s m args below meth c A ls Q hx hb hml hts hown hK hP hD hA hS hl hret
  have hl : lv_has ls 4 [(0, .ref (ad 0)), (1, .int x1), (2, .int x2), (3, .int x3)] := hl
  have f26 := hts (.fieldLink RX5 26 "ModeDesk" "row" "LModeDesk$Row;") (by decide +kernel)
  have iX5 : ∀ w ∈ wsX50, w ∈ wsX5_agree := by decide +kernel
  unfold mX5_agree at h
  refine lv_aload_n hx hb dX5_agree_0 rfl (lv_at hl 0 rfl) ?_
  refine va_get (D := D) (ci := 5) (v := .ref (ad 7)) (C := RX5) (T := TX5) (N := 12) hx hb hts iX5 hown hK hP 0 rfl rfl 2 (Nat.le_of_ble_eq_true rfl) f26 (fun _ h9 => h9) rfl dX5_agree_1 ?_
  refine lv_iload_n hx hb dX5_agree_4 rfl (lv_at hl 1 rfl) ?_
  refine lv_iload_n hx hb dX5_agree_5 rfl (lv_at hl 2 rfl) ?_
  obtain ⟨q1, eq1, h⟩ := e_b h
  refine xv_i (As := [.int x1, .int x2]) (rest := []) (ci := 2) (b := ad 7) ⟨hx, hb, hml, hown, hts⟩ hl.1 (kX2_hasSpan l D cA (fun i => ad (7 + i)) row x1 x2 _ eq1) (cwV 2 hts gX5_agree_X2_hasSpan rfl rfl rfl (by decide +kernel) ⟨Nat.le_of_ble_eq_true rfl, Nat.le_of_ble_eq_true rfl⟩) rfl hK hP hD hS hA 1 rfl rfl rfl [1, 2, 3] rfl (by decide +kernel) rfl (Nat.le_of_ble_eq_true rfl) dX5_agree_6 ⟨Nat.zero_le _, Nat.zero_le _⟩ (fun H locs hP hD hS hnq1 => ?_)
  have hP : va_P D vwCl (wD_row_tally cA ad block ties lines pmn row tally) H := hP
  have hD : va_D A (wD_row_tally cA ad block ties lines pmn row tally) := hD
  refine lv_if_eq (tgt := 26) hx hb dX5_agree_9 (by decide) (fun c2 => ?_) (fun c2 => ?_)
  · have h := e_t c2 h
    refine lv_iconst (v := (-1)) hx hb dX5_agree_26 (by decide) ?_
    obtain rfl := e_s h
    exact hret hP hS rfl dX5_agree_27
  · have h := e_f c2 h
    refine lv_aload_n hx hb dX5_agree_12 rfl (lv_at hl 0 rfl) ?_
    refine va_get (D := D) (ci := 5) (v := .ref (ad 7)) (C := RX5) (T := TX5) (N := 12) hx hb hts iX5 hown hK hP 0 rfl rfl 2 (Nat.le_of_ble_eq_true rfl) f26 (fun _ h9 => h9) rfl dX5_agree_13 ?_
    refine lv_iload_n hx hb dX5_agree_16 rfl (lv_at hl 2 rfl) ?_
    refine lv_iconst (v := 1) hx hb dX5_agree_17 (by decide) ?_
    refine lv_iadd hx hb dX5_agree_18 ?_
    refine lv_iload_n hx hb dX5_agree_19 rfl (lv_at hl 3 rfl) ?_
    obtain ⟨q3, eq3, h⟩ := e_b h
    refine xv_i (As := [.int (x2 + 1), .int x3]) (rest := []) (ci := 2) (b := ad 7) ⟨hx, hb, hml, hown, hts⟩ hl.1 (kX2_hasSpan l D cA (fun i => ad (7 + i)) row (x2 + 1) x3 _ eq3) (cwV 2 hts gX5_agree_X2_hasSpan rfl rfl rfl (by decide +kernel) ⟨Nat.le_of_ble_eq_true rfl, Nat.le_of_ble_eq_true rfl⟩) rfl hK hP hD hS hA 1 rfl rfl rfl [1, 2, 3] rfl (by decide +kernel) rfl (Nat.le_of_ble_eq_true rfl) dX5_agree_20 ⟨Nat.zero_le _, Nat.zero_le _⟩ (fun H locs hP hD hS hnq3 => ?_)
    have hP : va_P D vwCl (wD_row_tally cA ad block ties lines pmn row tally) H := hP
    have hD : va_D A (wD_row_tally cA ad block ties lines pmn row tally) := hD
    refine lv_if_ne (tgt := 28) hx hb dX5_agree_23 (by decide) (fun c4 => ?_) (fun c4 => ?_)
    · have h := e_t c4 h
      refine lv_aload_n hx hb dX5_agree_28 rfl (lv_at hl 0 rfl) ?_
      refine lv_iload_n hx hb dX5_agree_29 rfl (lv_at hl 1 rfl) ?_
      refine lv_iload_n hx hb dX5_agree_30 rfl (lv_at hl 2 rfl) ?_
      obtain ⟨q5, eq5, h⟩ := e_b h
      refine xv_i (As := [.int x1, .int x2]) (rest := []) (ci := 5) (b := ad 0) ⟨hx, hb, hml, hown, hts⟩ hl.1 (kX5_modeOf l D cA ad block ties lines pmn row tally x1 x2 _ eq5) (cwV 2 hts gX5_agree_X5_modeOf rfl rfl rfl (by decide +kernel) ⟨Nat.le_of_ble_eq_true rfl, Nat.le_of_ble_eq_true rfl⟩) rfl hK hP hD hS hA 0 rfl rfl rfl [0, 1, 2, 3, 4, 5, 6, 7, 8] rfl (by decide +kernel) rfl (Nat.le_of_ble_eq_true rfl) dX5_agree_31 ⟨Nat.zero_le _, Nat.zero_le _⟩ (fun H locs hP hD hS hnq5 => ?_)
      have hP : va_P D vwCl (wD_row_tally cA ad block ties lines pmn row q5.2) H := hP
      have hD : va_D A (wD_row_tally cA ad block ties lines pmn row q5.2) := hD
      refine lv_aload_n hx hb dX5_agree_34 rfl (lv_at hl 0 rfl) ?_
      refine lv_iload_n hx hb dX5_agree_35 rfl (lv_at hl 2 rfl) ?_
      refine lv_iconst (v := 1) hx hb dX5_agree_36 (by decide) ?_
      refine lv_iadd hx hb dX5_agree_37 ?_
      refine lv_iload_n hx hb dX5_agree_38 rfl (lv_at hl 3 rfl) ?_
      obtain ⟨q6, eq6, h⟩ := e_b h
      refine xv_i (As := [.int (x2 + 1), .int x3]) (rest := [.int q5.1]) (ci := 5) (b := ad 0) ⟨hx, hb, hml, hown, hts⟩ hl.1 (kX5_modeOf l D cA ad block ties lines pmn row q5.2 (x2 + 1) x3 _ eq6) (cwV 2 hts gX5_agree_X5_modeOf rfl rfl rfl (by decide +kernel) ⟨Nat.le_of_ble_eq_true rfl, Nat.le_of_ble_eq_true rfl⟩) rfl hK hP hD hS hA 0 rfl rfl rfl [0, 1, 2, 3, 4, 5, 6, 7, 8] rfl (by decide +kernel) rfl (Nat.le_of_ble_eq_true rfl) dX5_agree_39 ⟨Nat.zero_le _, Nat.zero_le _⟩ (fun H locs hP hD hS hnq6 => ?_)
      have hP : va_P D vwCl (wD_row_tally cA ad block ties lines pmn row q6.2) H := hP
      have hD : va_D A (wD_row_tally cA ad block ties lines pmn row q6.2) := hD
      refine lv_icmp_ne (tgt := 49) hx hb dX5_agree_42 (by decide) (fun c7 => ?_) (fun c7 => ?_)
      · have h := e_t c7 h
        refine lv_iconst (v := 0) hx hb dX5_agree_49 (by decide) ?_
        obtain rfl := e_s h
        exact hret hP hS rfl dX5_agree_50
      · have h := e_f (not_not_intro c7) h
        refine lv_iconst (v := 1) hx hb dX5_agree_45 (by decide) ?_
        refine lv_goto (tgt := 50) hx hb dX5_agree_46 (by decide) ?_
        obtain rfl := e_s h
        exact hret hP hS rfl dX5_agree_50
    · have h := e_f (not_not_intro c4) h
      refine lv_iconst (v := (-1)) hx hb dX5_agree_26 (by decide) ?_
      obtain rfl := e_s h
      exact hret hP hS rfl dX5_agree_27
set_option maxHeartbeats 4000000 in
set_option maxRecDepth 100000 in
theorem kX5_split (l : Launch) (D : va_G) (cA : Nat → ClassId) (ad : Nat → Nat) (block : Int32) (ties : Int32) (lines : Int32) (pmn : Int32) (row : RowT) (tally : TalT) (ahead : Nat → Int32) (x1 : Int32) (x2 : Int32) (x3 : Int32) (q : Int32 × TalT × (Nat → Int32)) (h : mX5_split ties row tally ahead x1 x2 x3 = some q) : MI l yX5_split wsX5_split { frames := 2, cells := 0, slots := 0, locals := 43 } D cA .int [.ref (ad 0), .int x1, .int x2, .int x3] (wD_row_tally_ahead cA ad block ties lines pmn row tally ahead) (wD_row_tally_ahead cA ad block ties lines pmn row q.2.1 q.2.2) q.1 := by
  refine MI.of (cc := cX5_split) (maxL := 7) (by decide +kernel) rfl rfl rfl (Nat.le_of_ble_eq_true rfl) ?_
  intro p e s m args below meth c A ls Q hx hb hml hts hown hK hP hD hA hS hl hret
  have hl : lv_has ls 7 [(0, .ref (ad 0)), (1, .int x1), (2, .int x2), (3, .int x3)] := hl
  have f106 := hts (.fieldLink RX5 106 "ModeDesk$Row" "values" "[I") (by decide +kernel)
  have f26 := hts (.fieldLink RX5 26 "ModeDesk" "row" "LModeDesk$Row;") (by decide +kernel)
  have f43 := hts (.fieldLink RX5 43 "ModeDesk" "tally" "LModeDesk$Tally;") (by decide +kernel)
  have f50 := hts (.fieldLink RX5 50 "ModeDesk" "ahead" "[I") (by decide +kernel)
  have f58 := hts (.fieldLink RX5 58 "ModeDesk" "ties" "I") (by decide +kernel)
  have iX2 : ∀ w ∈ wsX20, w ∈ wsX5_split := by decide +kernel
  have iX5 : ∀ w ∈ wsX50, w ∈ wsX5_split := by decide +kernel
  unfold mX5_split at h
  refine lv_aload_n hx hb dX5_split_0 rfl (lv_at hl 0 rfl) ?_
  refine va_get (D := D) (ci := 5) (v := .ref (ad 7)) (C := RX5) (T := TX5) (N := 12) hx hb hts iX5 hown hK hP 0 rfl rfl 2 (Nat.le_of_ble_eq_true rfl) f26 (fun _ h9 => h9) rfl dX5_split_1 ?_
  refine lv_iload_n hx hb dX5_split_4 rfl (lv_at hl 1 rfl) ?_
  refine lv_iload_n hx hb dX5_split_5 rfl (lv_at hl 2 rfl) ?_
  obtain ⟨q1, eq1, h⟩ := e_b h
  refine xv_i (As := [.int x1, .int x2]) (rest := []) (ci := 2) (b := ad 7) ⟨hx, hb, hml, hown, hts⟩ hl.1 (kX2_hasSpan l D cA (fun i => ad (7 + i)) row x1 x2 _ eq1) (cwV 2 hts gX5_split_X2_hasSpan rfl rfl rfl (by decide +kernel) ⟨Nat.le_of_ble_eq_true rfl, Nat.le_of_ble_eq_true rfl⟩) rfl hK hP hD hS hA 1 rfl rfl rfl [1, 2, 3] rfl (by decide +kernel) rfl (Nat.le_of_ble_eq_true rfl) dX5_split_6 ⟨Nat.zero_le _, Nat.zero_le _⟩ (fun H locs hP hD hS hnq1 => ?_)
  have hP : va_P D vwCl (wD_row_tally_ahead cA ad block ties lines pmn row tally ahead) H := hP
  have hD : va_D A (wD_row_tally_ahead cA ad block ties lines pmn row tally ahead) := hD
  refine lv_if_eq (tgt := 25) hx hb dX5_split_9 (by decide) (fun c2 => ?_) (fun c2 => ?_)
  · have h := e_t c2 h
    refine lv_iconst (v := (-1)) hx hb dX5_split_25 (by decide) ?_
    obtain rfl := e_s h
    exact hret hP hS rfl dX5_split_26
  · have h := e_f c2 h
    refine lv_iload_n hx hb dX5_split_12 rfl (lv_at hl 1 rfl) ?_
    refine lv_iload_n hx hb dX5_split_13 rfl (lv_at hl 2 rfl) ?_
    refine lv_icmp_eq (tgt := 25) hx hb dX5_split_14 (by decide) (fun c3 => ?_) (fun c3 => ?_)
    · have h := e_t c3 h
      refine lv_iconst (v := (-1)) hx hb dX5_split_25 (by decide) ?_
      obtain rfl := e_s h
      exact hret hP hS rfl dX5_split_26
    · have h := e_f c3 h
      refine lv_iload_n hx hb dX5_split_17 rfl (lv_at hl 3 rfl) ?_
      refine lv_iconst (v := 2) hx hb dX5_split_18 (by decide) ?_
      obtain ⟨q4, eq4, h⟩ := e_b h
      refine xs_i (As := [.int x3, .int 2]) (rest := []) ⟨hx, hb, hml, hown, hts⟩ hl.1 (kX5_isBelow l D cA   x3 2 _ eq4) (va_cwS 2 hts gX5_split_X5_isBelow rfl rfl rfl (by decide +kernel) ⟨Nat.le_of_ble_eq_true rfl, Nat.le_of_ble_eq_true rfl⟩) rfl hK hP hD hS hA [] rfl (by decide +kernel) rfl (Nat.le_of_ble_eq_true rfl) dX5_split_19 ⟨Nat.zero_le _, Nat.zero_le _⟩ (fun H locs hP hD hS hnq4 => ?_)
      have hP : va_P D vwCl (wD_row_tally_ahead cA ad block ties lines pmn row tally ahead) H := hP
      have hD : va_D A (wD_row_tally_ahead cA ad block ties lines pmn row tally ahead) := hD
      refine lv_if_ne (tgt := 27) hx hb dX5_split_22 (by decide) (fun c5 => ?_) (fun c5 => ?_)
      · have h := e_t c5 h
        refine lv_aload_n hx hb dX5_split_27 rfl (lv_at hl 0 rfl) ?_
        refine va_get (D := D) (ci := 5) (v := .ref (ad 51)) (C := RX5) (T := TX5) (N := 12) hx hb hts iX5 hown hK hP 0 rfl rfl 5 (Nat.le_of_ble_eq_true rfl) f43 (fun _ h9 => h9) rfl dX5_split_28 ?_
        refine lv_aload_n hx hb dX5_split_31 rfl (lv_at hl 0 rfl) ?_
        refine va_get (D := D) (ci := 5) (v := .int ties) (C := RX5) (T := TX5) (N := 12) hx hb hts iX5 hown hK hP 0 rfl rfl 9 (Nat.le_of_ble_eq_true rfl) f58 (fun _ h9 => h9) rfl dX5_split_32 ?_
        obtain ⟨q6, eq6, h⟩ := e_b h
        refine xv_v (As := [.int ties]) (rest := []) (ci := 3) (b := ad 51) ⟨hx, hb, hml, hown, hts⟩ hl.1 (kX3_begin l D cA (fun i => ad (51 + i)) tally ties _ eq6) (cwV 1 hts gX5_split_X3_begin rfl rfl rfl (by decide +kernel) ⟨Nat.le_of_ble_eq_true rfl, Nat.le_of_ble_eq_true rfl⟩) rfl hK hP hD hS hA 4 rfl rfl rfl [4, 5, 6, 7, 8] rfl (by decide +kernel) rfl (Nat.le_of_ble_eq_true rfl) dX5_split_35 ⟨Nat.zero_le _, Nat.zero_le _⟩ (fun H locs hP hD hS => ?_)
        have hP : va_P D vwCl (wD_row_tally_ahead cA ad block ties lines pmn row q6 ahead) H := hP
        have hD : va_D A (wD_row_tally_ahead cA ad block ties lines pmn row q6 ahead) := hD
        refine lv_iload_n hx hb dX5_split_38 rfl (lv_at hl 1 rfl) ?_
        refine lv_istore (lv' := [(4, .int x1), (0, .ref (ad 0)), (1, .int x1), (2, .int x2), (3, .int x3)]) hx hb dX5_split_39 hl (by decide) rfl (fun ls hl => ?_)
        have hL41 : ∀ (n : Nat) (x1 : Int32) (x2 : Int32) (x3 : Int32) (x4 : Int32) (block : Int32) (ties : Int32) (lines : Int32) (pmn : Int32) (row : RowT) (tally : TalT) (ahead : Nat → Int32) (z7 : TalT × (Nat → Int32)) (ls : Array Slot) (H : Heap) (locs : List Loc), lv_has ls 7 [(0, .ref (ad 0)), (1, .int x1), (2, .int x2), (3, .int x3), (4, .int x4)] → va_P D vwCl (wD_row_tally_ahead cA ad block ties lines pmn row tally ahead) H → va_D A (wD_row_tally_ahead cA ad block ties lines pmn row tally ahead) → va_S A s.heap H locs → mX5_split_L41 row x2 n x4 tally ahead = some z7 → (∀ (ls : Array Slot) (H : Heap) (locs : List Loc), lv_has ls 7 [(0, .ref (ad 0)), (1, .int x1), (2, .int x2), (3, .int x3)] → va_P D vwCl (wD_row_tally_ahead cA ad block ties lines pmn row z7.1 z7.2) H → va_D A (wD_row_tally_ahead cA ad block ties lines pmn row z7.1 z7.2) → va_S A s.heap H locs → W p l e (headSpec wsX5_split { frames := 2, cells := 0, slots := 0, locals := 43 }).room s m args below meth c H locs 0 0 Q (F0 m 84 ls [])) → W p l e (headSpec wsX5_split { frames := 2, cells := 0, slots := 0, locals := 43 }).room s m args below meth c H locs 0 0 Q (F0 m 41 ls []) := by
          intro n
          induction n with
          | zero => intro x1 x2 x3 x4 block ties lines pmn row tally ahead z7 ls H locs hl hP hD hS h hk41; exact e_n h
          | succ n ih41 =>
            intro x1 x2 x3 x4 block ties lines pmn row tally ahead z7 ls H locs hl hP hD hS h hk41
            rw [mX5_split_L41.eq_2] at h
            refine lv_iload hx hb dX5_split_41 (lv_at hl 4 rfl) ?_
            refine lv_iload_n hx hb dX5_split_43 rfl (lv_at hl 2 rfl) ?_
            refine lv_icmp_ge (tgt := 84) hx hb dX5_split_44 (by decide) (fun c8 => ?_) (fun c8 => ?_)
            · have h := e_t c8 h
              obtain rfl := e_s h
              exact hk41 _ _ _ (lv_sub hl [0, 1, 2, 3] rfl) hP hD hS
            · have h := e_f c8 h
              refine lv_aload_n hx hb dX5_split_47 rfl (lv_at hl 0 rfl) ?_
              refine va_get (D := D) (ci := 5) (v := .ref (ad 51)) (C := RX5) (T := TX5) (N := 12) hx hb hts iX5 hown hK hP 0 rfl rfl 5 (Nat.le_of_ble_eq_true rfl) f43 (fun _ h9 => h9) rfl dX5_split_48 ?_
              refine lv_aload_n hx hb dX5_split_51 rfl (lv_at hl 0 rfl) ?_
              refine va_get (D := D) (ci := 5) (v := .ref (ad 7)) (C := RX5) (T := TX5) (N := 12) hx hb hts iX5 hown hK hP 0 rfl rfl 2 (Nat.le_of_ble_eq_true rfl) f26 (fun _ h9 => h9) rfl dX5_split_52 ?_
              refine va_get (D := D) (ci := 2) (v := .ref (ad 8)) (C := RX2) (T := TX2) (N := 3) hx hb hts iX2 hown hK hP 1 rfl rfl 0 (Nat.le_of_ble_eq_true rfl) f106 (fun _ h9 => h9) rfl dX5_split_55 ?_
              refine lv_iload hx hb dX5_split_58 (lv_at hl 4 rfl) ?_
              obtain ⟨v9, ev9, nv9, h⟩ := e_rd h
              refine xa_iald hx hb hK hP 2 rfl nv9 ev9 dX5_split_60 ?_
              obtain ⟨q10, eq10, h⟩ := e_b h
              refine xv_v (As := [.int v9]) (rest := []) (ci := 3) (b := ad 51) ⟨hx, hb, hml, hown, hts⟩ hl.1 (kX3_push l D cA (fun i => ad (51 + i)) tally v9 _ eq10) (cwV 1 hts gX5_split_X3_push rfl rfl rfl (by decide +kernel) ⟨Nat.le_of_ble_eq_true rfl, Nat.le_of_ble_eq_true rfl⟩) rfl hK hP hD hS hA 4 rfl rfl rfl [4, 5, 6, 7, 8] rfl (by decide +kernel) rfl (Nat.le_of_ble_eq_true rfl) dX5_split_61 ⟨Nat.zero_le _, Nat.zero_le _⟩ (fun H locs hP hD hS => ?_)
              have hP : va_P D vwCl (wD_row_tally_ahead cA ad block ties lines pmn row q10 ahead) H := hP
              have hD : va_D A (wD_row_tally_ahead cA ad block ties lines pmn row q10 ahead) := hD
              refine lv_aload_n hx hb dX5_split_64 rfl (lv_at hl 0 rfl) ?_
              refine va_get (D := D) (ci := 5) (v := .ref (ad 61)) (C := RX5) (T := TX5) (N := 12) hx hb hts iX5 hown hK hP 0 rfl rfl 7 (Nat.le_of_ble_eq_true rfl) f50 (fun _ h9 => h9) rfl dX5_split_65 ?_
              refine lv_iload hx hb dX5_split_68 (lv_at hl 4 rfl) ?_
              refine lv_aload_n hx hb dX5_split_70 rfl (lv_at hl 0 rfl) ?_
              refine va_get (D := D) (ci := 5) (v := .ref (ad 51)) (C := RX5) (T := TX5) (N := 12) hx hb hts iX5 hown hK hP 0 rfl rfl 5 (Nat.le_of_ble_eq_true rfl) f43 (fun _ h9 => h9) rfl dX5_split_71 ?_
              obtain ⟨q11, eq11, h⟩ := e_b h
              refine xv_i (As := []) (rest := [.int x4, .ref (ad 61)]) (ci := 3) (b := ad 51) ⟨hx, hb, hml, hown, hts⟩ hl.1 (kX3_most l D cA (fun i => ad (51 + i)) q10  _ eq11) (cwV 0 hts gX5_split_X3_most rfl rfl rfl (by decide +kernel) ⟨Nat.le_of_ble_eq_true rfl, Nat.le_of_ble_eq_true rfl⟩) rfl hK hP hD hS hA 4 rfl rfl rfl [4, 5, 6, 7, 8] rfl (by decide +kernel) rfl (Nat.le_of_ble_eq_true rfl) dX5_split_74 ⟨Nat.zero_le _, Nat.zero_le _⟩ (fun H locs hP hD hS hnq11 => ?_)
              have hP : va_P D vwCl (wD_row_tally_ahead cA ad block ties lines pmn row q10 ahead) H := hP
              have hD : va_D A (wD_row_tally_ahead cA ad block ties lines pmn row q10 ahead) := hD
              obtain ⟨a12, ea12, na12, h⟩ := e_wr h
              refine xa_iast hx hb hK hP hD hS 9 rfl na12 ea12 dX5_split_77 (fun H locs hP hD hS => ?_)
              have hP : va_P D vwCl (wD_row_tally_ahead cA ad block ties lines pmn row q10 a12) H := hP
              have hD : va_D A (wD_row_tally_ahead cA ad block ties lines pmn row q10 a12) := hD
              refine lv_iinc (v := (x4 + 1)) (lv' := [(4, .int (x4 + 1)), (0, .ref (ad 0)), (1, .int x1), (2, .int x2), (3, .int x3)]) hx hb dX5_split_78 hl (k := 4) rfl rfl (by decide) rfl (fun ls hl => ?_)
              refine lv_goto (tgt := 41) hx hb dX5_split_81 (by decide) ?_
              exact ih41 x1 x2 x3 (x4 + 1) block ties lines pmn row q10 a12 z7 _ _ _ (lv_sub hl [1, 2, 3, 4, 0] rfl) hP hD hS h hk41
        obtain ⟨z13, ez13, h⟩ := e_b h
        refine hL41 FU x1 x2 x3 x1 block ties lines pmn row q6 ahead z13 _ _ _ (lv_sub hl [1, 2, 3, 4, 0] rfl) hP hD hS ez13 (fun ls H locs hl hP hD hS => ?_)
        refine lv_aload_n hx hb dX5_split_84 rfl (lv_at hl 0 rfl) ?_
        refine va_get (D := D) (ci := 5) (v := .ref (ad 51)) (C := RX5) (T := TX5) (N := 12) hx hb hts iX5 hown hK hP 0 rfl rfl 5 (Nat.le_of_ble_eq_true rfl) f43 (fun _ h9 => h9) rfl dX5_split_85 ?_
        refine lv_aload_n hx hb dX5_split_88 rfl (lv_at hl 0 rfl) ?_
        refine va_get (D := D) (ci := 5) (v := .int ties) (C := RX5) (T := TX5) (N := 12) hx hb hts iX5 hown hK hP 0 rfl rfl 9 (Nat.le_of_ble_eq_true rfl) f58 (fun _ h9 => h9) rfl dX5_split_89 ?_
        obtain ⟨q14, eq14, h⟩ := e_b h
        refine xv_v (As := [.int ties]) (rest := []) (ci := 3) (b := ad 51) ⟨hx, hb, hml, hown, hts⟩ hl.1 (kX3_begin l D cA (fun i => ad (51 + i)) z13.1 ties _ eq14) (cwV 1 hts gX5_split_X3_begin rfl rfl rfl (by decide +kernel) ⟨Nat.le_of_ble_eq_true rfl, Nat.le_of_ble_eq_true rfl⟩) rfl hK hP hD hS hA 4 rfl rfl rfl [4, 5, 6, 7, 8] rfl (by decide +kernel) rfl (Nat.le_of_ble_eq_true rfl) dX5_split_92 ⟨Nat.zero_le _, Nat.zero_le _⟩ (fun H locs hP hD hS => ?_)
        have hP : va_P D vwCl (wD_row_tally_ahead cA ad block ties lines pmn row q14 z13.2) H := hP
        have hD : va_D A (wD_row_tally_ahead cA ad block ties lines pmn row q14 z13.2) := hD
        refine lv_iload_n hx hb dX5_split_95 rfl (lv_at hl 1 rfl) ?_
        refine lv_istore (lv' := [(4, .int x1), (0, .ref (ad 0)), (1, .int x1), (2, .int x2), (3, .int x3)]) hx hb dX5_split_96 hl (by decide) rfl (fun ls hl => ?_)
        refine lv_iconst (v := 0) hx hb dX5_split_98 (by decide) ?_
        refine lv_istore (lv' := [(5, .int 0), (4, .int x1), (0, .ref (ad 0)), (1, .int x1), (2, .int x2), (3, .int x3)]) hx hb dX5_split_99 hl (by decide) rfl (fun ls hl => ?_)
        refine lv_iload_n hx hb dX5_split_101 rfl (lv_at hl 4 rfl) ?_
        refine lv_iconst (v := 1) hx hb dX5_split_102 (by decide) ?_
        refine lv_isub hx hb dX5_split_103 ?_
        refine lv_istore (lv' := [(6, .int (x2 - 1)), (5, .int 0), (4, .int x1), (0, .ref (ad 0)), (1, .int x1), (2, .int x2), (3, .int x3)]) hx hb dX5_split_104 hl (by decide) rfl (fun ls hl => ?_)
        have hL106 : ∀ (n : Nat) (x1 : Int32) (x3 : Int32) (x4 : Int32) (x5 : Int32) (x6 : Int32) (block : Int32) (ties : Int32) (lines : Int32) (pmn : Int32) (row : RowT) (tally : TalT) (ahead : Nat → Int32) (z15 : Int32 × Int32 × TalT) (ls : Array Slot) (H : Heap) (locs : List Loc), lv_has ls 7 [(0, .ref (ad 0)), (1, .int x1), (3, .int x3), (4, .int x4), (5, .int x5), (6, .int x6)] → va_P D vwCl (wD_row_tally_ahead cA ad block ties lines pmn row tally ahead) H → va_D A (wD_row_tally_ahead cA ad block ties lines pmn row tally ahead) → va_S A s.heap H locs → mX5_split_L106 row ahead x1 n x4 x5 x6 tally = some z15 → (∀ (ls : Array Slot) (H : Heap) (locs : List Loc), lv_has ls 7 [(3, .int x3), (4, .int z15.1), (5, .int z15.2.1)] → va_P D vwCl (wD_row_tally_ahead cA ad block ties lines pmn row z15.2.2 ahead) H → va_D A (wD_row_tally_ahead cA ad block ties lines pmn row z15.2.2 ahead) → va_S A s.heap H locs → W p l e (headSpec wsX5_split { frames := 2, cells := 0, slots := 0, locals := 43 }).room s m args below meth c H locs 0 0 Q (F0 m 178 ls [])) → W p l e (headSpec wsX5_split { frames := 2, cells := 0, slots := 0, locals := 43 }).room s m args below meth c H locs 0 0 Q (F0 m 106 ls []) := by
          intro n
          induction n with
          | zero => intro x1 x3 x4 x5 x6 block ties lines pmn row tally ahead z15 ls H locs hl hP hD hS h hk106; exact e_n h
          | succ n ih106 =>
            intro x1 x3 x4 x5 x6 block ties lines pmn row tally ahead z15 ls H locs hl hP hD hS h hk106
            rw [mX5_split_L106.eq_2] at h
            refine lv_iload hx hb dX5_split_106 (lv_at hl 5 rfl) ?_
            refine lv_iload_n hx hb dX5_split_108 rfl (lv_at hl 1 rfl) ?_
            refine lv_icmp_lt (tgt := 178) hx hb dX5_split_109 (by decide) (fun c16 => ?_) (fun c16 => ?_)
            · have h := e_t c16 h
              obtain rfl := e_s h
              exact hk106 _ _ _ (lv_sub hl [2, 3, 4] rfl) hP hD hS
            · have h := e_f c16 h
              refine lv_aload_n hx hb dX5_split_112 rfl (lv_at hl 0 rfl) ?_
              refine va_get (D := D) (ci := 5) (v := .ref (ad 51)) (C := RX5) (T := TX5) (N := 12) hx hb hts iX5 hown hK hP 0 rfl rfl 5 (Nat.le_of_ble_eq_true rfl) f43 (fun _ h9 => h9) rfl dX5_split_113 ?_
              refine lv_aload_n hx hb dX5_split_116 rfl (lv_at hl 0 rfl) ?_
              refine va_get (D := D) (ci := 5) (v := .ref (ad 7)) (C := RX5) (T := TX5) (N := 12) hx hb hts iX5 hown hK hP 0 rfl rfl 2 (Nat.le_of_ble_eq_true rfl) f26 (fun _ h9 => h9) rfl dX5_split_117 ?_
              refine va_get (D := D) (ci := 2) (v := .ref (ad 8)) (C := RX2) (T := TX2) (N := 3) hx hb hts iX2 hown hK hP 1 rfl rfl 0 (Nat.le_of_ble_eq_true rfl) f106 (fun _ h9 => h9) rfl dX5_split_120 ?_
              refine lv_iload hx hb dX5_split_123 (lv_at hl 5 rfl) ?_
              refine lv_iconst (v := 1) hx hb dX5_split_125 (by decide) ?_
              refine lv_iadd hx hb dX5_split_126 ?_
              obtain ⟨v17, ev17, nv17, h⟩ := e_rd h
              refine xa_iald hx hb hK hP 2 rfl nv17 ev17 dX5_split_127 ?_
              obtain ⟨q18, eq18, h⟩ := e_b h
              refine xv_v (As := [.int v17]) (rest := []) (ci := 3) (b := ad 51) ⟨hx, hb, hml, hown, hts⟩ hl.1 (kX3_push l D cA (fun i => ad (51 + i)) tally v17 _ eq18) (cwV 1 hts gX5_split_X3_push rfl rfl rfl (by decide +kernel) ⟨Nat.le_of_ble_eq_true rfl, Nat.le_of_ble_eq_true rfl⟩) rfl hK hP hD hS hA 4 rfl rfl rfl [4, 5, 6, 7, 8] rfl (by decide +kernel) rfl (Nat.le_of_ble_eq_true rfl) dX5_split_128 ⟨Nat.zero_le _, Nat.zero_le _⟩ (fun H locs hP hD hS => ?_)
              have hP : va_P D vwCl (wD_row_tally_ahead cA ad block ties lines pmn row q18 ahead) H := hP
              have hD : va_D A (wD_row_tally_ahead cA ad block ties lines pmn row q18 ahead) := hD
              refine lv_aload_n hx hb dX5_split_131 rfl (lv_at hl 0 rfl) ?_
              refine va_get (D := D) (ci := 5) (v := .ref (ad 61)) (C := RX5) (T := TX5) (N := 12) hx hb hts iX5 hown hK hP 0 rfl rfl 7 (Nat.le_of_ble_eq_true rfl) f50 (fun _ h9 => h9) rfl dX5_split_132 ?_
              refine lv_iload hx hb dX5_split_135 (lv_at hl 5 rfl) ?_
              obtain ⟨v19, ev19, nv19, h⟩ := e_rd h
              refine xa_iald hx hb hK hP 9 rfl nv19 ev19 dX5_split_137 ?_
              refine lv_aload_n hx hb dX5_split_138 rfl (lv_at hl 0 rfl) ?_
              refine va_get (D := D) (ci := 5) (v := .ref (ad 51)) (C := RX5) (T := TX5) (N := 12) hx hb hts iX5 hown hK hP 0 rfl rfl 5 (Nat.le_of_ble_eq_true rfl) f43 (fun _ h9 => h9) rfl dX5_split_139 ?_
              obtain ⟨q20, eq20, h⟩ := e_b h
              refine xv_i (As := []) (rest := [.int v19]) (ci := 3) (b := ad 51) ⟨hx, hb, hml, hown, hts⟩ hl.1 (kX3_most l D cA (fun i => ad (51 + i)) q18  _ eq20) (cwV 0 hts gX5_split_X3_most rfl rfl rfl (by decide +kernel) ⟨Nat.le_of_ble_eq_true rfl, Nat.le_of_ble_eq_true rfl⟩) rfl hK hP hD hS hA 4 rfl rfl rfl [4, 5, 6, 7, 8] rfl (by decide +kernel) rfl (Nat.le_of_ble_eq_true rfl) dX5_split_142 ⟨Nat.zero_le _, Nat.zero_le _⟩ (fun H locs hP hD hS hnq20 => ?_)
              have hP : va_P D vwCl (wD_row_tally_ahead cA ad block ties lines pmn row q18 ahead) H := hP
              have hD : va_D A (wD_row_tally_ahead cA ad block ties lines pmn row q18 ahead) := hD
              refine lv_iadd hx hb dX5_split_145 ?_
              refine lv_iload hx hb dX5_split_146 (lv_at hl 4 rfl) ?_
              refine lv_icmp_lt (tgt := 172) hx hb dX5_split_148 (by decide) (fun c21 => ?_) (fun c21 => ?_)
              · have h := e_t c21 h
                refine lv_iinc (v := (x6 + (-1))) (lv' := [(6, .int (x6 + (-1))), (0, .ref (ad 0)), (1, .int x1), (3, .int x3), (4, .int x4), (5, .int x5)]) hx hb dX5_split_172 hl (k := 5) rfl rfl (by decide) rfl (fun ls hl => ?_)
                refine lv_goto (tgt := 106) hx hb dX5_split_175 (by decide) ?_
                exact ih106 x1 x3 x4 x5 (x6 + (-1)) block ties lines pmn row q18 ahead z15 _ _ _ (lv_sub hl [1, 2, 3, 4, 5, 0] rfl) hP hD hS h hk106
              · have h := e_f c21 h
                refine lv_iload hx hb dX5_split_151 (lv_at hl 5 rfl) ?_
                refine lv_istore (lv' := [(4, .int x6), (0, .ref (ad 0)), (1, .int x1), (3, .int x3), (5, .int x5), (6, .int x6)]) hx hb dX5_split_153 hl (by decide) rfl (fun ls hl => ?_)
                refine lv_aload_n hx hb dX5_split_155 rfl (lv_at hl 1 rfl) ?_
                refine va_get (D := D) (ci := 5) (v := .ref (ad 61)) (C := RX5) (T := TX5) (N := 12) hx hb hts iX5 hown hK hP 0 rfl rfl 7 (Nat.le_of_ble_eq_true rfl) f50 (fun _ h9 => h9) rfl dX5_split_156 ?_
                refine lv_iload hx hb dX5_split_159 (lv_at hl 5 rfl) ?_
                obtain ⟨v22, ev22, nv22, h⟩ := e_rd h
                refine xa_iald hx hb hK hP 9 rfl nv22 ev22 dX5_split_161 ?_
                refine lv_aload_n hx hb dX5_split_162 rfl (lv_at hl 1 rfl) ?_
                refine va_get (D := D) (ci := 5) (v := .ref (ad 51)) (C := RX5) (T := TX5) (N := 12) hx hb hts iX5 hown hK hP 0 rfl rfl 5 (Nat.le_of_ble_eq_true rfl) f43 (fun _ h9 => h9) rfl dX5_split_163 ?_
                obtain ⟨q23, eq23, h⟩ := e_b h
                refine xv_i (As := []) (rest := [.int v22]) (ci := 3) (b := ad 51) ⟨hx, hb, hml, hown, hts⟩ hl.1 (kX3_most l D cA (fun i => ad (51 + i)) q18  _ eq23) (cwV 0 hts gX5_split_X3_most rfl rfl rfl (by decide +kernel) ⟨Nat.le_of_ble_eq_true rfl, Nat.le_of_ble_eq_true rfl⟩) rfl hK hP hD hS hA 4 rfl rfl rfl [4, 5, 6, 7, 8] rfl (by decide +kernel) rfl (Nat.le_of_ble_eq_true rfl) dX5_split_166 ⟨Nat.zero_le _, Nat.zero_le _⟩ (fun H locs hP hD hS hnq23 => ?_)
                have hP : va_P D vwCl (wD_row_tally_ahead cA ad block ties lines pmn row q18 ahead) H := hP
                have hD : va_D A (wD_row_tally_ahead cA ad block ties lines pmn row q18 ahead) := hD
                refine lv_iadd hx hb dX5_split_169 ?_
                refine lv_istore (lv' := [(5, .int (v22 + q23)), (4, .int x6), (0, .ref (ad 0)), (1, .int x1), (3, .int x3), (6, .int x6)]) hx hb dX5_split_170 hl (by decide) rfl (fun ls hl => ?_)
                refine lv_iinc (v := (x6 + (-1))) (lv' := [(6, .int (x6 + (-1))), (5, .int (v22 + q23)), (4, .int x6), (0, .ref (ad 0)), (1, .int x1), (3, .int x3)]) hx hb dX5_split_172 hl (k := 5) rfl rfl (by decide) rfl (fun ls hl => ?_)
                refine lv_goto (tgt := 106) hx hb dX5_split_175 (by decide) ?_
                exact ih106 x1 x3 x6 (v22 + q23) (x6 + (-1)) block ties lines pmn row q18 ahead z15 _ _ _ (lv_sub hl [3, 4, 5, 2, 1, 0] rfl) hP hD hS h hk106
        obtain ⟨z24, ez24, h⟩ := e_b h
        refine hL106 FU x1 x3 x1 0 (x2 - 1) block ties lines pmn row q14 z13.2 z24 _ _ _ (lv_sub hl [3, 4, 6, 2, 1, 0] rfl) hP hD hS ez24 (fun ls H locs hl hP hD hS => ?_)
        refine lv_iload_n hx hb dX5_split_178 rfl (lv_at hl 0 rfl) ?_
        refine lv_if_ne (tgt := 187) hx hb dX5_split_179 (by decide) (fun c25 => ?_) (fun c25 => ?_)
        · have h := e_t c25 h
          refine lv_iload hx hb dX5_split_187 (lv_at hl 2 rfl) ?_
          obtain rfl := e_s h
          exact hret hP hS rfl dX5_split_189
        · have h := e_f (not_not_intro c25) h
          refine lv_iload hx hb dX5_split_182 (lv_at hl 1 rfl) ?_
          refine lv_goto (tgt := 189) hx hb dX5_split_184 (by decide) ?_
          obtain rfl := e_s h
          exact hret hP hS rfl dX5_split_189
      · have h := e_f (not_not_intro c5) h
        refine lv_iconst (v := (-1)) hx hb dX5_split_25 (by decide) ?_
        obtain rfl := e_s h
        exact hret hP hS rfl dX5_split_26
set_option maxHeartbeats 4000000 in
set_option maxRecDepth 100000 in
theorem kX5_ifSet (l : Launch) (D : va_G) (cA : Nat → ClassId) (ad : Nat → Nat) (block : Int32) (ties : Int32) (lines : Int32) (pmn : Int32) (row : RowT) (tally : TalT) (x1 : Int32) (x2 : Int32) (x3 : Int32) (x4 : Int32) (q : Int32 × TalT) (h : mX5_ifSet ties row tally x1 x2 x3 x4 = some q) : MI l yX5_ifSet wsX5_ifSet { frames := 2, cells := 0, slots := 0, locals := 43 } D cA .int [.ref (ad 0), .int x1, .int x2, .int x3, .int x4] (wD_row_tally cA ad block ties lines pmn row tally) (wD_row_tally cA ad block ties lines pmn row q.2) q.1 := by
  refine MI.of (cc := cX5_ifSet) (maxL := 6) (by decide +kernel) rfl rfl rfl (Nat.le_of_ble_eq_true rfl) ?_
  intro p e s m args below meth c A ls Q hx hb hml hts hown hK hP hD hA hS hl hret
  have hl : lv_has ls 6 [(0, .ref (ad 0)), (1, .int x1), (2, .int x2), (3, .int x3), (4, .int x4)] := hl
  have f106 := hts (.fieldLink RX5 106 "ModeDesk$Row" "values" "[I") (by decide +kernel)
  have f176 := hts (.fieldLink RX5 176 "ModeDesk$Tally" "best" "I") (by decide +kernel)
  have f26 := hts (.fieldLink RX5 26 "ModeDesk" "row" "LModeDesk$Row;") (by decide +kernel)
  have f43 := hts (.fieldLink RX5 43 "ModeDesk" "tally" "LModeDesk$Tally;") (by decide +kernel)
  have f58 := hts (.fieldLink RX5 58 "ModeDesk" "ties" "I") (by decide +kernel)
  have iX2 : ∀ w ∈ wsX20, w ∈ wsX5_ifSet := by decide +kernel
  have iX3 : ∀ w ∈ wsX30, w ∈ wsX5_ifSet := by decide +kernel
  have iX5 : ∀ w ∈ wsX50, w ∈ wsX5_ifSet := by decide +kernel
  unfold mX5_ifSet at h
  refine lv_aload_n hx hb dX5_ifSet_0 rfl (lv_at hl 0 rfl) ?_
  refine va_get (D := D) (ci := 5) (v := .ref (ad 7)) (C := RX5) (T := TX5) (N := 12) hx hb hts iX5 hown hK hP 0 rfl rfl 2 (Nat.le_of_ble_eq_true rfl) f26 (fun _ h9 => h9) rfl dX5_ifSet_1 ?_
  refine lv_iload_n hx hb dX5_ifSet_4 rfl (lv_at hl 1 rfl) ?_
  obtain ⟨q1, eq1, h⟩ := e_b h
  refine xv_i (As := [.int x1]) (rest := []) (ci := 2) (b := ad 7) ⟨hx, hb, hml, hown, hts⟩ hl.1 (kX2_has l D cA (fun i => ad (7 + i)) row x1 _ eq1) (cwV 1 hts gX5_ifSet_X2_has rfl rfl rfl (by decide +kernel) ⟨Nat.le_of_ble_eq_true rfl, Nat.le_of_ble_eq_true rfl⟩) rfl hK hP hD hS hA 1 rfl rfl rfl [1, 2, 3] rfl (by decide +kernel) rfl (Nat.le_of_ble_eq_true rfl) dX5_ifSet_5 ⟨Nat.zero_le _, Nat.zero_le _⟩ (fun H locs hP hD hS hnq1 => ?_)
  have hP : va_P D vwCl (wD_row_tally cA ad block ties lines pmn row tally) H := hP
  have hD : va_D A (wD_row_tally cA ad block ties lines pmn row tally) := hD
  refine lv_if_eq (tgt := 31) hx hb dX5_ifSet_8 (by decide) (fun c2 => ?_) (fun c2 => ?_)
  · have h := e_t c2 h
    refine lv_iconst (v := (-1)) hx hb dX5_ifSet_31 (by decide) ?_
    obtain rfl := e_s h
    exact hret hP hS rfl dX5_ifSet_32
  · have h := e_f c2 h
    refine lv_iload_n hx hb dX5_ifSet_11 rfl (lv_at hl 2 rfl) ?_
    obtain ⟨q3, eq3, h⟩ := e_b h
    refine xs_i (As := [.int x2]) (rest := []) ⟨hx, hb, hml, hown, hts⟩ hl.1 (kX5_isValue l D cA   x2 _ eq3) (va_cwS 1 hts gX5_ifSet_X5_isValue rfl rfl rfl (by decide +kernel) ⟨Nat.le_of_ble_eq_true rfl, Nat.le_of_ble_eq_true rfl⟩) rfl hK hP hD hS hA [] rfl (by decide +kernel) rfl (Nat.le_of_ble_eq_true rfl) dX5_ifSet_12 ⟨Nat.zero_le _, Nat.zero_le _⟩ (fun H locs hP hD hS hnq3 => ?_)
    have hP : va_P D vwCl (wD_row_tally cA ad block ties lines pmn row tally) H := hP
    have hD : va_D A (wD_row_tally cA ad block ties lines pmn row tally) := hD
    refine lv_if_eq (tgt := 31) hx hb dX5_ifSet_15 (by decide) (fun c4 => ?_) (fun c4 => ?_)
    · have h := e_t c4 h
      refine lv_iconst (v := (-1)) hx hb dX5_ifSet_31 (by decide) ?_
      obtain rfl := e_s h
      exact hret hP hS rfl dX5_ifSet_32
    · have h := e_f c4 h
      refine lv_aload_n hx hb dX5_ifSet_18 rfl (lv_at hl 0 rfl) ?_
      refine va_get (D := D) (ci := 5) (v := .ref (ad 7)) (C := RX5) (T := TX5) (N := 12) hx hb hts iX5 hown hK hP 0 rfl rfl 2 (Nat.le_of_ble_eq_true rfl) f26 (fun _ h9 => h9) rfl dX5_ifSet_19 ?_
      refine lv_iload_n hx hb dX5_ifSet_22 rfl (lv_at hl 3 rfl) ?_
      refine lv_iload hx hb dX5_ifSet_23 (lv_at hl 4 rfl) ?_
      obtain ⟨q5, eq5, h⟩ := e_b h
      refine xv_i (As := [.int x3, .int x4]) (rest := []) (ci := 2) (b := ad 7) ⟨hx, hb, hml, hown, hts⟩ hl.1 (kX2_hasSpan l D cA (fun i => ad (7 + i)) row x3 x4 _ eq5) (cwV 2 hts gX5_ifSet_X2_hasSpan rfl rfl rfl (by decide +kernel) ⟨Nat.le_of_ble_eq_true rfl, Nat.le_of_ble_eq_true rfl⟩) rfl hK hP hD hS hA 1 rfl rfl rfl [1, 2, 3] rfl (by decide +kernel) rfl (Nat.le_of_ble_eq_true rfl) dX5_ifSet_25 ⟨Nat.zero_le _, Nat.zero_le _⟩ (fun H locs hP hD hS hnq5 => ?_)
      have hP : va_P D vwCl (wD_row_tally cA ad block ties lines pmn row tally) H := hP
      have hD : va_D A (wD_row_tally cA ad block ties lines pmn row tally) := hD
      refine lv_if_ne (tgt := 33) hx hb dX5_ifSet_28 (by decide) (fun c6 => ?_) (fun c6 => ?_)
      · have h := e_t c6 h
        refine lv_aload_n hx hb dX5_ifSet_33 rfl (lv_at hl 0 rfl) ?_
        refine va_get (D := D) (ci := 5) (v := .ref (ad 51)) (C := RX5) (T := TX5) (N := 12) hx hb hts iX5 hown hK hP 0 rfl rfl 5 (Nat.le_of_ble_eq_true rfl) f43 (fun _ h9 => h9) rfl dX5_ifSet_34 ?_
        refine lv_aload_n hx hb dX5_ifSet_37 rfl (lv_at hl 0 rfl) ?_
        refine va_get (D := D) (ci := 5) (v := .int ties) (C := RX5) (T := TX5) (N := 12) hx hb hts iX5 hown hK hP 0 rfl rfl 9 (Nat.le_of_ble_eq_true rfl) f58 (fun _ h9 => h9) rfl dX5_ifSet_38 ?_
        obtain ⟨q7, eq7, h⟩ := e_b h
        refine xv_v (As := [.int ties]) (rest := []) (ci := 3) (b := ad 51) ⟨hx, hb, hml, hown, hts⟩ hl.1 (kX3_begin l D cA (fun i => ad (51 + i)) tally ties _ eq7) (cwV 1 hts gX5_ifSet_X3_begin rfl rfl rfl (by decide +kernel) ⟨Nat.le_of_ble_eq_true rfl, Nat.le_of_ble_eq_true rfl⟩) rfl hK hP hD hS hA 4 rfl rfl rfl [4, 5, 6, 7, 8] rfl (by decide +kernel) rfl (Nat.le_of_ble_eq_true rfl) dX5_ifSet_41 ⟨Nat.zero_le _, Nat.zero_le _⟩ (fun H locs hP hD hS => ?_)
        have hP : va_P D vwCl (wD_row_tally cA ad block ties lines pmn row q7) H := hP
        have hD : va_D A (wD_row_tally cA ad block ties lines pmn row q7) := hD
        refine lv_iload_n hx hb dX5_ifSet_44 rfl (lv_at hl 3 rfl) ?_
        refine lv_istore (lv' := [(5, .int x3), (0, .ref (ad 0)), (1, .int x1), (2, .int x2), (3, .int x3), (4, .int x4)]) hx hb dX5_ifSet_45 hl (by decide) rfl (fun ls hl => ?_)
        have hL47 : ∀ (n : Nat) (x1 : Int32) (x2 : Int32) (x4 : Int32) (x5 : Int32) (block : Int32) (ties : Int32) (lines : Int32) (pmn : Int32) (row : RowT) (tally : TalT) (z8 : TalT) (ls : Array Slot) (H : Heap) (locs : List Loc), lv_has ls 6 [(0, .ref (ad 0)), (1, .int x1), (2, .int x2), (4, .int x4), (5, .int x5)] → va_P D vwCl (wD_row_tally cA ad block ties lines pmn row tally) H → va_D A (wD_row_tally cA ad block ties lines pmn row tally) → va_S A s.heap H locs → mX5_ifSet_L47 row x1 x2 x4 n x5 tally = some z8 → (∀ (ls : Array Slot) (H : Heap) (locs : List Loc), lv_has ls 6 [(0, .ref (ad 0))] → va_P D vwCl (wD_row_tally cA ad block ties lines pmn row z8) H → va_D A (wD_row_tally cA ad block ties lines pmn row z8) → va_S A s.heap H locs → W p l e (headSpec wsX5_ifSet { frames := 2, cells := 0, slots := 0, locals := 43 }).room s m args below meth c H locs 0 0 Q (F0 m 87 ls [])) → W p l e (headSpec wsX5_ifSet { frames := 2, cells := 0, slots := 0, locals := 43 }).room s m args below meth c H locs 0 0 Q (F0 m 47 ls []) := by
          intro n
          induction n with
          | zero => intro x1 x2 x4 x5 block ties lines pmn row tally z8 ls H locs hl hP hD hS h hk47; exact e_n h
          | succ n ih47 =>
            intro x1 x2 x4 x5 block ties lines pmn row tally z8 ls H locs hl hP hD hS h hk47
            rw [mX5_ifSet_L47.eq_2] at h
            refine lv_iload hx hb dX5_ifSet_47 (lv_at hl 4 rfl) ?_
            refine lv_iload hx hb dX5_ifSet_49 (lv_at hl 3 rfl) ?_
            refine lv_icmp_gt (tgt := 87) hx hb dX5_ifSet_51 (by decide) (fun c9 => ?_) (fun c9 => ?_)
            · have h := e_t c9 h
              obtain rfl := e_s h
              exact hk47 _ _ _ (lv_sub hl [0] rfl) hP hD hS
            · have h := e_f c9 h
              refine lv_aload_n hx hb dX5_ifSet_54 rfl (lv_at hl 0 rfl) ?_
              refine va_get (D := D) (ci := 5) (v := .ref (ad 51)) (C := RX5) (T := TX5) (N := 12) hx hb hts iX5 hown hK hP 0 rfl rfl 5 (Nat.le_of_ble_eq_true rfl) f43 (fun _ h9 => h9) rfl dX5_ifSet_55 ?_
              refine lv_iload hx hb dX5_ifSet_58 (lv_at hl 4 rfl) ?_
              refine lv_iload_n hx hb dX5_ifSet_60 rfl (lv_at hl 1 rfl) ?_
              refine lv_icmp_ne (tgt := 68) hx hb dX5_ifSet_61 (by decide) (fun c10 => ?_) (fun c10 => ?_)
              · have h := e_t c10 h
                refine lv_aload_n hx hb dX5_ifSet_68 rfl (lv_at hl 0 rfl) ?_
                refine va_get (D := D) (ci := 5) (v := .ref (ad 7)) (C := RX5) (T := TX5) (N := 12) hx hb hts iX5 hown hK hP 0 rfl rfl 2 (Nat.le_of_ble_eq_true rfl) f26 (fun _ h9 => h9) rfl dX5_ifSet_69 ?_
                refine va_get (D := D) (ci := 2) (v := .ref (ad 8)) (C := RX2) (T := TX2) (N := 3) hx hb hts iX2 hown hK hP 1 rfl rfl 0 (Nat.le_of_ble_eq_true rfl) f106 (fun _ h9 => h9) rfl dX5_ifSet_72 ?_
                refine lv_iload hx hb dX5_ifSet_75 (lv_at hl 4 rfl) ?_
                obtain ⟨v11, ev11, nv11, h⟩ := e_rd h
                refine xa_iald hx hb hK hP 2 rfl nv11 ev11 dX5_ifSet_77 ?_
                obtain ⟨q12, eq12, h⟩ := e_b h
                refine xv_v (As := [.int v11]) (rest := []) (ci := 3) (b := ad 51) ⟨hx, hb, hml, hown, hts⟩ hl.1 (kX3_push l D cA (fun i => ad (51 + i)) tally v11 _ eq12) (cwV 1 hts gX5_ifSet_X3_push rfl rfl rfl (by decide +kernel) ⟨Nat.le_of_ble_eq_true rfl, Nat.le_of_ble_eq_true rfl⟩) rfl hK hP hD hS hA 4 rfl rfl rfl [4, 5, 6, 7, 8] rfl (by decide +kernel) rfl (Nat.le_of_ble_eq_true rfl) dX5_ifSet_78 ⟨Nat.zero_le _, Nat.zero_le _⟩ (fun H locs hP hD hS => ?_)
                have hP : va_P D vwCl (wD_row_tally cA ad block ties lines pmn row q12) H := hP
                have hD : va_D A (wD_row_tally cA ad block ties lines pmn row q12) := hD
                refine lv_iinc (v := (x5 + 1)) (lv' := [(5, .int (x5 + 1)), (0, .ref (ad 0)), (1, .int x1), (2, .int x2), (4, .int x4)]) hx hb dX5_ifSet_81 hl (k := 4) rfl rfl (by decide) rfl (fun ls hl => ?_)
                refine lv_goto (tgt := 47) hx hb dX5_ifSet_84 (by decide) ?_
                exact ih47 x1 x2 x4 (x5 + 1) block ties lines pmn row q12 z8 _ _ _ (lv_sub hl [1, 2, 3, 4, 0] rfl) hP hD hS h hk47
              · have h := e_f (not_not_intro c10) h
                refine lv_iload_n hx hb dX5_ifSet_64 rfl (lv_at hl 2 rfl) ?_
                refine lv_goto (tgt := 78) hx hb dX5_ifSet_65 (by decide) ?_
                obtain ⟨q13, eq13, h⟩ := e_b h
                refine xv_v (As := [.int x2]) (rest := []) (ci := 3) (b := ad 51) ⟨hx, hb, hml, hown, hts⟩ hl.1 (kX3_push l D cA (fun i => ad (51 + i)) tally x2 _ eq13) (cwV 1 hts gX5_ifSet_X3_push rfl rfl rfl (by decide +kernel) ⟨Nat.le_of_ble_eq_true rfl, Nat.le_of_ble_eq_true rfl⟩) rfl hK hP hD hS hA 4 rfl rfl rfl [4, 5, 6, 7, 8] rfl (by decide +kernel) rfl (Nat.le_of_ble_eq_true rfl) dX5_ifSet_78 ⟨Nat.zero_le _, Nat.zero_le _⟩ (fun H locs hP hD hS => ?_)
                have hP : va_P D vwCl (wD_row_tally cA ad block ties lines pmn row q13) H := hP
                have hD : va_D A (wD_row_tally cA ad block ties lines pmn row q13) := hD
                refine lv_iinc (v := (x5 + 1)) (lv' := [(5, .int (x5 + 1)), (0, .ref (ad 0)), (1, .int x1), (2, .int x2), (4, .int x4)]) hx hb dX5_ifSet_81 hl (k := 4) rfl rfl (by decide) rfl (fun ls hl => ?_)
                refine lv_goto (tgt := 47) hx hb dX5_ifSet_84 (by decide) ?_
                exact ih47 x1 x2 x4 (x5 + 1) block ties lines pmn row q13 z8 _ _ _ (lv_sub hl [1, 2, 3, 4, 0] rfl) hP hD hS h hk47
        obtain ⟨z14, ez14, h⟩ := e_b h
        refine hL47 FU x1 x2 x4 x3 block ties lines pmn row q7 z14 _ _ _ (lv_sub hl [1, 2, 3, 5, 0] rfl) hP hD hS ez14 (fun ls H locs hl hP hD hS => ?_)
        refine lv_aload_n hx hb dX5_ifSet_87 rfl (lv_at hl 0 rfl) ?_
        refine va_get (D := D) (ci := 5) (v := .ref (ad 51)) (C := RX5) (T := TX5) (N := 12) hx hb hts iX5 hown hK hP 0 rfl rfl 5 (Nat.le_of_ble_eq_true rfl) f43 (fun _ h9 => h9) rfl dX5_ifSet_88 ?_
        refine va_get (D := D) (ci := 3) (v := .int z14.2.2.2.2.2.2.1) (C := RX3) (T := TX3) (N := 8) hx hb hts iX3 hown hK hP 4 rfl rfl 6 (Nat.le_of_ble_eq_true rfl) f176 (fun _ h9 => h9) rfl dX5_ifSet_91 ?_
        obtain rfl := e_s h
        exact hret hP hS rfl dX5_ifSet_94
      · have h := e_f (not_not_intro c6) h
        refine lv_iconst (v := (-1)) hx hb dX5_ifSet_31 (by decide) ?_
        obtain rfl := e_s h
        exact hret hP hS rfl dX5_ifSet_32
set_option maxHeartbeats 4000000 in
set_option maxRecDepth 100000 in
theorem kX5_ifOut (l : Launch) (D : va_G) (cA : Nat → ClassId) (ad : Nat → Nat) (block : Int32) (ties : Int32) (lines : Int32) (pmn : Int32) (row : RowT) (tally : TalT) (x1 : Int32) (x2 : Int32) (x3 : Int32) (q : Int32 × TalT) (h : mX5_ifOut ties row tally x1 x2 x3 = some q) : MI l yX5_ifOut wsX5_ifOut { frames := 2, cells := 0, slots := 0, locals := 43 } D cA .int [.ref (ad 0), .int x1, .int x2, .int x3] (wD_row_tally cA ad block ties lines pmn row tally) (wD_row_tally cA ad block ties lines pmn row q.2) q.1 := by
  refine MI.of (cc := cX5_ifOut) (maxL := 5) (by decide +kernel) rfl rfl rfl (Nat.le_of_ble_eq_true rfl) ?_
  intro p e s m args below meth c A ls Q hx hb hml hts hown hK hP hD hA hS hl hret
  have hl : lv_has ls 5 [(0, .ref (ad 0)), (1, .int x1), (2, .int x2), (3, .int x3)] := hl
  have f106 := hts (.fieldLink RX5 106 "ModeDesk$Row" "values" "[I") (by decide +kernel)
  have f176 := hts (.fieldLink RX5 176 "ModeDesk$Tally" "best" "I") (by decide +kernel)
  have f26 := hts (.fieldLink RX5 26 "ModeDesk" "row" "LModeDesk$Row;") (by decide +kernel)
  have f43 := hts (.fieldLink RX5 43 "ModeDesk" "tally" "LModeDesk$Tally;") (by decide +kernel)
  have f58 := hts (.fieldLink RX5 58 "ModeDesk" "ties" "I") (by decide +kernel)
  have iX2 : ∀ w ∈ wsX20, w ∈ wsX5_ifOut := by decide +kernel
  have iX3 : ∀ w ∈ wsX30, w ∈ wsX5_ifOut := by decide +kernel
  have iX5 : ∀ w ∈ wsX50, w ∈ wsX5_ifOut := by decide +kernel
  unfold mX5_ifOut at h
  refine lv_aload_n hx hb dX5_ifOut_0 rfl (lv_at hl 0 rfl) ?_
  refine va_get (D := D) (ci := 5) (v := .ref (ad 7)) (C := RX5) (T := TX5) (N := 12) hx hb hts iX5 hown hK hP 0 rfl rfl 2 (Nat.le_of_ble_eq_true rfl) f26 (fun _ h9 => h9) rfl dX5_ifOut_1 ?_
  refine lv_iload_n hx hb dX5_ifOut_4 rfl (lv_at hl 2 rfl) ?_
  refine lv_iload_n hx hb dX5_ifOut_5 rfl (lv_at hl 3 rfl) ?_
  obtain ⟨q1, eq1, h⟩ := e_b h
  refine xv_i (As := [.int x2, .int x3]) (rest := []) (ci := 2) (b := ad 7) ⟨hx, hb, hml, hown, hts⟩ hl.1 (kX2_hasSpan l D cA (fun i => ad (7 + i)) row x2 x3 _ eq1) (cwV 2 hts gX5_ifOut_X2_hasSpan rfl rfl rfl (by decide +kernel) ⟨Nat.le_of_ble_eq_true rfl, Nat.le_of_ble_eq_true rfl⟩) rfl hK hP hD hS hA 1 rfl rfl rfl [1, 2, 3] rfl (by decide +kernel) rfl (Nat.le_of_ble_eq_true rfl) dX5_ifOut_6 ⟨Nat.zero_le _, Nat.zero_le _⟩ (fun H locs hP hD hS hnq1 => ?_)
  have hP : va_P D vwCl (wD_row_tally cA ad block ties lines pmn row tally) H := hP
  have hD : va_D A (wD_row_tally cA ad block ties lines pmn row tally) := hD
  refine lv_if_eq (tgt := 22) hx hb dX5_ifOut_9 (by decide) (fun c2 => ?_) (fun c2 => ?_)
  · have h := e_t c2 h
    refine lv_iconst (v := (-1)) hx hb dX5_ifOut_22 (by decide) ?_
    obtain rfl := e_s h
    exact hret hP hS rfl dX5_ifOut_23
  · have h := e_f c2 h
    refine lv_iload_n hx hb dX5_ifOut_12 rfl (lv_at hl 1 rfl) ?_
    refine lv_iload_n hx hb dX5_ifOut_13 rfl (lv_at hl 2 rfl) ?_
    refine lv_icmp_lt (tgt := 22) hx hb dX5_ifOut_14 (by decide) (fun c3 => ?_) (fun c3 => ?_)
    · have h := e_t c3 h
      refine lv_iconst (v := (-1)) hx hb dX5_ifOut_22 (by decide) ?_
      obtain rfl := e_s h
      exact hret hP hS rfl dX5_ifOut_23
    · have h := e_f c3 h
      refine lv_iload_n hx hb dX5_ifOut_17 rfl (lv_at hl 1 rfl) ?_
      refine lv_iload_n hx hb dX5_ifOut_18 rfl (lv_at hl 3 rfl) ?_
      refine lv_icmp_le (tgt := 24) hx hb dX5_ifOut_19 (by decide) (fun c4 => ?_) (fun c4 => ?_)
      · have h := e_t c4 h
        refine lv_iload_n hx hb dX5_ifOut_24 rfl (lv_at hl 2 rfl) ?_
        refine lv_iload_n hx hb dX5_ifOut_25 rfl (lv_at hl 3 rfl) ?_
        refine lv_icmp_ne (tgt := 32) hx hb dX5_ifOut_26 (by decide) (fun c5 => ?_) (fun c5 => ?_)
        · have h := e_t c5 h
          refine lv_aload_n hx hb dX5_ifOut_32 rfl (lv_at hl 0 rfl) ?_
          refine va_get (D := D) (ci := 5) (v := .ref (ad 51)) (C := RX5) (T := TX5) (N := 12) hx hb hts iX5 hown hK hP 0 rfl rfl 5 (Nat.le_of_ble_eq_true rfl) f43 (fun _ h9 => h9) rfl dX5_ifOut_33 ?_
          refine lv_aload_n hx hb dX5_ifOut_36 rfl (lv_at hl 0 rfl) ?_
          refine va_get (D := D) (ci := 5) (v := .int ties) (C := RX5) (T := TX5) (N := 12) hx hb hts iX5 hown hK hP 0 rfl rfl 9 (Nat.le_of_ble_eq_true rfl) f58 (fun _ h9 => h9) rfl dX5_ifOut_37 ?_
          obtain ⟨q6, eq6, h⟩ := e_b h
          refine xv_v (As := [.int ties]) (rest := []) (ci := 3) (b := ad 51) ⟨hx, hb, hml, hown, hts⟩ hl.1 (kX3_begin l D cA (fun i => ad (51 + i)) tally ties _ eq6) (cwV 1 hts gX5_ifOut_X3_begin rfl rfl rfl (by decide +kernel) ⟨Nat.le_of_ble_eq_true rfl, Nat.le_of_ble_eq_true rfl⟩) rfl hK hP hD hS hA 4 rfl rfl rfl [4, 5, 6, 7, 8] rfl (by decide +kernel) rfl (Nat.le_of_ble_eq_true rfl) dX5_ifOut_40 ⟨Nat.zero_le _, Nat.zero_le _⟩ (fun H locs hP hD hS => ?_)
          have hP : va_P D vwCl (wD_row_tally cA ad block ties lines pmn row q6) H := hP
          have hD : va_D A (wD_row_tally cA ad block ties lines pmn row q6) := hD
          refine lv_iload_n hx hb dX5_ifOut_43 rfl (lv_at hl 2 rfl) ?_
          refine lv_istore (lv' := [(4, .int x2), (0, .ref (ad 0)), (1, .int x1), (2, .int x2), (3, .int x3)]) hx hb dX5_ifOut_44 hl (by decide) rfl (fun ls hl => ?_)
          have hL46 : ∀ (n : Nat) (x1 : Int32) (x3 : Int32) (x4 : Int32) (block : Int32) (ties : Int32) (lines : Int32) (pmn : Int32) (row : RowT) (tally : TalT) (z7 : TalT) (ls : Array Slot) (H : Heap) (locs : List Loc), lv_has ls 5 [(0, .ref (ad 0)), (1, .int x1), (3, .int x3), (4, .int x4)] → va_P D vwCl (wD_row_tally cA ad block ties lines pmn row tally) H → va_D A (wD_row_tally cA ad block ties lines pmn row tally) → va_S A s.heap H locs → mX5_ifOut_L46 row x1 x3 n x4 tally = some z7 → (∀ (ls : Array Slot) (H : Heap) (locs : List Loc), lv_has ls 5 [(0, .ref (ad 0))] → va_P D vwCl (wD_row_tally cA ad block ties lines pmn row z7) H → va_D A (wD_row_tally cA ad block ties lines pmn row z7) → va_S A s.heap H locs → W p l e (headSpec wsX5_ifOut { frames := 2, cells := 0, slots := 0, locals := 43 }).room s m args below meth c H locs 0 0 Q (F0 m 81 ls [])) → W p l e (headSpec wsX5_ifOut { frames := 2, cells := 0, slots := 0, locals := 43 }).room s m args below meth c H locs 0 0 Q (F0 m 46 ls []) := by
            intro n
            induction n with
            | zero => intro x1 x3 x4 block ties lines pmn row tally z7 ls H locs hl hP hD hS h hk46; exact e_n h
            | succ n ih46 =>
              intro x1 x3 x4 block ties lines pmn row tally z7 ls H locs hl hP hD hS h hk46
              rw [mX5_ifOut_L46.eq_2] at h
              refine lv_iload hx hb dX5_ifOut_46 (lv_at hl 3 rfl) ?_
              refine lv_iload_n hx hb dX5_ifOut_48 rfl (lv_at hl 2 rfl) ?_
              refine lv_icmp_gt (tgt := 81) hx hb dX5_ifOut_49 (by decide) (fun c8 => ?_) (fun c8 => ?_)
              · have h := e_t c8 h
                obtain rfl := e_s h
                exact hk46 _ _ _ (lv_sub hl [0] rfl) hP hD hS
              · have h := e_f c8 h
                refine lv_iload hx hb dX5_ifOut_52 (lv_at hl 3 rfl) ?_
                refine lv_iload_n hx hb dX5_ifOut_54 rfl (lv_at hl 1 rfl) ?_
                refine lv_icmp_eq (tgt := 75) hx hb dX5_ifOut_55 (by decide) (fun c9 => ?_) (fun c9 => ?_)
                · have h := e_t c9 h
                  refine lv_iinc (v := (x4 + 1)) (lv' := [(4, .int (x4 + 1)), (0, .ref (ad 0)), (1, .int x1), (3, .int x3)]) hx hb dX5_ifOut_75 hl (k := 3) rfl rfl (by decide) rfl (fun ls hl => ?_)
                  refine lv_goto (tgt := 46) hx hb dX5_ifOut_78 (by decide) ?_
                  exact ih46 x1 x3 (x4 + 1) block ties lines pmn row tally z7 _ _ _ (lv_sub hl [1, 2, 3, 0] rfl) hP hD hS h hk46
                · have h := e_f c9 h
                  refine lv_aload_n hx hb dX5_ifOut_58 rfl (lv_at hl 0 rfl) ?_
                  refine va_get (D := D) (ci := 5) (v := .ref (ad 51)) (C := RX5) (T := TX5) (N := 12) hx hb hts iX5 hown hK hP 0 rfl rfl 5 (Nat.le_of_ble_eq_true rfl) f43 (fun _ h9 => h9) rfl dX5_ifOut_59 ?_
                  refine lv_aload_n hx hb dX5_ifOut_62 rfl (lv_at hl 0 rfl) ?_
                  refine va_get (D := D) (ci := 5) (v := .ref (ad 7)) (C := RX5) (T := TX5) (N := 12) hx hb hts iX5 hown hK hP 0 rfl rfl 2 (Nat.le_of_ble_eq_true rfl) f26 (fun _ h9 => h9) rfl dX5_ifOut_63 ?_
                  refine va_get (D := D) (ci := 2) (v := .ref (ad 8)) (C := RX2) (T := TX2) (N := 3) hx hb hts iX2 hown hK hP 1 rfl rfl 0 (Nat.le_of_ble_eq_true rfl) f106 (fun _ h9 => h9) rfl dX5_ifOut_66 ?_
                  refine lv_iload hx hb dX5_ifOut_69 (lv_at hl 3 rfl) ?_
                  obtain ⟨v10, ev10, nv10, h⟩ := e_rd h
                  refine xa_iald hx hb hK hP 2 rfl nv10 ev10 dX5_ifOut_71 ?_
                  obtain ⟨q11, eq11, h⟩ := e_b h
                  refine xv_v (As := [.int v10]) (rest := []) (ci := 3) (b := ad 51) ⟨hx, hb, hml, hown, hts⟩ hl.1 (kX3_push l D cA (fun i => ad (51 + i)) tally v10 _ eq11) (cwV 1 hts gX5_ifOut_X3_push rfl rfl rfl (by decide +kernel) ⟨Nat.le_of_ble_eq_true rfl, Nat.le_of_ble_eq_true rfl⟩) rfl hK hP hD hS hA 4 rfl rfl rfl [4, 5, 6, 7, 8] rfl (by decide +kernel) rfl (Nat.le_of_ble_eq_true rfl) dX5_ifOut_72 ⟨Nat.zero_le _, Nat.zero_le _⟩ (fun H locs hP hD hS => ?_)
                  have hP : va_P D vwCl (wD_row_tally cA ad block ties lines pmn row q11) H := hP
                  have hD : va_D A (wD_row_tally cA ad block ties lines pmn row q11) := hD
                  refine lv_iinc (v := (x4 + 1)) (lv' := [(4, .int (x4 + 1)), (0, .ref (ad 0)), (1, .int x1), (3, .int x3)]) hx hb dX5_ifOut_75 hl (k := 3) rfl rfl (by decide) rfl (fun ls hl => ?_)
                  refine lv_goto (tgt := 46) hx hb dX5_ifOut_78 (by decide) ?_
                  exact ih46 x1 x3 (x4 + 1) block ties lines pmn row q11 z7 _ _ _ (lv_sub hl [1, 2, 3, 0] rfl) hP hD hS h hk46
          obtain ⟨z12, ez12, h⟩ := e_b h
          refine hL46 FU x1 x3 x2 block ties lines pmn row q6 z12 _ _ _ (lv_sub hl [1, 2, 4, 0] rfl) hP hD hS ez12 (fun ls H locs hl hP hD hS => ?_)
          refine lv_aload_n hx hb dX5_ifOut_81 rfl (lv_at hl 0 rfl) ?_
          refine va_get (D := D) (ci := 5) (v := .ref (ad 51)) (C := RX5) (T := TX5) (N := 12) hx hb hts iX5 hown hK hP 0 rfl rfl 5 (Nat.le_of_ble_eq_true rfl) f43 (fun _ h9 => h9) rfl dX5_ifOut_82 ?_
          refine va_get (D := D) (ci := 3) (v := .int z12.2.2.2.2.2.2.1) (C := RX3) (T := TX3) (N := 8) hx hb hts iX3 hown hK hP 4 rfl rfl 6 (Nat.le_of_ble_eq_true rfl) f176 (fun _ h9 => h9) rfl dX5_ifOut_85 ?_
          obtain rfl := e_s h
          exact hret hP hS rfl dX5_ifOut_88
        · have h := e_f (not_not_intro c5) h
          refine lv_bipush (v := (-2)) hx hb dX5_ifOut_29 (by decide) ?_
          obtain rfl := e_s h
          exact hret hP hS rfl dX5_ifOut_31
      · have h := e_f c4 h
        refine lv_iconst (v := (-1)) hx hb dX5_ifOut_22 (by decide) ?_
        obtain rfl := e_s h
        exact hret hP hS rfl dX5_ifOut_23
set_option maxHeartbeats 4000000 in
set_option maxRecDepth 100000 in
theorem kX5_ifTies (l : Launch) (D : va_G) (cA : Nat → ClassId) (ad : Nat → Nat) (block : Int32) (ties : Int32) (lines : Int32) (pmn : Int32) (row : RowT) (tally : TalT) (x1 : Int32) (x2 : Int32) (x3 : Int32) (q : Int32 × TalT) (h : mX5_ifTies row tally x1 x2 x3 = some q) : MI l yX5_ifTies wsX5_ifTies { frames := 2, cells := 0, slots := 0, locals := 43 } D cA .int [.ref (ad 0), .int x1, .int x2, .int x3] (wD_row_tally cA ad block ties lines pmn row tally) (wD_row_tally cA ad block ties lines pmn row q.2) q.1 := by
  refine MI.of (cc := cX5_ifTies) (maxL := 5) (by decide +kernel) rfl rfl rfl (Nat.le_of_ble_eq_true rfl) ?_
  intro p e s m args below meth c A ls Q hx hb hml hts hown hK hP hD hA hS hl hret
  have hl : lv_has ls 5 [(0, .ref (ad 0)), (1, .int x1), (2, .int x2), (3, .int x3)] := hl
  have f106 := hts (.fieldLink RX5 106 "ModeDesk$Row" "values" "[I") (by decide +kernel)
  have f176 := hts (.fieldLink RX5 176 "ModeDesk$Tally" "best" "I") (by decide +kernel)
  have f26 := hts (.fieldLink RX5 26 "ModeDesk" "row" "LModeDesk$Row;") (by decide +kernel)
  have f43 := hts (.fieldLink RX5 43 "ModeDesk" "tally" "LModeDesk$Tally;") (by decide +kernel)
  have iX2 : ∀ w ∈ wsX20, w ∈ wsX5_ifTies := by decide +kernel
  have iX3 : ∀ w ∈ wsX30, w ∈ wsX5_ifTies := by decide +kernel
  have iX5 : ∀ w ∈ wsX50, w ∈ wsX5_ifTies := by decide +kernel
  unfold mX5_ifTies at h
  refine lv_iload_n hx hb dX5_ifTies_0 rfl (lv_at hl 1 rfl) ?_
  refine lv_if_lt (tgt := 21) hx hb dX5_ifTies_1 (by decide) (fun c1 => ?_) (fun c1 => ?_)
  · have h := e_t c1 h
    refine lv_iconst (v := (-1)) hx hb dX5_ifTies_21 (by decide) ?_
    obtain rfl := e_s h
    exact hret hP hS rfl dX5_ifTies_22
  · have h := e_f c1 h
    refine lv_iload_n hx hb dX5_ifTies_4 rfl (lv_at hl 1 rfl) ?_
    refine lv_iconst (v := 3) hx hb dX5_ifTies_5 (by decide) ?_
    refine lv_icmp_gt (tgt := 21) hx hb dX5_ifTies_6 (by decide) (fun c2 => ?_) (fun c2 => ?_)
    · have h := e_t c2 h
      refine lv_iconst (v := (-1)) hx hb dX5_ifTies_21 (by decide) ?_
      obtain rfl := e_s h
      exact hret hP hS rfl dX5_ifTies_22
    · have h := e_f c2 h
      refine lv_aload_n hx hb dX5_ifTies_9 rfl (lv_at hl 0 rfl) ?_
      refine va_get (D := D) (ci := 5) (v := .ref (ad 7)) (C := RX5) (T := TX5) (N := 12) hx hb hts iX5 hown hK hP 0 rfl rfl 2 (Nat.le_of_ble_eq_true rfl) f26 (fun _ h9 => h9) rfl dX5_ifTies_10 ?_
      refine lv_iload_n hx hb dX5_ifTies_13 rfl (lv_at hl 2 rfl) ?_
      refine lv_iload_n hx hb dX5_ifTies_14 rfl (lv_at hl 3 rfl) ?_
      obtain ⟨q3, eq3, h⟩ := e_b h
      refine xv_i (As := [.int x2, .int x3]) (rest := []) (ci := 2) (b := ad 7) ⟨hx, hb, hml, hown, hts⟩ hl.1 (kX2_hasSpan l D cA (fun i => ad (7 + i)) row x2 x3 _ eq3) (cwV 2 hts gX5_ifTies_X2_hasSpan rfl rfl rfl (by decide +kernel) ⟨Nat.le_of_ble_eq_true rfl, Nat.le_of_ble_eq_true rfl⟩) rfl hK hP hD hS hA 1 rfl rfl rfl [1, 2, 3] rfl (by decide +kernel) rfl (Nat.le_of_ble_eq_true rfl) dX5_ifTies_15 ⟨Nat.zero_le _, Nat.zero_le _⟩ (fun H locs hP hD hS hnq3 => ?_)
      have hP : va_P D vwCl (wD_row_tally cA ad block ties lines pmn row tally) H := hP
      have hD : va_D A (wD_row_tally cA ad block ties lines pmn row tally) := hD
      refine lv_if_ne (tgt := 23) hx hb dX5_ifTies_18 (by decide) (fun c4 => ?_) (fun c4 => ?_)
      · have h := e_t c4 h
        refine lv_aload_n hx hb dX5_ifTies_23 rfl (lv_at hl 0 rfl) ?_
        refine va_get (D := D) (ci := 5) (v := .ref (ad 51)) (C := RX5) (T := TX5) (N := 12) hx hb hts iX5 hown hK hP 0 rfl rfl 5 (Nat.le_of_ble_eq_true rfl) f43 (fun _ h9 => h9) rfl dX5_ifTies_24 ?_
        refine lv_iload_n hx hb dX5_ifTies_27 rfl (lv_at hl 1 rfl) ?_
        obtain ⟨q5, eq5, h⟩ := e_b h
        refine xv_v (As := [.int x1]) (rest := []) (ci := 3) (b := ad 51) ⟨hx, hb, hml, hown, hts⟩ hl.1 (kX3_begin l D cA (fun i => ad (51 + i)) tally x1 _ eq5) (cwV 1 hts gX5_ifTies_X3_begin rfl rfl rfl (by decide +kernel) ⟨Nat.le_of_ble_eq_true rfl, Nat.le_of_ble_eq_true rfl⟩) rfl hK hP hD hS hA 4 rfl rfl rfl [4, 5, 6, 7, 8] rfl (by decide +kernel) rfl (Nat.le_of_ble_eq_true rfl) dX5_ifTies_28 ⟨Nat.zero_le _, Nat.zero_le _⟩ (fun H locs hP hD hS => ?_)
        have hP : va_P D vwCl (wD_row_tally cA ad block ties lines pmn row q5) H := hP
        have hD : va_D A (wD_row_tally cA ad block ties lines pmn row q5) := hD
        refine lv_iload_n hx hb dX5_ifTies_31 rfl (lv_at hl 2 rfl) ?_
        refine lv_istore (lv' := [(4, .int x2), (0, .ref (ad 0)), (1, .int x1), (2, .int x2), (3, .int x3)]) hx hb dX5_ifTies_32 hl (by decide) rfl (fun ls hl => ?_)
        have hL34 : ∀ (n : Nat) (x3 : Int32) (x4 : Int32) (block : Int32) (ties : Int32) (lines : Int32) (pmn : Int32) (row : RowT) (tally : TalT) (z6 : TalT) (ls : Array Slot) (H : Heap) (locs : List Loc), lv_has ls 5 [(0, .ref (ad 0)), (3, .int x3), (4, .int x4)] → va_P D vwCl (wD_row_tally cA ad block ties lines pmn row tally) H → va_D A (wD_row_tally cA ad block ties lines pmn row tally) → va_S A s.heap H locs → mX5_ifTies_L34 row x3 n x4 tally = some z6 → (∀ (ls : Array Slot) (H : Heap) (locs : List Loc), lv_has ls 5 [(0, .ref (ad 0))] → va_P D vwCl (wD_row_tally cA ad block ties lines pmn row z6) H → va_D A (wD_row_tally cA ad block ties lines pmn row z6) → va_S A s.heap H locs → W p l e (headSpec wsX5_ifTies { frames := 2, cells := 0, slots := 0, locals := 43 }).room s m args below meth c H locs 0 0 Q (F0 m 63 ls [])) → W p l e (headSpec wsX5_ifTies { frames := 2, cells := 0, slots := 0, locals := 43 }).room s m args below meth c H locs 0 0 Q (F0 m 34 ls []) := by
          intro n
          induction n with
          | zero => intro x3 x4 block ties lines pmn row tally z6 ls H locs hl hP hD hS h hk34; exact e_n h
          | succ n ih34 =>
            intro x3 x4 block ties lines pmn row tally z6 ls H locs hl hP hD hS h hk34
            rw [mX5_ifTies_L34.eq_2] at h
            refine lv_iload hx hb dX5_ifTies_34 (lv_at hl 2 rfl) ?_
            refine lv_iload_n hx hb dX5_ifTies_36 rfl (lv_at hl 1 rfl) ?_
            refine lv_icmp_gt (tgt := 63) hx hb dX5_ifTies_37 (by decide) (fun c7 => ?_) (fun c7 => ?_)
            · have h := e_t c7 h
              obtain rfl := e_s h
              exact hk34 _ _ _ (lv_sub hl [0] rfl) hP hD hS
            · have h := e_f c7 h
              refine lv_aload_n hx hb dX5_ifTies_40 rfl (lv_at hl 0 rfl) ?_
              refine va_get (D := D) (ci := 5) (v := .ref (ad 51)) (C := RX5) (T := TX5) (N := 12) hx hb hts iX5 hown hK hP 0 rfl rfl 5 (Nat.le_of_ble_eq_true rfl) f43 (fun _ h9 => h9) rfl dX5_ifTies_41 ?_
              refine lv_aload_n hx hb dX5_ifTies_44 rfl (lv_at hl 0 rfl) ?_
              refine va_get (D := D) (ci := 5) (v := .ref (ad 7)) (C := RX5) (T := TX5) (N := 12) hx hb hts iX5 hown hK hP 0 rfl rfl 2 (Nat.le_of_ble_eq_true rfl) f26 (fun _ h9 => h9) rfl dX5_ifTies_45 ?_
              refine va_get (D := D) (ci := 2) (v := .ref (ad 8)) (C := RX2) (T := TX2) (N := 3) hx hb hts iX2 hown hK hP 1 rfl rfl 0 (Nat.le_of_ble_eq_true rfl) f106 (fun _ h9 => h9) rfl dX5_ifTies_48 ?_
              refine lv_iload hx hb dX5_ifTies_51 (lv_at hl 2 rfl) ?_
              obtain ⟨v8, ev8, nv8, h⟩ := e_rd h
              refine xa_iald hx hb hK hP 2 rfl nv8 ev8 dX5_ifTies_53 ?_
              obtain ⟨q9, eq9, h⟩ := e_b h
              refine xv_v (As := [.int v8]) (rest := []) (ci := 3) (b := ad 51) ⟨hx, hb, hml, hown, hts⟩ hl.1 (kX3_push l D cA (fun i => ad (51 + i)) tally v8 _ eq9) (cwV 1 hts gX5_ifTies_X3_push rfl rfl rfl (by decide +kernel) ⟨Nat.le_of_ble_eq_true rfl, Nat.le_of_ble_eq_true rfl⟩) rfl hK hP hD hS hA 4 rfl rfl rfl [4, 5, 6, 7, 8] rfl (by decide +kernel) rfl (Nat.le_of_ble_eq_true rfl) dX5_ifTies_54 ⟨Nat.zero_le _, Nat.zero_le _⟩ (fun H locs hP hD hS => ?_)
              have hP : va_P D vwCl (wD_row_tally cA ad block ties lines pmn row q9) H := hP
              have hD : va_D A (wD_row_tally cA ad block ties lines pmn row q9) := hD
              refine lv_iinc (v := (x4 + 1)) (lv' := [(4, .int (x4 + 1)), (0, .ref (ad 0)), (3, .int x3)]) hx hb dX5_ifTies_57 hl (k := 2) rfl rfl (by decide) rfl (fun ls hl => ?_)
              refine lv_goto (tgt := 34) hx hb dX5_ifTies_60 (by decide) ?_
              exact ih34 x3 (x4 + 1) block ties lines pmn row q9 z6 _ _ _ (lv_sub hl [1, 2, 0] rfl) hP hD hS h hk34
        obtain ⟨z10, ez10, h⟩ := e_b h
        refine hL34 FU x3 x2 block ties lines pmn row q5 z10 _ _ _ (lv_sub hl [1, 4, 0] rfl) hP hD hS ez10 (fun ls H locs hl hP hD hS => ?_)
        refine lv_aload_n hx hb dX5_ifTies_63 rfl (lv_at hl 0 rfl) ?_
        refine va_get (D := D) (ci := 5) (v := .ref (ad 51)) (C := RX5) (T := TX5) (N := 12) hx hb hts iX5 hown hK hP 0 rfl rfl 5 (Nat.le_of_ble_eq_true rfl) f43 (fun _ h9 => h9) rfl dX5_ifTies_64 ?_
        refine va_get (D := D) (ci := 3) (v := .int z10.2.2.2.2.2.2.1) (C := RX3) (T := TX3) (N := 8) hx hb hts iX3 hown hK hP 4 rfl rfl 6 (Nat.le_of_ble_eq_true rfl) f176 (fun _ h9 => h9) rfl dX5_ifTies_67 ?_
        obtain rfl := e_s h
        exact hret hP hS rfl dX5_ifTies_70
      · have h := e_f (not_not_intro c4) h
        refine lv_iconst (v := (-1)) hx hb dX5_ifTies_21 (by decide) ?_
        obtain rfl := e_s h
        exact hret hP hS rfl dX5_ifTies_22
set_option maxHeartbeats 4000000 in
set_option maxRecDepth 100000 in
theorem kX5_window (l : Launch) (D : va_G) (cA : Nat → ClassId) (ad : Nat → Nat) (block : Int32) (ties : Int32) (lines : Int32) (pmn : Int32) (row : RowT) (tally : TalT) (x1 : Int32) (x2 : Int32) (q : Int32 × TalT) (h : mX5_window ties row tally x1 x2 = some q) : MI l yX5_window wsX5_window { frames := 4, cells := 0, slots := 0, locals := 88 } D cA .int [.ref (ad 0), .int x1, .int x2] (wD_row_tally cA ad block ties lines pmn row tally) (wD_row_tally cA ad block ties lines pmn row q.2) q.1 := by
  refine MI.of (cc := cX5_window) (maxL := 3) (by decide +kernel) rfl rfl rfl (Nat.le_of_ble_eq_true rfl) ?_
  intro p e s m args below meth c A ls Q hx hb hml hts hown hK hP hD hA hS hl hret
  have hl : lv_has ls 3 [(0, .ref (ad 0)), (1, .int x1), (2, .int x2)] := hl
  have f135 := hts (.fieldLink RX5 135 "ModeDesk$Row" "size" "I") (by decide +kernel)
  have f26 := hts (.fieldLink RX5 26 "ModeDesk" "row" "LModeDesk$Row;") (by decide +kernel)
  have iX2 : ∀ w ∈ wsX20, w ∈ wsX5_window := by decide +kernel
  have iX5 : ∀ w ∈ wsX50, w ∈ wsX5_window := by decide +kernel
  unfold mX5_window at h
  refine lv_iload_n hx hb dX5_window_0 rfl (lv_at hl 1 rfl) ?_
  refine lv_iconst (v := 1) hx hb dX5_window_1 (by decide) ?_
  refine lv_icmp_lt (tgt := 20) hx hb dX5_window_2 (by decide) (fun c1 => ?_) (fun c1 => ?_)
  · have h := e_t c1 h
    refine lv_iconst (v := (-1)) hx hb dX5_window_20 (by decide) ?_
    obtain rfl := e_s h
    exact hret hP hS rfl dX5_window_21
  · have h := e_f c1 h
    refine lv_iload_n hx hb dX5_window_5 rfl (lv_at hl 1 rfl) ?_
    refine lv_aload_n hx hb dX5_window_6 rfl (lv_at hl 0 rfl) ?_
    refine va_get (D := D) (ci := 5) (v := .ref (ad 7)) (C := RX5) (T := TX5) (N := 12) hx hb hts iX5 hown hK hP 0 rfl rfl 2 (Nat.le_of_ble_eq_true rfl) f26 (fun _ h9 => h9) rfl dX5_window_7 ?_
    refine va_get (D := D) (ci := 2) (v := .int row.2.2) (C := RX2) (T := TX2) (N := 3) hx hb hts iX2 hown hK hP 1 rfl rfl 2 (Nat.le_of_ble_eq_true rfl) f135 (fun _ h9 => h9) rfl dX5_window_10 ?_
    refine lv_icmp_gt (tgt := 20) hx hb dX5_window_13 (by decide) (fun c2 => ?_) (fun c2 => ?_)
    · have h := e_t c2 h
      refine lv_iconst (v := (-1)) hx hb dX5_window_20 (by decide) ?_
      obtain rfl := e_s h
      exact hret hP hS rfl dX5_window_21
    · have h := e_f c2 h
      refine lv_iload_n hx hb dX5_window_16 rfl (lv_at hl 2 rfl) ?_
      refine lv_if_ge (tgt := 22) hx hb dX5_window_17 (by decide) (fun c3 => ?_) (fun c3 => ?_)
      · have h := e_t c3 h
        refine lv_iload_n hx hb dX5_window_22 rfl (lv_at hl 2 rfl) ?_
        refine lv_aload_n hx hb dX5_window_23 rfl (lv_at hl 0 rfl) ?_
        refine va_get (D := D) (ci := 5) (v := .ref (ad 7)) (C := RX5) (T := TX5) (N := 12) hx hb hts iX5 hown hK hP 0 rfl rfl 2 (Nat.le_of_ble_eq_true rfl) f26 (fun _ h9 => h9) rfl dX5_window_24 ?_
        refine va_get (D := D) (ci := 2) (v := .int row.2.2) (C := RX2) (T := TX2) (N := 3) hx hb hts iX2 hown hK hP 1 rfl rfl 2 (Nat.le_of_ble_eq_true rfl) f135 (fun _ h9 => h9) rfl dX5_window_27 ?_
        refine lv_iload_n hx hb dX5_window_30 rfl (lv_at hl 1 rfl) ?_
        refine lv_isub hx hb dX5_window_31 ?_
        refine lv_icmp_le (tgt := 38) hx hb dX5_window_32 (by decide) (fun c4 => ?_) (fun c4 => ?_)
        · have h := e_t c4 h
          refine lv_aload_n hx hb dX5_window_38 rfl (lv_at hl 0 rfl) ?_
          refine lv_iload_n hx hb dX5_window_39 rfl (lv_at hl 2 rfl) ?_
          refine lv_iload_n hx hb dX5_window_40 rfl (lv_at hl 2 rfl) ?_
          refine lv_iload_n hx hb dX5_window_41 rfl (lv_at hl 1 rfl) ?_
          refine lv_iadd hx hb dX5_window_42 ?_
          refine lv_iconst (v := 1) hx hb dX5_window_43 (by decide) ?_
          refine lv_isub hx hb dX5_window_44 ?_
          obtain ⟨q5, eq5, h⟩ := e_b h
          refine xv_i (As := [.int x2, .int ((x2 + x1) - 1)]) (rest := []) (ci := 5) (b := ad 0) ⟨hx, hb, hml, hown, hts⟩ hl.1 (kX5_modeOf l D cA ad block ties lines pmn row tally x2 ((x2 + x1) - 1) _ eq5) (cwV 2 hts gX5_window_X5_modeOf rfl rfl rfl (by decide +kernel) ⟨Nat.le_of_ble_eq_true rfl, Nat.le_of_ble_eq_true rfl⟩) rfl hK hP hD hS hA 0 rfl rfl rfl [0, 1, 2, 3, 4, 5, 6, 7, 8] rfl (by decide +kernel) rfl (Nat.le_of_ble_eq_true rfl) dX5_window_45 ⟨Nat.zero_le _, Nat.zero_le _⟩ (fun H locs hP hD hS hnq5 => ?_)
          have hP : va_P D vwCl (wD_row_tally cA ad block ties lines pmn row q5.2) H := hP
          have hD : va_D A (wD_row_tally cA ad block ties lines pmn row q5.2) := hD
          obtain rfl := e_s h
          exact hret hP hS rfl dX5_window_48
        · have h := e_f c4 h
          refine lv_bipush (v := (-2)) hx hb dX5_window_35 (by decide) ?_
          obtain rfl := e_s h
          exact hret hP hS rfl dX5_window_37
      · have h := e_f c3 h
        refine lv_iconst (v := (-1)) hx hb dX5_window_20 (by decide) ?_
        obtain rfl := e_s h
        exact hret hP hS rfl dX5_window_21
set_option maxHeartbeats 4000000 in
set_option maxRecDepth 100000 in
theorem kX5_windows (l : Launch) (D : va_G) (cA : Nat → ClassId) (ad : Nat → Nat) (block : Int32) (ties : Int32) (lines : Int32) (pmn : Int32) (row : RowT) (tally : TalT) (aside : TalT) (x1 : Int32) (x2 : Int32) (q : Int32 × TalT × TalT) (h : mX5_windows ties row tally aside x1 x2 = some q) : MI l yX5_windows wsX5_windows { frames := 4, cells := 0, slots := 0, locals := 88 } D cA .int [.ref (ad 0), .int x1, .int x2] (wD_row_tally_aside cA ad block ties lines pmn row tally aside) (wD_row_tally_aside cA ad block ties lines pmn row q.2.1 q.2.2) q.1 := by
  refine MI.of (cc := cX5_windows) (maxL := 7) (by decide +kernel) rfl rfl rfl (Nat.le_of_ble_eq_true rfl) ?_
  intro p e s m args below meth c A ls Q hx hb hml hts hown hK hP hD hA hS hl hret
  have hl : lv_has ls 7 [(0, .ref (ad 0)), (1, .int x1), (2, .int x2)] := hl
  have f135 := hts (.fieldLink RX5 135 "ModeDesk$Row" "size" "I") (by decide +kernel)
  have f176 := hts (.fieldLink RX5 176 "ModeDesk$Tally" "best" "I") (by decide +kernel)
  have f182 := hts (.fieldLink RX5 182 "ModeDesk$Tally" "kinds" "I") (by decide +kernel)
  have f26 := hts (.fieldLink RX5 26 "ModeDesk" "row" "LModeDesk$Row;") (by decide +kernel)
  have f47 := hts (.fieldLink RX5 47 "ModeDesk" "aside" "LModeDesk$Tally;") (by decide +kernel)
  have iX2 : ∀ w ∈ wsX20, w ∈ wsX5_windows := by decide +kernel
  have iX3 : ∀ w ∈ wsX30, w ∈ wsX5_windows := by decide +kernel
  have iX5 : ∀ w ∈ wsX50, w ∈ wsX5_windows := by decide +kernel
  unfold mX5_windows at h
  refine lv_iload_n hx hb dX5_windows_0 rfl (lv_at hl 1 rfl) ?_
  refine lv_iconst (v := 1) hx hb dX5_windows_1 (by decide) ?_
  refine lv_icmp_lt (tgt := 24) hx hb dX5_windows_2 (by decide) (fun c1 => ?_) (fun c1 => ?_)
  · have h := e_t c1 h
    refine lv_iconst (v := (-1)) hx hb dX5_windows_24 (by decide) ?_
    obtain rfl := e_s h
    exact hret hP hS rfl dX5_windows_25
  · have h := e_f c1 h
    refine lv_iload_n hx hb dX5_windows_5 rfl (lv_at hl 1 rfl) ?_
    refine lv_aload_n hx hb dX5_windows_6 rfl (lv_at hl 0 rfl) ?_
    refine va_get (D := D) (ci := 5) (v := .ref (ad 7)) (C := RX5) (T := TX5) (N := 12) hx hb hts iX5 hown hK hP 0 rfl rfl 2 (Nat.le_of_ble_eq_true rfl) f26 (fun _ h9 => h9) rfl dX5_windows_7 ?_
    refine va_get (D := D) (ci := 2) (v := .int row.2.2) (C := RX2) (T := TX2) (N := 3) hx hb hts iX2 hown hK hP 1 rfl rfl 2 (Nat.le_of_ble_eq_true rfl) f135 (fun _ h9 => h9) rfl dX5_windows_10 ?_
    refine lv_icmp_gt (tgt := 24) hx hb dX5_windows_13 (by decide) (fun c2 => ?_) (fun c2 => ?_)
    · have h := e_t c2 h
      refine lv_iconst (v := (-1)) hx hb dX5_windows_24 (by decide) ?_
      obtain rfl := e_s h
      exact hret hP hS rfl dX5_windows_25
    · have h := e_f c2 h
      refine lv_iload_n hx hb dX5_windows_16 rfl (lv_at hl 2 rfl) ?_
      refine lv_iconst (v := 3) hx hb dX5_windows_17 (by decide) ?_
      obtain ⟨q3, eq3, h⟩ := e_b h
      refine xs_i (As := [.int x2, .int 3]) (rest := []) ⟨hx, hb, hml, hown, hts⟩ hl.1 (kX5_isBelow l D cA   x2 3 _ eq3) (va_cwS 2 hts gX5_windows_X5_isBelow rfl rfl rfl (by decide +kernel) ⟨Nat.le_of_ble_eq_true rfl, Nat.le_of_ble_eq_true rfl⟩) rfl hK hP hD hS hA [] rfl (by decide +kernel) rfl (Nat.le_of_ble_eq_true rfl) dX5_windows_18 ⟨Nat.zero_le _, Nat.zero_le _⟩ (fun H locs hP hD hS hnq3 => ?_)
      have hP : va_P D vwCl (wD_row_tally_aside cA ad block ties lines pmn row tally aside) H := hP
      have hD : va_D A (wD_row_tally_aside cA ad block ties lines pmn row tally aside) := hD
      refine lv_if_ne (tgt := 26) hx hb dX5_windows_21 (by decide) (fun c4 => ?_) (fun c4 => ?_)
      · have h := e_t c4 h
        refine lv_iconst (v := 0) hx hb dX5_windows_26 (by decide) ?_
        refine lv_istore_n (lv' := [(3, .int 0), (0, .ref (ad 0)), (1, .int x1), (2, .int x2)]) hx hb dX5_windows_27 rfl hl (by decide) rfl (fun ls hl => ?_)
        refine lv_iconst (v := (-1)) hx hb dX5_windows_28 (by decide) ?_
        refine lv_istore (lv' := [(4, .int (-1)), (3, .int 0), (0, .ref (ad 0)), (1, .int x1), (2, .int x2)]) hx hb dX5_windows_29 hl (by decide) rfl (fun ls hl => ?_)
        refine lv_aload_n hx hb dX5_windows_31 rfl (lv_at hl 2 rfl) ?_
        refine va_get (D := D) (ci := 5) (v := .ref (ad 56)) (C := RX5) (T := TX5) (N := 12) hx hb hts iX5 hown hK hP 0 rfl rfl 6 (Nat.le_of_ble_eq_true rfl) f47 (fun _ h9 => h9) rfl dX5_windows_32 ?_
        refine lv_iconst (v := 2) hx hb dX5_windows_35 (by decide) ?_
        obtain ⟨q5, eq5, h⟩ := e_b h
        refine xv_v (As := [.int 2]) (rest := []) (ci := 3) (b := ad 56) ⟨hx, hb, hml, hown, hts⟩ hl.1 (kX3_begin l D cA (fun i => ad (56 + i)) aside 2 _ eq5) (cwV 1 hts gX5_windows_X3_begin rfl rfl rfl (by decide +kernel) ⟨Nat.le_of_ble_eq_true rfl, Nat.le_of_ble_eq_true rfl⟩) rfl hK hP hD hS hA 9 rfl rfl rfl [9, 10, 11, 12, 13] rfl (by decide +kernel) rfl (Nat.le_of_ble_eq_true rfl) dX5_windows_36 ⟨Nat.zero_le _, Nat.zero_le _⟩ (fun H locs hP hD hS => ?_)
        have hP : va_P D vwCl (wD_row_tally_aside cA ad block ties lines pmn row tally q5) H := hP
        have hD : va_D A (wD_row_tally_aside cA ad block ties lines pmn row tally q5) := hD
        refine lv_iconst (v := 0) hx hb dX5_windows_39 (by decide) ?_
        refine lv_istore (lv' := [(5, .int 0), (4, .int (-1)), (3, .int 0), (0, .ref (ad 0)), (1, .int x1), (2, .int x2)]) hx hb dX5_windows_40 hl (by decide) rfl (fun ls hl => ?_)
        have hL42 : ∀ (n : Nat) (x1 : Int32) (x2 : Int32) (x3 : Int32) (x4 : Int32) (x5 : Int32) (block : Int32) (ties : Int32) (lines : Int32) (pmn : Int32) (row : RowT) (tally : TalT) (aside : TalT) (z6 : Int32 × TalT × TalT) (ls : Array Slot) (H : Heap) (locs : List Loc), lv_has ls 7 [(0, .ref (ad 0)), (1, .int x1), (2, .int x2), (3, .int x3), (4, .int x4), (5, .int x5)] → va_P D vwCl (wD_row_tally_aside cA ad block ties lines pmn row tally aside) H → va_D A (wD_row_tally_aside cA ad block ties lines pmn row tally aside) → va_S A s.heap H locs → mX5_windows_L42 ties row x1 n x3 x4 x5 tally aside = some z6 → (∀ (ls : Array Slot) (H : Heap) (locs : List Loc), lv_has ls 7 [(0, .ref (ad 0)), (2, .int x2), (3, .int z6.1)] → va_P D vwCl (wD_row_tally_aside cA ad block ties lines pmn row z6.2.1 z6.2.2) H → va_D A (wD_row_tally_aside cA ad block ties lines pmn row z6.2.1 z6.2.2) → va_S A s.heap H locs → W p l e (headSpec wsX5_windows { frames := 4, cells := 0, slots := 0, locals := 88 }).room s m args below meth c H locs 0 0 Q (F0 m 104 ls [])) → W p l e (headSpec wsX5_windows { frames := 4, cells := 0, slots := 0, locals := 88 }).room s m args below meth c H locs 0 0 Q (F0 m 42 ls []) := by
          intro n
          induction n with
          | zero => intro x1 x2 x3 x4 x5 block ties lines pmn row tally aside z6 ls H locs hl hP hD hS h hk42; exact e_n h
          | succ n ih42 =>
            intro x1 x2 x3 x4 x5 block ties lines pmn row tally aside z6 ls H locs hl hP hD hS h hk42
            rw [mX5_windows_L42.eq_2] at h
            refine lv_iload hx hb dX5_windows_42 (lv_at hl 5 rfl) ?_
            refine lv_aload_n hx hb dX5_windows_44 rfl (lv_at hl 0 rfl) ?_
            refine va_get (D := D) (ci := 5) (v := .ref (ad 7)) (C := RX5) (T := TX5) (N := 12) hx hb hts iX5 hown hK hP 0 rfl rfl 2 (Nat.le_of_ble_eq_true rfl) f26 (fun _ h9 => h9) rfl dX5_windows_45 ?_
            refine va_get (D := D) (ci := 2) (v := .int row.2.2) (C := RX2) (T := TX2) (N := 3) hx hb hts iX2 hown hK hP 1 rfl rfl 2 (Nat.le_of_ble_eq_true rfl) f135 (fun _ h9 => h9) rfl dX5_windows_48 ?_
            refine lv_iload_n hx hb dX5_windows_51 rfl (lv_at hl 1 rfl) ?_
            refine lv_isub hx hb dX5_windows_52 ?_
            refine lv_icmp_gt (tgt := 104) hx hb dX5_windows_53 (by decide) (fun c7 => ?_) (fun c7 => ?_)
            · have h := e_t c7 h
              obtain rfl := e_s h
              exact hk42 _ _ _ (lv_sub hl [0, 2, 3] rfl) hP hD hS
            · have h := e_f c7 h
              refine lv_aload_n hx hb dX5_windows_56 rfl (lv_at hl 0 rfl) ?_
              refine lv_iload hx hb dX5_windows_57 (lv_at hl 5 rfl) ?_
              refine lv_iload hx hb dX5_windows_59 (lv_at hl 5 rfl) ?_
              refine lv_iload_n hx hb dX5_windows_61 rfl (lv_at hl 1 rfl) ?_
              refine lv_iadd hx hb dX5_windows_62 ?_
              refine lv_iconst (v := 1) hx hb dX5_windows_63 (by decide) ?_
              refine lv_isub hx hb dX5_windows_64 ?_
              obtain ⟨q8, eq8, h⟩ := e_b h
              refine xv_i (As := [.int x5, .int ((x5 + x1) - 1)]) (rest := []) (ci := 5) (b := ad 0) ⟨hx, hb, hml, hown, hts⟩ hl.1 (kX5_modeOf l D cA ad block ties lines pmn row tally x5 ((x5 + x1) - 1) _ eq8) (cwV 2 hts gX5_windows_X5_modeOf rfl rfl rfl (by decide +kernel) ⟨Nat.le_of_ble_eq_true rfl, Nat.le_of_ble_eq_true rfl⟩) rfl hK hP hD hS hA 0 rfl rfl rfl [0, 1, 2, 3, 4, 5, 6, 7, 8] rfl (by decide +kernel) rfl (Nat.le_of_ble_eq_true rfl) dX5_windows_65 ⟨Nat.zero_le _, Nat.zero_le _⟩ (fun H locs hP hD hS hnq8 => ?_)
              have hP : va_P D vwCl (wD_row_tally_aside cA ad block ties lines pmn row q8.2 aside) H := hP
              have hD : va_D A (wD_row_tally_aside cA ad block ties lines pmn row q8.2 aside) := hD
              refine lv_istore (lv' := [(6, .int q8.1), (0, .ref (ad 0)), (1, .int x1), (2, .int x2), (3, .int x3), (4, .int x4), (5, .int x5)]) hx hb dX5_windows_68 hl (by decide) rfl (fun ls hl => ?_)
              refine lv_iload hx hb dX5_windows_70 (lv_at hl 6 rfl) ?_
              obtain ⟨z9, ez9, h⟩ := e_b h
              have hJ10 : ∀ (ls : Array Slot) (H : Heap) (locs : List Loc), lv_has ls 7 [(0, .ref (ad 0)), (1, .int x1), (2, .int x2), (3, .int z9), (5, .int x5), (6, .int q8.1)] → va_P D vwCl (wD_row_tally_aside cA ad block ties lines pmn row q8.2 aside) H → va_D A (wD_row_tally_aside cA ad block ties lines pmn row q8.2 aside) → va_S A s.heap H locs → W p l e (headSpec wsX5_windows { frames := 4, cells := 0, slots := 0, locals := 88 }).room s m args below meth c H locs 0 0 Q (F0 m 85 ls []) := by
                intro ls H locs hl hP hD hS
                refine lv_aload_n hx hb dX5_windows_85 rfl (lv_at hl 0 rfl) ?_
                refine va_get (D := D) (ci := 5) (v := .ref (ad 56)) (C := RX5) (T := TX5) (N := 12) hx hb hts iX5 hown hK hP 0 rfl rfl 6 (Nat.le_of_ble_eq_true rfl) f47 (fun _ h9 => h9) rfl dX5_windows_86 ?_
                refine lv_iload hx hb dX5_windows_89 (lv_at hl 5 rfl) ?_
                obtain ⟨q11, eq11, h⟩ := e_b h
                refine xv_v (As := [.int q8.1]) (rest := []) (ci := 3) (b := ad 56) ⟨hx, hb, hml, hown, hts⟩ hl.1 (kX3_push l D cA (fun i => ad (56 + i)) aside q8.1 _ eq11) (cwV 1 hts gX5_windows_X3_push rfl rfl rfl (by decide +kernel) ⟨Nat.le_of_ble_eq_true rfl, Nat.le_of_ble_eq_true rfl⟩) rfl hK hP hD hS hA 9 rfl rfl rfl [9, 10, 11, 12, 13] rfl (by decide +kernel) rfl (Nat.le_of_ble_eq_true rfl) dX5_windows_91 ⟨Nat.zero_le _, Nat.zero_le _⟩ (fun H locs hP hD hS => ?_)
                have hP : va_P D vwCl (wD_row_tally_aside cA ad block ties lines pmn row q8.2 q11) H := hP
                have hD : va_D A (wD_row_tally_aside cA ad block ties lines pmn row q8.2 q11) := hD
                refine lv_iload hx hb dX5_windows_94 (lv_at hl 5 rfl) ?_
                refine lv_istore (lv' := [(4, .int q8.1), (0, .ref (ad 0)), (1, .int x1), (2, .int x2), (3, .int z9), (5, .int x5), (6, .int q8.1)]) hx hb dX5_windows_96 hl (by decide) rfl (fun ls hl => ?_)
                refine lv_iinc (v := (x5 + 1)) (lv' := [(5, .int (x5 + 1)), (4, .int q8.1), (0, .ref (ad 0)), (1, .int x1), (2, .int x2), (3, .int z9), (6, .int q8.1)]) hx hb dX5_windows_98 hl (k := 5) rfl rfl (by decide) rfl (fun ls hl => ?_)
                refine lv_goto (tgt := 42) hx hb dX5_windows_101 (by decide) ?_
                exact ih42 x1 x2 z9 q8.1 (x5 + 1) block ties lines pmn row q8.2 q11 z6 _ _ _ (lv_sub hl [2, 3, 4, 5, 1, 0] rfl) hP hD hS h hk42
              have h := ez9
              refine lv_if_le (tgt := 85) hx hb dX5_windows_72 (by decide) (fun c12 => ?_) (fun c12 => ?_)
              · have h := e_t c12 h
                obtain rfl := e_s h
                exact hJ10 _ _ _ (lv_sub hl [1, 2, 3, 4, 6, 0] rfl) hP hD hS
              · have h := e_f c12 h
                refine lv_iload hx hb dX5_windows_75 (lv_at hl 0 rfl) ?_
                refine lv_iload hx hb dX5_windows_77 (lv_at hl 5 rfl) ?_
                refine lv_icmp_eq (tgt := 85) hx hb dX5_windows_79 (by decide) (fun c13 => ?_) (fun c13 => ?_)
                · have h := e_t c13 h
                  obtain rfl := e_s h
                  exact hJ10 _ _ _ (lv_sub hl [1, 2, 3, 4, 6, 0] rfl) hP hD hS
                · have h := e_f c13 h
                  refine lv_iinc (v := (x3 + 1)) (lv' := [(3, .int (x3 + 1)), (6, .int q8.1), (0, .ref (ad 0)), (1, .int x1), (2, .int x2), (4, .int x4), (5, .int x5)]) hx hb dX5_windows_82 hl (k := 4) rfl rfl (by decide) rfl (fun ls hl => ?_)
                  obtain rfl := e_s h
                  exact hJ10 _ _ _ (lv_sub hl [2, 3, 4, 0, 6, 1] rfl) hP hD hS
        obtain ⟨z14, ez14, h⟩ := e_b h
        refine hL42 FU x1 x2 0 (-1) 0 block ties lines pmn row tally q5 z14 _ _ _ (lv_sub hl [3, 4, 5, 2, 1, 0] rfl) hP hD hS ez14 (fun ls H locs hl hP hD hS => ?_)
        refine lv_iload_n hx hb dX5_windows_104 rfl (lv_at hl 1 rfl) ?_
        refine lv_if_ne (tgt := 110) hx hb dX5_windows_105 (by decide) (fun c15 => ?_) (fun c15 => ?_)
        · have h := e_t c15 h
          refine lv_iload_n hx hb dX5_windows_110 rfl (lv_at hl 1 rfl) ?_
          refine lv_iconst (v := 1) hx hb dX5_windows_111 (by decide) ?_
          refine lv_icmp_ne (tgt := 125) hx hb dX5_windows_112 (by decide) (fun c16 => ?_) (fun c16 => ?_)
          · have h := e_t c16 h
            refine lv_aload_n hx hb dX5_windows_125 rfl (lv_at hl 0 rfl) ?_
            refine va_get (D := D) (ci := 5) (v := .ref (ad 56)) (C := RX5) (T := TX5) (N := 12) hx hb hts iX5 hown hK hP 0 rfl rfl 6 (Nat.le_of_ble_eq_true rfl) f47 (fun _ h9 => h9) rfl dX5_windows_126 ?_
            refine va_get (D := D) (ci := 3) (v := .int z14.2.2.2.2.2.2.2.2.1) (C := RX3) (T := TX3) (N := 8) hx hb hts iX3 hown hK hP 9 rfl rfl 6 (Nat.le_of_ble_eq_true rfl) f176 (fun _ h9 => h9) rfl dX5_windows_129 ?_
            obtain rfl := e_s h
            exact hret hP hS rfl dX5_windows_132
          · have h := e_f (not_not_intro c16) h
            refine lv_aload_n hx hb dX5_windows_115 rfl (lv_at hl 0 rfl) ?_
            refine va_get (D := D) (ci := 5) (v := .ref (ad 56)) (C := RX5) (T := TX5) (N := 12) hx hb hts iX5 hown hK hP 0 rfl rfl 6 (Nat.le_of_ble_eq_true rfl) f47 (fun _ h9 => h9) rfl dX5_windows_116 ?_
            refine va_get (D := D) (ci := 3) (v := .int z14.2.2.2.2.2.2.1) (C := RX3) (T := TX3) (N := 8) hx hb hts iX3 hown hK hP 9 rfl rfl 4 (Nat.le_of_ble_eq_true rfl) f182 (fun _ h9 => h9) rfl dX5_windows_119 ?_
            refine lv_goto (tgt := 132) hx hb dX5_windows_122 (by decide) ?_
            obtain rfl := e_s h
            exact hret hP hS rfl dX5_windows_132
        · have h := e_f (not_not_intro c15) h
          refine lv_iload_n hx hb dX5_windows_108 rfl (lv_at hl 2 rfl) ?_
          obtain rfl := e_s h
          exact hret hP hS rfl dX5_windows_109
      · have h := e_f (not_not_intro c4) h
        refine lv_iconst (v := (-1)) hx hb dX5_windows_24 (by decide) ?_
        obtain rfl := e_s h
        exact hret hP hS rfl dX5_windows_25
set_option maxHeartbeats 4000000 in
set_option maxRecDepth 100000 in
theorem kX5_beginnings (l : Launch) (D : va_G) (cA : Nat → ClassId) (ad : Nat → Nat) (block : Int32) (ties : Int32) (lines : Int32) (pmn : Int32) (row : RowT) (tally : TalT) (aside : TalT) (x1 : Int32) (q : Int32 × TalT × TalT) (h : mX5_beginnings ties row tally aside x1 = some q) : MI l yX5_beginnings wsX5_beginnings { frames := 2, cells := 0, slots := 0, locals := 43 } D cA .int [.ref (ad 0), .int x1] (wD_row_tally_aside cA ad block ties lines pmn row tally aside) (wD_row_tally_aside cA ad block ties lines pmn row q.2.1 q.2.2) q.1 := by
  refine MI.of (cc := cX5_beginnings) (maxL := 7) (by decide +kernel) rfl rfl rfl (Nat.le_of_ble_eq_true rfl) ?_
  intro p e s m args below meth c A ls Q hx hb hml hts hown hK hP hD hA hS hl hret
  have hl : lv_has ls 7 [(0, .ref (ad 0)), (1, .int x1)] := hl
  have f106 := hts (.fieldLink RX5 106 "ModeDesk$Row" "values" "[I") (by decide +kernel)
  have f135 := hts (.fieldLink RX5 135 "ModeDesk$Row" "size" "I") (by decide +kernel)
  have f176 := hts (.fieldLink RX5 176 "ModeDesk$Tally" "best" "I") (by decide +kernel)
  have f182 := hts (.fieldLink RX5 182 "ModeDesk$Tally" "kinds" "I") (by decide +kernel)
  have f26 := hts (.fieldLink RX5 26 "ModeDesk" "row" "LModeDesk$Row;") (by decide +kernel)
  have f43 := hts (.fieldLink RX5 43 "ModeDesk" "tally" "LModeDesk$Tally;") (by decide +kernel)
  have f47 := hts (.fieldLink RX5 47 "ModeDesk" "aside" "LModeDesk$Tally;") (by decide +kernel)
  have f58 := hts (.fieldLink RX5 58 "ModeDesk" "ties" "I") (by decide +kernel)
  have iX2 : ∀ w ∈ wsX20, w ∈ wsX5_beginnings := by decide +kernel
  have iX3 : ∀ w ∈ wsX30, w ∈ wsX5_beginnings := by decide +kernel
  have iX5 : ∀ w ∈ wsX50, w ∈ wsX5_beginnings := by decide +kernel
  unfold mX5_beginnings at h
  refine lv_iload_n hx hb dX5_beginnings_0 rfl (lv_at hl 1 rfl) ?_
  refine lv_iconst (v := 4) hx hb dX5_beginnings_1 (by decide) ?_
  obtain ⟨q1, eq1, h⟩ := e_b h
  refine xs_i (As := [.int x1, .int 4]) (rest := []) ⟨hx, hb, hml, hown, hts⟩ hl.1 (kX5_isBelow l D cA   x1 4 _ eq1) (va_cwS 2 hts gX5_beginnings_X5_isBelow rfl rfl rfl (by decide +kernel) ⟨Nat.le_of_ble_eq_true rfl, Nat.le_of_ble_eq_true rfl⟩) rfl hK hP hD hS hA [] rfl (by decide +kernel) rfl (Nat.le_of_ble_eq_true rfl) dX5_beginnings_2 ⟨Nat.zero_le _, Nat.zero_le _⟩ (fun H locs hP hD hS hnq1 => ?_)
  have hP : va_P D vwCl (wD_row_tally_aside cA ad block ties lines pmn row tally aside) H := hP
  have hD : va_D A (wD_row_tally_aside cA ad block ties lines pmn row tally aside) := hD
  refine lv_if_ne (tgt := 10) hx hb dX5_beginnings_5 (by decide) (fun c2 => ?_) (fun c2 => ?_)
  · have h := e_t c2 h
    refine lv_iconst (v := 0) hx hb dX5_beginnings_10 (by decide) ?_
    refine lv_istore_n (lv' := [(2, .int 0), (0, .ref (ad 0)), (1, .int x1)]) hx hb dX5_beginnings_11 rfl hl (by decide) rfl (fun ls hl => ?_)
    refine lv_iconst (v := 0) hx hb dX5_beginnings_12 (by decide) ?_
    refine lv_istore_n (lv' := [(3, .int 0), (2, .int 0), (0, .ref (ad 0)), (1, .int x1)]) hx hb dX5_beginnings_13 rfl hl (by decide) rfl (fun ls hl => ?_)
    refine lv_bipush (v := (-2)) hx hb dX5_beginnings_14 (by decide) ?_
    refine lv_istore (lv' := [(4, .int (-2)), (3, .int 0), (2, .int 0), (0, .ref (ad 0)), (1, .int x1)]) hx hb dX5_beginnings_16 hl (by decide) rfl (fun ls hl => ?_)
    refine lv_iconst (v := (-1)) hx hb dX5_beginnings_18 (by decide) ?_
    refine lv_istore (lv' := [(5, .int (-1)), (4, .int (-2)), (3, .int 0), (2, .int 0), (0, .ref (ad 0)), (1, .int x1)]) hx hb dX5_beginnings_19 hl (by decide) rfl (fun ls hl => ?_)
    refine lv_aload_n hx hb dX5_beginnings_21 rfl (lv_at hl 4 rfl) ?_
    refine va_get (D := D) (ci := 5) (v := .ref (ad 51)) (C := RX5) (T := TX5) (N := 12) hx hb hts iX5 hown hK hP 0 rfl rfl 5 (Nat.le_of_ble_eq_true rfl) f43 (fun _ h9 => h9) rfl dX5_beginnings_22 ?_
    refine lv_aload_n hx hb dX5_beginnings_25 rfl (lv_at hl 4 rfl) ?_
    refine va_get (D := D) (ci := 5) (v := .int ties) (C := RX5) (T := TX5) (N := 12) hx hb hts iX5 hown hK hP 0 rfl rfl 9 (Nat.le_of_ble_eq_true rfl) f58 (fun _ h9 => h9) rfl dX5_beginnings_26 ?_
    obtain ⟨q3, eq3, h⟩ := e_b h
    refine xv_v (As := [.int ties]) (rest := []) (ci := 3) (b := ad 51) ⟨hx, hb, hml, hown, hts⟩ hl.1 (kX3_begin l D cA (fun i => ad (51 + i)) tally ties _ eq3) (cwV 1 hts gX5_beginnings_X3_begin rfl rfl rfl (by decide +kernel) ⟨Nat.le_of_ble_eq_true rfl, Nat.le_of_ble_eq_true rfl⟩) rfl hK hP hD hS hA 4 rfl rfl rfl [4, 5, 6, 7, 8] rfl (by decide +kernel) rfl (Nat.le_of_ble_eq_true rfl) dX5_beginnings_29 ⟨Nat.zero_le _, Nat.zero_le _⟩ (fun H locs hP hD hS => ?_)
    have hP : va_P D vwCl (wD_row_tally_aside cA ad block ties lines pmn row q3 aside) H := hP
    have hD : va_D A (wD_row_tally_aside cA ad block ties lines pmn row q3 aside) := hD
    refine lv_aload_n hx hb dX5_beginnings_32 rfl (lv_at hl 4 rfl) ?_
    refine va_get (D := D) (ci := 5) (v := .ref (ad 56)) (C := RX5) (T := TX5) (N := 12) hx hb hts iX5 hown hK hP 0 rfl rfl 6 (Nat.le_of_ble_eq_true rfl) f47 (fun _ h9 => h9) rfl dX5_beginnings_33 ?_
    refine lv_iconst (v := 2) hx hb dX5_beginnings_36 (by decide) ?_
    obtain ⟨q4, eq4, h⟩ := e_b h
    refine xv_v (As := [.int 2]) (rest := []) (ci := 3) (b := ad 56) ⟨hx, hb, hml, hown, hts⟩ hl.1 (kX3_begin l D cA (fun i => ad (56 + i)) aside 2 _ eq4) (cwV 1 hts gX5_beginnings_X3_begin rfl rfl rfl (by decide +kernel) ⟨Nat.le_of_ble_eq_true rfl, Nat.le_of_ble_eq_true rfl⟩) rfl hK hP hD hS hA 9 rfl rfl rfl [9, 10, 11, 12, 13] rfl (by decide +kernel) rfl (Nat.le_of_ble_eq_true rfl) dX5_beginnings_37 ⟨Nat.zero_le _, Nat.zero_le _⟩ (fun H locs hP hD hS => ?_)
    have hP : va_P D vwCl (wD_row_tally_aside cA ad block ties lines pmn row q3 q4) H := hP
    have hD : va_D A (wD_row_tally_aside cA ad block ties lines pmn row q3 q4) := hD
    refine lv_iconst (v := 0) hx hb dX5_beginnings_40 (by decide) ?_
    refine lv_istore (lv' := [(6, .int 0), (5, .int (-1)), (4, .int (-2)), (3, .int 0), (2, .int 0), (0, .ref (ad 0)), (1, .int x1)]) hx hb dX5_beginnings_41 hl (by decide) rfl (fun ls hl => ?_)
    have hL43 : ∀ (n : Nat) (x1 : Int32) (x2 : Int32) (x3 : Int32) (x4 : Int32) (x5 : Int32) (x6 : Int32) (block : Int32) (ties : Int32) (lines : Int32) (pmn : Int32) (row : RowT) (tally : TalT) (aside : TalT) (z5 : Int32 × Int32 × Int32 × TalT × TalT) (ls : Array Slot) (H : Heap) (locs : List Loc), lv_has ls 7 [(0, .ref (ad 0)), (1, .int x1), (2, .int x2), (3, .int x3), (4, .int x4), (5, .int x5), (6, .int x6)] → va_P D vwCl (wD_row_tally_aside cA ad block ties lines pmn row tally aside) H → va_D A (wD_row_tally_aside cA ad block ties lines pmn row tally aside) → va_S A s.heap H locs → mX5_beginnings_L43 row n x2 x3 x4 x5 x6 tally aside = some z5 → (∀ (ls : Array Slot) (H : Heap) (locs : List Loc), lv_has ls 7 [(0, .ref (ad 0)), (1, .int x1), (2, .int z5.1), (3, .int z5.2.1), (4, .int z5.2.2.1)] → va_P D vwCl (wD_row_tally_aside cA ad block ties lines pmn row z5.2.2.2.1 z5.2.2.2.2) H → va_D A (wD_row_tally_aside cA ad block ties lines pmn row z5.2.2.2.1 z5.2.2.2.2) → va_S A s.heap H locs → W p l e (headSpec wsX5_beginnings { frames := 2, cells := 0, slots := 0, locals := 43 }).room s m args below meth c H locs 0 0 Q (F0 m 135 ls [])) → W p l e (headSpec wsX5_beginnings { frames := 2, cells := 0, slots := 0, locals := 43 }).room s m args below meth c H locs 0 0 Q (F0 m 43 ls []) := by
      intro n
      induction n with
      | zero => intro x1 x2 x3 x4 x5 x6 block ties lines pmn row tally aside z5 ls H locs hl hP hD hS h hk43; exact e_n h
      | succ n ih43 =>
        intro x1 x2 x3 x4 x5 x6 block ties lines pmn row tally aside z5 ls H locs hl hP hD hS h hk43
        rw [mX5_beginnings_L43.eq_2] at h
        refine lv_iload hx hb dX5_beginnings_43 (lv_at hl 6 rfl) ?_
        refine lv_aload_n hx hb dX5_beginnings_45 rfl (lv_at hl 0 rfl) ?_
        refine va_get (D := D) (ci := 5) (v := .ref (ad 7)) (C := RX5) (T := TX5) (N := 12) hx hb hts iX5 hown hK hP 0 rfl rfl 2 (Nat.le_of_ble_eq_true rfl) f26 (fun _ h9 => h9) rfl dX5_beginnings_46 ?_
        refine va_get (D := D) (ci := 2) (v := .int row.2.2) (C := RX2) (T := TX2) (N := 3) hx hb hts iX2 hown hK hP 1 rfl rfl 2 (Nat.le_of_ble_eq_true rfl) f135 (fun _ h9 => h9) rfl dX5_beginnings_49 ?_
        refine lv_icmp_ge (tgt := 135) hx hb dX5_beginnings_52 (by decide) (fun c6 => ?_) (fun c6 => ?_)
        · have h := e_t c6 h
          obtain rfl := e_s h
          exact hk43 _ _ _ (lv_sub hl [0, 1, 2, 3, 4] rfl) hP hD hS
        · have h := e_f c6 h
          refine lv_aload_n hx hb dX5_beginnings_55 rfl (lv_at hl 0 rfl) ?_
          refine va_get (D := D) (ci := 5) (v := .ref (ad 51)) (C := RX5) (T := TX5) (N := 12) hx hb hts iX5 hown hK hP 0 rfl rfl 5 (Nat.le_of_ble_eq_true rfl) f43 (fun _ h9 => h9) rfl dX5_beginnings_56 ?_
          refine lv_aload_n hx hb dX5_beginnings_59 rfl (lv_at hl 0 rfl) ?_
          refine va_get (D := D) (ci := 5) (v := .ref (ad 7)) (C := RX5) (T := TX5) (N := 12) hx hb hts iX5 hown hK hP 0 rfl rfl 2 (Nat.le_of_ble_eq_true rfl) f26 (fun _ h9 => h9) rfl dX5_beginnings_60 ?_
          refine va_get (D := D) (ci := 2) (v := .ref (ad 8)) (C := RX2) (T := TX2) (N := 3) hx hb hts iX2 hown hK hP 1 rfl rfl 0 (Nat.le_of_ble_eq_true rfl) f106 (fun _ h9 => h9) rfl dX5_beginnings_63 ?_
          refine lv_iload hx hb dX5_beginnings_66 (lv_at hl 6 rfl) ?_
          obtain ⟨v7, ev7, nv7, h⟩ := e_rd h
          refine xa_iald hx hb hK hP 2 rfl nv7 ev7 dX5_beginnings_68 ?_
          obtain ⟨q8, eq8, h⟩ := e_b h
          refine xv_v (As := [.int v7]) (rest := []) (ci := 3) (b := ad 51) ⟨hx, hb, hml, hown, hts⟩ hl.1 (kX3_push l D cA (fun i => ad (51 + i)) tally v7 _ eq8) (cwV 1 hts gX5_beginnings_X3_push rfl rfl rfl (by decide +kernel) ⟨Nat.le_of_ble_eq_true rfl, Nat.le_of_ble_eq_true rfl⟩) rfl hK hP hD hS hA 4 rfl rfl rfl [4, 5, 6, 7, 8] rfl (by decide +kernel) rfl (Nat.le_of_ble_eq_true rfl) dX5_beginnings_69 ⟨Nat.zero_le _, Nat.zero_le _⟩ (fun H locs hP hD hS => ?_)
          have hP : va_P D vwCl (wD_row_tally_aside cA ad block ties lines pmn row q8 aside) H := hP
          have hD : va_D A (wD_row_tally_aside cA ad block ties lines pmn row q8 aside) := hD
          refine lv_aload_n hx hb dX5_beginnings_72 rfl (lv_at hl 0 rfl) ?_
          refine va_get (D := D) (ci := 5) (v := .ref (ad 56)) (C := RX5) (T := TX5) (N := 12) hx hb hts iX5 hown hK hP 0 rfl rfl 6 (Nat.le_of_ble_eq_true rfl) f47 (fun _ h9 => h9) rfl dX5_beginnings_73 ?_
          refine lv_aload_n hx hb dX5_beginnings_76 rfl (lv_at hl 0 rfl) ?_
          refine va_get (D := D) (ci := 5) (v := .ref (ad 51)) (C := RX5) (T := TX5) (N := 12) hx hb hts iX5 hown hK hP 0 rfl rfl 5 (Nat.le_of_ble_eq_true rfl) f43 (fun _ h9 => h9) rfl dX5_beginnings_77 ?_
          refine va_get (D := D) (ci := 3) (v := .int q8.2.2.2.2.2.2.1) (C := RX3) (T := TX3) (N := 8) hx hb hts iX3 hown hK hP 4 rfl rfl 6 (Nat.le_of_ble_eq_true rfl) f176 (fun _ h9 => h9) rfl dX5_beginnings_80 ?_
          obtain ⟨q9, eq9, h⟩ := e_b h
          refine xv_v (As := [.int q8.2.2.2.2.2.2.1]) (rest := []) (ci := 3) (b := ad 56) ⟨hx, hb, hml, hown, hts⟩ hl.1 (kX3_push l D cA (fun i => ad (56 + i)) aside q8.2.2.2.2.2.2.1 _ eq9) (cwV 1 hts gX5_beginnings_X3_push rfl rfl rfl (by decide +kernel) ⟨Nat.le_of_ble_eq_true rfl, Nat.le_of_ble_eq_true rfl⟩) rfl hK hP hD hS hA 9 rfl rfl rfl [9, 10, 11, 12, 13] rfl (by decide +kernel) rfl (Nat.le_of_ble_eq_true rfl) dX5_beginnings_83 ⟨Nat.zero_le _, Nat.zero_le _⟩ (fun H locs hP hD hS => ?_)
          have hP : va_P D vwCl (wD_row_tally_aside cA ad block ties lines pmn row q8 q9) H := hP
          have hD : va_D A (wD_row_tally_aside cA ad block ties lines pmn row q8 q9) := hD
          refine lv_iload hx hb dX5_beginnings_86 (lv_at hl 6 rfl) ?_
          obtain ⟨z10, ez10, h⟩ := e_b h
          have hJ11 : ∀ (ls : Array Slot) (H : Heap) (locs : List Loc), lv_has ls 7 [(0, .ref (ad 0)), (1, .int x1), (2, .int z10.1), (3, .int z10.2), (4, .int x4), (6, .int x6)] → va_P D vwCl (wD_row_tally_aside cA ad block ties lines pmn row q8 q9) H → va_D A (wD_row_tally_aside cA ad block ties lines pmn row q8 q9) → va_S A s.heap H locs → W p l e (headSpec wsX5_beginnings { frames := 2, cells := 0, slots := 0, locals := 43 }).room s m args below meth c H locs 0 0 Q (F0 m 109 ls []) := by
            intro ls H locs hl hP hD hS
            refine lv_iload hx hb dX5_beginnings_109 (lv_at hl 4 rfl) ?_
            refine lv_iload hx hb dX5_beginnings_111 (lv_at hl 5 rfl) ?_
            refine lv_iload_n hx hb dX5_beginnings_113 rfl (lv_at hl 3 rfl) ?_
            refine lv_isub hx hb dX5_beginnings_114 ?_
            refine va_mmax hx hb (by rw [hml, hl.1]) hown (hts (.methodLink RX5 203 Lib.Math.max.name) (by decide +kernel)) (hts (.static Lib.Math.max.name) (by decide +kernel)) (hts (.initialized "java/lang/Math") (by decide +kernel)) (hts (.code Lib.Math.max.name Lib.Math.max.code 2 (some .int)) (by decide +kernel)) (Nat.le_of_ble_eq_true rfl) (Nat.le_of_ble_eq_true rfl) (Nat.zero_le _) (Nat.zero_le _) dX5_beginnings_115 ?_
            refine lv_istore (lv' := [(4, .int (if x4 < (x6 - z10.2) then (x6 - z10.2) else x4)), (0, .ref (ad 0)), (1, .int x1), (2, .int z10.1), (3, .int z10.2), (6, .int x6)]) hx hb dX5_beginnings_118 hl (by decide) rfl (fun ls hl => ?_)
            refine lv_aload_n hx hb dX5_beginnings_120 rfl (lv_at hl 1 rfl) ?_
            refine va_get (D := D) (ci := 5) (v := .ref (ad 51)) (C := RX5) (T := TX5) (N := 12) hx hb hts iX5 hown hK hP 0 rfl rfl 5 (Nat.le_of_ble_eq_true rfl) f43 (fun _ h9 => h9) rfl dX5_beginnings_121 ?_
            refine va_get (D := D) (ci := 3) (v := .int q8.2.2.2.2.2.2.1) (C := RX3) (T := TX3) (N := 8) hx hb hts iX3 hown hK hP 4 rfl rfl 6 (Nat.le_of_ble_eq_true rfl) f176 (fun _ h9 => h9) rfl dX5_beginnings_124 ?_
            refine lv_istore (lv' := [(5, .int q8.2.2.2.2.2.2.1), (4, .int (if x4 < (x6 - z10.2) then (x6 - z10.2) else x4)), (0, .ref (ad 0)), (1, .int x1), (2, .int z10.1), (3, .int z10.2), (6, .int x6)]) hx hb dX5_beginnings_127 hl (by decide) rfl (fun ls hl => ?_)
            refine lv_iinc (v := (x6 + 1)) (lv' := [(6, .int (x6 + 1)), (5, .int q8.2.2.2.2.2.2.1), (4, .int (if x4 < (x6 - z10.2) then (x6 - z10.2) else x4)), (0, .ref (ad 0)), (1, .int x1), (2, .int z10.1), (3, .int z10.2)]) hx hb dX5_beginnings_129 hl (k := 6) rfl rfl (by decide) rfl (fun ls hl => ?_)
            refine lv_goto (tgt := 43) hx hb dX5_beginnings_132 (by decide) ?_
            exact ih43 x1 z10.1 z10.2 (if x4 < (x6 - z10.2) then (x6 - z10.2) else x4) q8.2.2.2.2.2.2.1 (x6 + 1) block ties lines pmn row q8 q9 z5 _ _ _ (lv_sub hl [3, 4, 5, 6, 2, 1, 0] rfl) hP hD hS h hk43
          have h := ez10
          refine lv_if_le (tgt := 109) hx hb dX5_beginnings_88 (by decide) (fun c12 => ?_) (fun c12 => ?_)
          · have h := e_t c12 h
            obtain rfl := e_s h
            exact hJ11 _ _ _ (lv_sub hl [0, 1, 2, 3, 4, 6] rfl) hP hD hS
          · have h := e_f c12 h
            refine lv_aload_n hx hb dX5_beginnings_91 rfl (lv_at hl 0 rfl) ?_
            refine va_get (D := D) (ci := 5) (v := .ref (ad 51)) (C := RX5) (T := TX5) (N := 12) hx hb hts iX5 hown hK hP 0 rfl rfl 5 (Nat.le_of_ble_eq_true rfl) f43 (fun _ h9 => h9) rfl dX5_beginnings_92 ?_
            refine va_get (D := D) (ci := 3) (v := .int q8.2.2.2.2.2.2.1) (C := RX3) (T := TX3) (N := 8) hx hb hts iX3 hown hK hP 4 rfl rfl 6 (Nat.le_of_ble_eq_true rfl) f176 (fun _ h9 => h9) rfl dX5_beginnings_95 ?_
            refine lv_iload hx hb dX5_beginnings_98 (lv_at hl 5 rfl) ?_
            refine lv_icmp_eq (tgt := 109) hx hb dX5_beginnings_100 (by decide) (fun c13 => ?_) (fun c13 => ?_)
            · have h := e_t c13 h
              obtain rfl := e_s h
              exact hJ11 _ _ _ (lv_sub hl [0, 1, 2, 3, 4, 6] rfl) hP hD hS
            · have h := e_f c13 h
              refine lv_iinc (v := (x2 + 1)) (lv' := [(2, .int (x2 + 1)), (0, .ref (ad 0)), (1, .int x1), (3, .int x3), (4, .int x4), (5, .int x5), (6, .int x6)]) hx hb dX5_beginnings_103 hl (k := 2) rfl rfl (by decide) rfl (fun ls hl => ?_)
              refine lv_iload hx hb dX5_beginnings_106 (lv_at hl 6 rfl) ?_
              refine lv_istore_n (lv' := [(3, .int x6), (2, .int (x2 + 1)), (0, .ref (ad 0)), (1, .int x1), (4, .int x4), (5, .int x5), (6, .int x6)]) hx hb dX5_beginnings_108 rfl hl (by decide) rfl (fun ls hl => ?_)
              obtain rfl := e_s h
              exact hJ11 _ _ _ (lv_sub hl [2, 3, 1, 0, 4, 6] rfl) hP hD hS
    obtain ⟨z14, ez14, h⟩ := e_b h
    refine hL43 FU x1 0 0 (-2) (-1) 0 block ties lines pmn row q3 q4 z14 _ _ _ (lv_sub hl [5, 6, 4, 3, 2, 1, 0] rfl) hP hD hS ez14 (fun ls H locs hl hP hD hS => ?_)
    refine lv_iload_n hx hb dX5_beginnings_135 rfl (lv_at hl 1 rfl) ?_
    by_cases c15 : x1 = 0
    · have h := e_t c15 h
      refine lv_tableIn (off := 28) (tgt := 164) hx hb dX5_beginnings_136 (by rw [c15]; decide) (by rw [c15]; decide) (by rw [c15]; rfl) (by decide) ?_
      refine lv_iload_n hx hb dX5_beginnings_164 rfl (lv_at hl 2 rfl) ?_
      obtain rfl := e_s h
      exact hret hP hS rfl dX5_beginnings_165
    have h := e_f c15 h
    by_cases c17 : x1 = 1
    · have h := e_t c17 h
      refine lv_tableIn (off := 30) (tgt := 166) hx hb dX5_beginnings_136 (by rw [c17]; decide) (by rw [c17]; decide) (by rw [c17]; rfl) (by decide) ?_
      refine lv_iload_n hx hb dX5_beginnings_166 rfl (lv_at hl 2 rfl) ?_
      refine lv_if_ne (tgt := 175) hx hb dX5_beginnings_167 (by decide) (fun c16 => ?_) (fun c16 => ?_)
      · have h := e_t c16 h
        refine lv_iload_n hx hb dX5_beginnings_175 rfl (lv_at hl 3 rfl) ?_
        obtain rfl := e_s h
        exact hret hP hS rfl dX5_beginnings_176
      · have h := e_f (not_not_intro c16) h
        refine lv_bipush (v := (-2)) hx hb dX5_beginnings_170 (by decide) ?_
        refine lv_goto (tgt := 176) hx hb dX5_beginnings_172 (by decide) ?_
        obtain rfl := e_s h
        exact hret hP hS rfl dX5_beginnings_176
    have h := e_f c17 h
    by_cases c18 : x1 = 2
    · have h := e_t c18 h
      refine lv_tableIn (off := 41) (tgt := 177) hx hb dX5_beginnings_136 (by rw [c18]; decide) (by rw [c18]; decide) (by rw [c18]; rfl) (by decide) ?_
      refine lv_aload_n hx hb dX5_beginnings_177 rfl (lv_at hl 0 rfl) ?_
      refine va_get (D := D) (ci := 5) (v := .ref (ad 56)) (C := RX5) (T := TX5) (N := 12) hx hb hts iX5 hown hK hP 0 rfl rfl 6 (Nat.le_of_ble_eq_true rfl) f47 (fun _ h9 => h9) rfl dX5_beginnings_178 ?_
      refine va_get (D := D) (ci := 3) (v := .int z14.2.2.2.2.2.2.2.2.1) (C := RX3) (T := TX3) (N := 8) hx hb hts iX3 hown hK hP 9 rfl rfl 4 (Nat.le_of_ble_eq_true rfl) f182 (fun _ h9 => h9) rfl dX5_beginnings_181 ?_
      obtain rfl := e_s h
      exact hret hP hS rfl dX5_beginnings_184
    have h := e_f c18 h
    refine lv_tableOut (tgt := 185) hx hb dX5_beginnings_136 (sw_out 2 (fun k hk => by match k, hk with | 0, _ => exact c15 | 1, _ => exact c17 | 2, _ => exact c18 | (n + 3), hk => exact absurd hk (by omega)) (by decide)) (by decide) ?_
    refine lv_iload hx hb dX5_beginnings_185 (lv_at hl 4 rfl) ?_
    obtain rfl := e_s h
    exact hret hP hS rfl dX5_beginnings_187
  · have h := e_f (not_not_intro c2) h
    refine lv_iconst (v := (-1)) hx hb dX5_beginnings_8 (by decide) ?_
    obtain rfl := e_s h
    exact hret hP hS rfl dX5_beginnings_9
set_option maxHeartbeats 4000000 in
set_option maxRecDepth 100000 in
theorem kX5_spans (l : Launch) (D : va_G) (cA : Nat → ClassId) (ad : Nat → Nat) (block : Int32) (ties : Int32) (lines : Int32) (pmn : Int32) (row : RowT) (tally : TalT) (x1 : Int32) (q : Int32 × TalT) (h : mX5_spans ties row tally x1 = some q) : MI l yX5_spans wsX5_spans { frames := 2, cells := 0, slots := 0, locals := 43 } D cA .int [.ref (ad 0), .int x1] (wD_row_tally cA ad block ties lines pmn row tally) (wD_row_tally cA ad block ties lines pmn row q.2) q.1 := by
  refine MI.of (cc := cX5_spans) (maxL := 5) (by decide +kernel) rfl rfl rfl (Nat.le_of_ble_eq_true rfl) ?_
  intro p e s m args below meth c A ls Q hx hb hml hts hown hK hP hD hA hS hl hret
  have hl : lv_has ls 5 [(0, .ref (ad 0)), (1, .int x1)] := hl
  have f106 := hts (.fieldLink RX5 106 "ModeDesk$Row" "values" "[I") (by decide +kernel)
  have f135 := hts (.fieldLink RX5 135 "ModeDesk$Row" "size" "I") (by decide +kernel)
  have f176 := hts (.fieldLink RX5 176 "ModeDesk$Tally" "best" "I") (by decide +kernel)
  have f26 := hts (.fieldLink RX5 26 "ModeDesk" "row" "LModeDesk$Row;") (by decide +kernel)
  have f43 := hts (.fieldLink RX5 43 "ModeDesk" "tally" "LModeDesk$Tally;") (by decide +kernel)
  have f58 := hts (.fieldLink RX5 58 "ModeDesk" "ties" "I") (by decide +kernel)
  have iX2 : ∀ w ∈ wsX20, w ∈ wsX5_spans := by decide +kernel
  have iX3 : ∀ w ∈ wsX30, w ∈ wsX5_spans := by decide +kernel
  have iX5 : ∀ w ∈ wsX50, w ∈ wsX5_spans := by decide +kernel
  unfold mX5_spans at h
  refine lv_iload_n hx hb dX5_spans_0 rfl (lv_at hl 1 rfl) ?_
  obtain ⟨q1, eq1, h⟩ := e_b h
  refine xs_i (As := [.int x1]) (rest := []) ⟨hx, hb, hml, hown, hts⟩ hl.1 (kX5_isValue l D cA   x1 _ eq1) (va_cwS 1 hts gX5_spans_X5_isValue rfl rfl rfl (by decide +kernel) ⟨Nat.le_of_ble_eq_true rfl, Nat.le_of_ble_eq_true rfl⟩) rfl hK hP hD hS hA [] rfl (by decide +kernel) rfl (Nat.le_of_ble_eq_true rfl) dX5_spans_1 ⟨Nat.zero_le _, Nat.zero_le _⟩ (fun H locs hP hD hS hnq1 => ?_)
  have hP : va_P D vwCl (wD_row_tally cA ad block ties lines pmn row tally) H := hP
  have hD : va_D A (wD_row_tally cA ad block ties lines pmn row tally) := hD
  refine lv_if_ne (tgt := 9) hx hb dX5_spans_4 (by decide) (fun c2 => ?_) (fun c2 => ?_)
  · have h := e_t c2 h
    refine lv_iconst (v := 0) hx hb dX5_spans_9 (by decide) ?_
    refine lv_istore_n (lv' := [(2, .int 0), (0, .ref (ad 0)), (1, .int x1)]) hx hb dX5_spans_10 rfl hl (by decide) rfl (fun ls hl => ?_)
    refine lv_iconst (v := 0) hx hb dX5_spans_11 (by decide) ?_
    refine lv_istore_n (lv' := [(3, .int 0), (2, .int 0), (0, .ref (ad 0)), (1, .int x1)]) hx hb dX5_spans_12 rfl hl (by decide) rfl (fun ls hl => ?_)
    have hL13 : ∀ (n : Nat) (x1 : Int32) (x2 : Int32) (x3 : Int32) (block : Int32) (ties : Int32) (lines : Int32) (pmn : Int32) (row : RowT) (tally : TalT) (z3 : Int32 × TalT) (ls : Array Slot) (H : Heap) (locs : List Loc), lv_has ls 5 [(0, .ref (ad 0)), (1, .int x1), (2, .int x2), (3, .int x3)] → va_P D vwCl (wD_row_tally cA ad block ties lines pmn row tally) H → va_D A (wD_row_tally cA ad block ties lines pmn row tally) → va_S A s.heap H locs → mX5_spans_L13 ties row x1 n x2 x3 tally = some z3 → (∀ (ls : Array Slot) (H : Heap) (locs : List Loc), lv_has ls 5 [(2, .int z3.1)] → va_P D vwCl (wD_row_tally cA ad block ties lines pmn row z3.2) H → va_D A (wD_row_tally cA ad block ties lines pmn row z3.2) → va_S A s.heap H locs → W p l e (headSpec wsX5_spans { frames := 2, cells := 0, slots := 0, locals := 43 }).room s m args below meth c H locs 0 0 Q (F0 m 93 ls [])) → W p l e (headSpec wsX5_spans { frames := 2, cells := 0, slots := 0, locals := 43 }).room s m args below meth c H locs 0 0 Q (F0 m 13 ls []) := by
      intro n
      induction n with
      | zero => intro x1 x2 x3 block ties lines pmn row tally z3 ls H locs hl hP hD hS h hk13; exact e_n h
      | succ n ih13 =>
        intro x1 x2 x3 block ties lines pmn row tally z3 ls H locs hl hP hD hS h hk13
        rw [mX5_spans_L13.eq_2] at h
        refine lv_iload_n hx hb dX5_spans_13 rfl (lv_at hl 3 rfl) ?_
        refine lv_aload_n hx hb dX5_spans_14 rfl (lv_at hl 0 rfl) ?_
        refine va_get (D := D) (ci := 5) (v := .ref (ad 7)) (C := RX5) (T := TX5) (N := 12) hx hb hts iX5 hown hK hP 0 rfl rfl 2 (Nat.le_of_ble_eq_true rfl) f26 (fun _ h9 => h9) rfl dX5_spans_15 ?_
        refine va_get (D := D) (ci := 2) (v := .int row.2.2) (C := RX2) (T := TX2) (N := 3) hx hb hts iX2 hown hK hP 1 rfl rfl 2 (Nat.le_of_ble_eq_true rfl) f135 (fun _ h9 => h9) rfl dX5_spans_18 ?_
        refine lv_icmp_ge (tgt := 93) hx hb dX5_spans_21 (by decide) (fun c4 => ?_) (fun c4 => ?_)
        · have h := e_t c4 h
          obtain rfl := e_s h
          exact hk13 _ _ _ (lv_sub hl [2] rfl) hP hD hS
        · have h := e_f c4 h
          refine lv_aload_n hx hb dX5_spans_24 rfl (lv_at hl 0 rfl) ?_
          refine va_get (D := D) (ci := 5) (v := .ref (ad 51)) (C := RX5) (T := TX5) (N := 12) hx hb hts iX5 hown hK hP 0 rfl rfl 5 (Nat.le_of_ble_eq_true rfl) f43 (fun _ h9 => h9) rfl dX5_spans_25 ?_
          refine lv_aload_n hx hb dX5_spans_28 rfl (lv_at hl 0 rfl) ?_
          refine va_get (D := D) (ci := 5) (v := .int ties) (C := RX5) (T := TX5) (N := 12) hx hb hts iX5 hown hK hP 0 rfl rfl 9 (Nat.le_of_ble_eq_true rfl) f58 (fun _ h9 => h9) rfl dX5_spans_29 ?_
          obtain ⟨q5, eq5, h⟩ := e_b h
          refine xv_v (As := [.int ties]) (rest := []) (ci := 3) (b := ad 51) ⟨hx, hb, hml, hown, hts⟩ hl.1 (kX3_begin l D cA (fun i => ad (51 + i)) tally ties _ eq5) (cwV 1 hts gX5_spans_X3_begin rfl rfl rfl (by decide +kernel) ⟨Nat.le_of_ble_eq_true rfl, Nat.le_of_ble_eq_true rfl⟩) rfl hK hP hD hS hA 4 rfl rfl rfl [4, 5, 6, 7, 8] rfl (by decide +kernel) rfl (Nat.le_of_ble_eq_true rfl) dX5_spans_32 ⟨Nat.zero_le _, Nat.zero_le _⟩ (fun H locs hP hD hS => ?_)
          have hP : va_P D vwCl (wD_row_tally cA ad block ties lines pmn row q5) H := hP
          have hD : va_D A (wD_row_tally cA ad block ties lines pmn row q5) := hD
          refine lv_iload_n hx hb dX5_spans_35 rfl (lv_at hl 3 rfl) ?_
          refine lv_istore (lv' := [(4, .int x3), (0, .ref (ad 0)), (1, .int x1), (2, .int x2), (3, .int x3)]) hx hb dX5_spans_36 hl (by decide) rfl (fun ls hl => ?_)
          have hL38 : ∀ (n : Nat) (x1 : Int32) (x2 : Int32) (x3 : Int32) (x4 : Int32) (block : Int32) (ties : Int32) (lines : Int32) (pmn : Int32) (row : RowT) (tally : TalT) (z6 : Int32 × TalT) (ls : Array Slot) (H : Heap) (locs : List Loc), lv_has ls 5 [(0, .ref (ad 0)), (1, .int x1), (2, .int x2), (3, .int x3), (4, .int x4)] → va_P D vwCl (wD_row_tally cA ad block ties lines pmn row tally) H → va_D A (wD_row_tally cA ad block ties lines pmn row tally) → va_S A s.heap H locs → mX5_spans_L38 row x1 n x2 x4 tally = some z6 → (∀ (ls : Array Slot) (H : Heap) (locs : List Loc), lv_has ls 5 [(0, .ref (ad 0)), (1, .int x1), (2, .int z6.1), (3, .int x3)] → va_P D vwCl (wD_row_tally cA ad block ties lines pmn row z6.2) H → va_D A (wD_row_tally cA ad block ties lines pmn row z6.2) → va_S A s.heap H locs → W p l e (headSpec wsX5_spans { frames := 2, cells := 0, slots := 0, locals := 43 }).room s m args below meth c H locs 0 0 Q (F0 m 87 ls [])) → W p l e (headSpec wsX5_spans { frames := 2, cells := 0, slots := 0, locals := 43 }).room s m args below meth c H locs 0 0 Q (F0 m 38 ls []) := by
            intro n
            induction n with
            | zero => intro x1 x2 x3 x4 block ties lines pmn row tally z6 ls H locs hl hP hD hS h hk38; exact e_n h
            | succ n ih38 =>
              intro x1 x2 x3 x4 block ties lines pmn row tally z6 ls H locs hl hP hD hS h hk38
              rw [mX5_spans_L38.eq_2] at h
              refine lv_iload hx hb dX5_spans_38 (lv_at hl 4 rfl) ?_
              refine lv_aload_n hx hb dX5_spans_40 rfl (lv_at hl 0 rfl) ?_
              refine va_get (D := D) (ci := 5) (v := .ref (ad 7)) (C := RX5) (T := TX5) (N := 12) hx hb hts iX5 hown hK hP 0 rfl rfl 2 (Nat.le_of_ble_eq_true rfl) f26 (fun _ h9 => h9) rfl dX5_spans_41 ?_
              refine va_get (D := D) (ci := 2) (v := .int row.2.2) (C := RX2) (T := TX2) (N := 3) hx hb hts iX2 hown hK hP 1 rfl rfl 2 (Nat.le_of_ble_eq_true rfl) f135 (fun _ h9 => h9) rfl dX5_spans_44 ?_
              refine lv_icmp_ge (tgt := 87) hx hb dX5_spans_47 (by decide) (fun c7 => ?_) (fun c7 => ?_)
              · have h := e_t c7 h
                obtain rfl := e_s h
                exact hk38 _ _ _ (lv_sub hl [0, 1, 2, 3] rfl) hP hD hS
              · have h := e_f c7 h
                refine lv_aload_n hx hb dX5_spans_50 rfl (lv_at hl 0 rfl) ?_
                refine va_get (D := D) (ci := 5) (v := .ref (ad 51)) (C := RX5) (T := TX5) (N := 12) hx hb hts iX5 hown hK hP 0 rfl rfl 5 (Nat.le_of_ble_eq_true rfl) f43 (fun _ h9 => h9) rfl dX5_spans_51 ?_
                refine lv_aload_n hx hb dX5_spans_54 rfl (lv_at hl 0 rfl) ?_
                refine va_get (D := D) (ci := 5) (v := .ref (ad 7)) (C := RX5) (T := TX5) (N := 12) hx hb hts iX5 hown hK hP 0 rfl rfl 2 (Nat.le_of_ble_eq_true rfl) f26 (fun _ h9 => h9) rfl dX5_spans_55 ?_
                refine va_get (D := D) (ci := 2) (v := .ref (ad 8)) (C := RX2) (T := TX2) (N := 3) hx hb hts iX2 hown hK hP 1 rfl rfl 0 (Nat.le_of_ble_eq_true rfl) f106 (fun _ h9 => h9) rfl dX5_spans_58 ?_
                refine lv_iload hx hb dX5_spans_61 (lv_at hl 4 rfl) ?_
                obtain ⟨v8, ev8, nv8, h⟩ := e_rd h
                refine xa_iald hx hb hK hP 2 rfl nv8 ev8 dX5_spans_63 ?_
                obtain ⟨q9, eq9, h⟩ := e_b h
                refine xv_v (As := [.int v8]) (rest := []) (ci := 3) (b := ad 51) ⟨hx, hb, hml, hown, hts⟩ hl.1 (kX3_push l D cA (fun i => ad (51 + i)) tally v8 _ eq9) (cwV 1 hts gX5_spans_X3_push rfl rfl rfl (by decide +kernel) ⟨Nat.le_of_ble_eq_true rfl, Nat.le_of_ble_eq_true rfl⟩) rfl hK hP hD hS hA 4 rfl rfl rfl [4, 5, 6, 7, 8] rfl (by decide +kernel) rfl (Nat.le_of_ble_eq_true rfl) dX5_spans_64 ⟨Nat.zero_le _, Nat.zero_le _⟩ (fun H locs hP hD hS => ?_)
                have hP : va_P D vwCl (wD_row_tally cA ad block ties lines pmn row q9) H := hP
                have hD : va_D A (wD_row_tally cA ad block ties lines pmn row q9) := hD
                refine lv_aload_n hx hb dX5_spans_67 rfl (lv_at hl 0 rfl) ?_
                refine va_get (D := D) (ci := 5) (v := .ref (ad 51)) (C := RX5) (T := TX5) (N := 12) hx hb hts iX5 hown hK hP 0 rfl rfl 5 (Nat.le_of_ble_eq_true rfl) f43 (fun _ h9 => h9) rfl dX5_spans_68 ?_
                refine va_get (D := D) (ci := 3) (v := .int q9.2.2.2.2.2.2.1) (C := RX3) (T := TX3) (N := 8) hx hb hts iX3 hown hK hP 4 rfl rfl 6 (Nat.le_of_ble_eq_true rfl) f176 (fun _ h9 => h9) rfl dX5_spans_71 ?_
                refine lv_iload_n hx hb dX5_spans_74 rfl (lv_at hl 1 rfl) ?_
                refine lv_icmp_ne (tgt := 81) hx hb dX5_spans_75 (by decide) (fun c10 => ?_) (fun c10 => ?_)
                · have h := e_t c10 h
                  refine lv_iinc (v := (x4 + 1)) (lv' := [(4, .int (x4 + 1)), (0, .ref (ad 0)), (1, .int x1), (2, .int x2), (3, .int x3)]) hx hb dX5_spans_81 hl (k := 4) rfl rfl (by decide) rfl (fun ls hl => ?_)
                  refine lv_goto (tgt := 38) hx hb dX5_spans_84 (by decide) ?_
                  exact ih38 x1 x2 x3 (x4 + 1) block ties lines pmn row q9 z6 _ _ _ (lv_sub hl [1, 2, 3, 4, 0] rfl) hP hD hS h hk38
                · have h := e_f (not_not_intro c10) h
                  refine lv_iinc (v := (x2 + 1)) (lv' := [(2, .int (x2 + 1)), (0, .ref (ad 0)), (1, .int x1), (3, .int x3), (4, .int x4)]) hx hb dX5_spans_78 hl (k := 2) rfl rfl (by decide) rfl (fun ls hl => ?_)
                  refine lv_iinc (v := (x4 + 1)) (lv' := [(4, .int (x4 + 1)), (2, .int (x2 + 1)), (0, .ref (ad 0)), (1, .int x1), (3, .int x3)]) hx hb dX5_spans_81 hl (k := 4) rfl rfl (by decide) rfl (fun ls hl => ?_)
                  refine lv_goto (tgt := 38) hx hb dX5_spans_84 (by decide) ?_
                  exact ih38 x1 (x2 + 1) x3 (x4 + 1) block ties lines pmn row q9 z6 _ _ _ (lv_sub hl [2, 3, 1, 4, 0] rfl) hP hD hS h hk38
          obtain ⟨z11, ez11, h⟩ := e_b h
          refine hL38 FU x1 x2 x3 x3 block ties lines pmn row q5 z11 _ _ _ (lv_sub hl [1, 2, 3, 4, 0] rfl) hP hD hS ez11 (fun ls H locs hl hP hD hS => ?_)
          refine lv_iinc (v := (x3 + 1)) (lv' := [(3, .int (x3 + 1)), (0, .ref (ad 0)), (1, .int x1), (2, .int z11.1)]) hx hb dX5_spans_87 hl (k := 3) rfl rfl (by decide) rfl (fun ls hl => ?_)
          refine lv_goto (tgt := 13) hx hb dX5_spans_90 (by decide) ?_
          exact ih13 x1 z11.1 (x3 + 1) block ties lines pmn row z11.2 z3 _ _ _ (lv_sub hl [1, 2, 3, 0] rfl) hP hD hS h hk13
    obtain ⟨z12, ez12, h⟩ := e_b h
    refine hL13 FU x1 0 0 block ties lines pmn row tally z12 _ _ _ (lv_sub hl [2, 3, 1, 0] rfl) hP hD hS ez12 (fun ls H locs hl hP hD hS => ?_)
    refine lv_iload_n hx hb dX5_spans_93 rfl (lv_at hl 0 rfl) ?_
    obtain rfl := e_s h
    exact hret hP hS rfl dX5_spans_94
  · have h := e_f (not_not_intro c2) h
    refine lv_iconst (v := (-1)) hx hb dX5_spans_7 (by decide) ?_
    obtain rfl := e_s h
    exact hret hP hS rfl dX5_spans_8
set_option maxHeartbeats 4000000 in
set_option maxRecDepth 100000 in
theorem kX5_longest (l : Launch) (D : va_G) (cA : Nat → ClassId) (ad : Nat → Nat) (block : Int32) (ties : Int32) (lines : Int32) (pmn : Int32) (row : RowT) (tally : TalT) (x1 : Int32) (x2 : Int32) (q : Int32 × TalT) (h : mX5_longest ties row tally x1 x2 = some q) : MI l yX5_longest wsX5_longest { frames := 2, cells := 0, slots := 0, locals := 43 } D cA .int [.ref (ad 0), .int x1, .int x2] (wD_row_tally cA ad block ties lines pmn row tally) (wD_row_tally cA ad block ties lines pmn row q.2) q.1 := by
  refine MI.of (cc := cX5_longest) (maxL := 7) (by decide +kernel) rfl rfl rfl (Nat.le_of_ble_eq_true rfl) ?_
  intro p e s m args below meth c A ls Q hx hb hml hts hown hK hP hD hA hS hl hret
  have hl : lv_has ls 7 [(0, .ref (ad 0)), (1, .int x1), (2, .int x2)] := hl
  have f106 := hts (.fieldLink RX5 106 "ModeDesk$Row" "values" "[I") (by decide +kernel)
  have f135 := hts (.fieldLink RX5 135 "ModeDesk$Row" "size" "I") (by decide +kernel)
  have f176 := hts (.fieldLink RX5 176 "ModeDesk$Tally" "best" "I") (by decide +kernel)
  have f26 := hts (.fieldLink RX5 26 "ModeDesk" "row" "LModeDesk$Row;") (by decide +kernel)
  have f43 := hts (.fieldLink RX5 43 "ModeDesk" "tally" "LModeDesk$Tally;") (by decide +kernel)
  have f58 := hts (.fieldLink RX5 58 "ModeDesk" "ties" "I") (by decide +kernel)
  have iX2 : ∀ w ∈ wsX20, w ∈ wsX5_longest := by decide +kernel
  have iX3 : ∀ w ∈ wsX30, w ∈ wsX5_longest := by decide +kernel
  have iX5 : ∀ w ∈ wsX50, w ∈ wsX5_longest := by decide +kernel
  unfold mX5_longest at h
  refine lv_iload_n hx hb dX5_longest_0 rfl (lv_at hl 1 rfl) ?_
  obtain ⟨q1, eq1, h⟩ := e_b h
  refine xs_i (As := [.int x1]) (rest := []) ⟨hx, hb, hml, hown, hts⟩ hl.1 (kX5_isValue l D cA   x1 _ eq1) (va_cwS 1 hts gX5_longest_X5_isValue rfl rfl rfl (by decide +kernel) ⟨Nat.le_of_ble_eq_true rfl, Nat.le_of_ble_eq_true rfl⟩) rfl hK hP hD hS hA [] rfl (by decide +kernel) rfl (Nat.le_of_ble_eq_true rfl) dX5_longest_1 ⟨Nat.zero_le _, Nat.zero_le _⟩ (fun H locs hP hD hS hnq1 => ?_)
  have hP : va_P D vwCl (wD_row_tally cA ad block ties lines pmn row tally) H := hP
  have hD : va_D A (wD_row_tally cA ad block ties lines pmn row tally) := hD
  refine lv_if_eq (tgt := 15) hx hb dX5_longest_4 (by decide) (fun c2 => ?_) (fun c2 => ?_)
  · have h := e_t c2 h
    refine lv_iconst (v := (-1)) hx hb dX5_longest_15 (by decide) ?_
    obtain rfl := e_s h
    exact hret hP hS rfl dX5_longest_16
  · have h := e_f c2 h
    refine lv_iload_n hx hb dX5_longest_7 rfl (lv_at hl 2 rfl) ?_
    refine lv_iconst (v := 2) hx hb dX5_longest_8 (by decide) ?_
    obtain ⟨q3, eq3, h⟩ := e_b h
    refine xs_i (As := [.int x2, .int 2]) (rest := []) ⟨hx, hb, hml, hown, hts⟩ hl.1 (kX5_isBelow l D cA   x2 2 _ eq3) (va_cwS 2 hts gX5_longest_X5_isBelow rfl rfl rfl (by decide +kernel) ⟨Nat.le_of_ble_eq_true rfl, Nat.le_of_ble_eq_true rfl⟩) rfl hK hP hD hS hA [] rfl (by decide +kernel) rfl (Nat.le_of_ble_eq_true rfl) dX5_longest_9 ⟨Nat.zero_le _, Nat.zero_le _⟩ (fun H locs hP hD hS hnq3 => ?_)
    have hP : va_P D vwCl (wD_row_tally cA ad block ties lines pmn row tally) H := hP
    have hD : va_D A (wD_row_tally cA ad block ties lines pmn row tally) := hD
    refine lv_if_ne (tgt := 17) hx hb dX5_longest_12 (by decide) (fun c4 => ?_) (fun c4 => ?_)
    · have h := e_t c4 h
      refine lv_iconst (v := 0) hx hb dX5_longest_17 (by decide) ?_
      refine lv_istore_n (lv' := [(3, .int 0), (0, .ref (ad 0)), (1, .int x1), (2, .int x2)]) hx hb dX5_longest_18 rfl hl (by decide) rfl (fun ls hl => ?_)
      refine lv_iconst (v := 0) hx hb dX5_longest_19 (by decide) ?_
      refine lv_istore (lv' := [(4, .int 0), (3, .int 0), (0, .ref (ad 0)), (1, .int x1), (2, .int x2)]) hx hb dX5_longest_20 hl (by decide) rfl (fun ls hl => ?_)
      refine lv_iconst (v := 0) hx hb dX5_longest_22 (by decide) ?_
      refine lv_istore (lv' := [(5, .int 0), (4, .int 0), (3, .int 0), (0, .ref (ad 0)), (1, .int x1), (2, .int x2)]) hx hb dX5_longest_23 hl (by decide) rfl (fun ls hl => ?_)
      have hL25 : ∀ (n : Nat) (x1 : Int32) (x2 : Int32) (x3 : Int32) (x4 : Int32) (x5 : Int32) (block : Int32) (ties : Int32) (lines : Int32) (pmn : Int32) (row : RowT) (tally : TalT) (z5 : Int32 × Int32 × TalT) (ls : Array Slot) (H : Heap) (locs : List Loc), lv_has ls 7 [(0, .ref (ad 0)), (1, .int x1), (2, .int x2), (3, .int x3), (4, .int x4), (5, .int x5)] → va_P D vwCl (wD_row_tally cA ad block ties lines pmn row tally) H → va_D A (wD_row_tally cA ad block ties lines pmn row tally) → va_S A s.heap H locs → mX5_longest_L25 ties row x1 n x3 x4 x5 tally = some z5 → (∀ (ls : Array Slot) (H : Heap) (locs : List Loc), lv_has ls 7 [(0, .ref (ad 0)), (2, .int x2), (3, .int z5.1), (4, .int z5.2.1)] → va_P D vwCl (wD_row_tally cA ad block ties lines pmn row z5.2.2) H → va_D A (wD_row_tally cA ad block ties lines pmn row z5.2.2) → va_S A s.heap H locs → W p l e (headSpec wsX5_longest { frames := 2, cells := 0, slots := 0, locals := 43 }).room s m args below meth c H locs 0 0 Q (F0 m 131 ls [])) → W p l e (headSpec wsX5_longest { frames := 2, cells := 0, slots := 0, locals := 43 }).room s m args below meth c H locs 0 0 Q (F0 m 25 ls []) := by
        intro n
        induction n with
        | zero => intro x1 x2 x3 x4 x5 block ties lines pmn row tally z5 ls H locs hl hP hD hS h hk25; exact e_n h
        | succ n ih25 =>
          intro x1 x2 x3 x4 x5 block ties lines pmn row tally z5 ls H locs hl hP hD hS h hk25
          rw [mX5_longest_L25.eq_2] at h
          refine lv_iload hx hb dX5_longest_25 (lv_at hl 5 rfl) ?_
          refine lv_aload_n hx hb dX5_longest_27 rfl (lv_at hl 0 rfl) ?_
          refine va_get (D := D) (ci := 5) (v := .ref (ad 7)) (C := RX5) (T := TX5) (N := 12) hx hb hts iX5 hown hK hP 0 rfl rfl 2 (Nat.le_of_ble_eq_true rfl) f26 (fun _ h9 => h9) rfl dX5_longest_28 ?_
          refine va_get (D := D) (ci := 2) (v := .int row.2.2) (C := RX2) (T := TX2) (N := 3) hx hb hts iX2 hown hK hP 1 rfl rfl 2 (Nat.le_of_ble_eq_true rfl) f135 (fun _ h9 => h9) rfl dX5_longest_31 ?_
          refine lv_iload hx hb dX5_longest_34 (lv_at hl 4 rfl) ?_
          refine lv_isub hx hb dX5_longest_36 ?_
          refine lv_icmp_ge (tgt := 131) hx hb dX5_longest_37 (by decide) (fun c6 => ?_) (fun c6 => ?_)
          · have h := e_t c6 h
            obtain rfl := e_s h
            exact hk25 _ _ _ (lv_sub hl [0, 2, 3, 4] rfl) hP hD hS
          · have h := e_f c6 h
            refine lv_aload_n hx hb dX5_longest_40 rfl (lv_at hl 0 rfl) ?_
            refine va_get (D := D) (ci := 5) (v := .ref (ad 51)) (C := RX5) (T := TX5) (N := 12) hx hb hts iX5 hown hK hP 0 rfl rfl 5 (Nat.le_of_ble_eq_true rfl) f43 (fun _ h9 => h9) rfl dX5_longest_41 ?_
            refine lv_aload_n hx hb dX5_longest_44 rfl (lv_at hl 0 rfl) ?_
            refine va_get (D := D) (ci := 5) (v := .int ties) (C := RX5) (T := TX5) (N := 12) hx hb hts iX5 hown hK hP 0 rfl rfl 9 (Nat.le_of_ble_eq_true rfl) f58 (fun _ h9 => h9) rfl dX5_longest_45 ?_
            obtain ⟨q7, eq7, h⟩ := e_b h
            refine xv_v (As := [.int ties]) (rest := []) (ci := 3) (b := ad 51) ⟨hx, hb, hml, hown, hts⟩ hl.1 (kX3_begin l D cA (fun i => ad (51 + i)) tally ties _ eq7) (cwV 1 hts gX5_longest_X3_begin rfl rfl rfl (by decide +kernel) ⟨Nat.le_of_ble_eq_true rfl, Nat.le_of_ble_eq_true rfl⟩) rfl hK hP hD hS hA 4 rfl rfl rfl [4, 5, 6, 7, 8] rfl (by decide +kernel) rfl (Nat.le_of_ble_eq_true rfl) dX5_longest_48 ⟨Nat.zero_le _, Nat.zero_le _⟩ (fun H locs hP hD hS => ?_)
            have hP : va_P D vwCl (wD_row_tally cA ad block ties lines pmn row q7) H := hP
            have hD : va_D A (wD_row_tally cA ad block ties lines pmn row q7) := hD
            refine lv_iload hx hb dX5_longest_51 (lv_at hl 5 rfl) ?_
            refine lv_istore (lv' := [(6, .int x5), (0, .ref (ad 0)), (1, .int x1), (2, .int x2), (3, .int x3), (4, .int x4), (5, .int x5)]) hx hb dX5_longest_53 hl (by decide) rfl (fun ls hl => ?_)
            have hL55 : ∀ (n : Nat) (x1 : Int32) (x2 : Int32) (x3 : Int32) (x4 : Int32) (x5 : Int32) (x6 : Int32) (block : Int32) (ties : Int32) (lines : Int32) (pmn : Int32) (row : RowT) (tally : TalT) (z8 : Int32 × Int32 × TalT) (ls : Array Slot) (H : Heap) (locs : List Loc), lv_has ls 7 [(0, .ref (ad 0)), (1, .int x1), (2, .int x2), (3, .int x3), (4, .int x4), (5, .int x5), (6, .int x6)] → va_P D vwCl (wD_row_tally cA ad block ties lines pmn row tally) H → va_D A (wD_row_tally cA ad block ties lines pmn row tally) → va_S A s.heap H locs → mX5_longest_L55 row x1 x5 n x3 x4 x6 tally = some z8 → (∀ (ls : Array Slot) (H : Heap) (locs : List Loc), lv_has ls 7 [(0, .ref (ad 0)), (1, .int x1), (2, .int x2), (3, .int z8.1), (4, .int z8.2.1), (5, .int x5)] → va_P D vwCl (wD_row_tally cA ad block ties lines pmn row z8.2.2) H → va_D A (wD_row_tally cA ad block ties lines pmn row z8.2.2) → va_S A s.heap H locs → W p l e (headSpec wsX5_longest { frames := 2, cells := 0, slots := 0, locals := 43 }).room s m args below meth c H locs 0 0 Q (F0 m 125 ls [])) → W p l e (headSpec wsX5_longest { frames := 2, cells := 0, slots := 0, locals := 43 }).room s m args below meth c H locs 0 0 Q (F0 m 55 ls []) := by
              intro n
              induction n with
              | zero => intro x1 x2 x3 x4 x5 x6 block ties lines pmn row tally z8 ls H locs hl hP hD hS h hk55; exact e_n h
              | succ n ih55 =>
                intro x1 x2 x3 x4 x5 x6 block ties lines pmn row tally z8 ls H locs hl hP hD hS h hk55
                rw [mX5_longest_L55.eq_2] at h
                refine lv_iload hx hb dX5_longest_55 (lv_at hl 6 rfl) ?_
                refine lv_aload_n hx hb dX5_longest_57 rfl (lv_at hl 0 rfl) ?_
                refine va_get (D := D) (ci := 5) (v := .ref (ad 7)) (C := RX5) (T := TX5) (N := 12) hx hb hts iX5 hown hK hP 0 rfl rfl 2 (Nat.le_of_ble_eq_true rfl) f26 (fun _ h9 => h9) rfl dX5_longest_58 ?_
                refine va_get (D := D) (ci := 2) (v := .int row.2.2) (C := RX2) (T := TX2) (N := 3) hx hb hts iX2 hown hK hP 1 rfl rfl 2 (Nat.le_of_ble_eq_true rfl) f135 (fun _ h9 => h9) rfl dX5_longest_61 ?_
                refine lv_icmp_ge (tgt := 125) hx hb dX5_longest_64 (by decide) (fun c9 => ?_) (fun c9 => ?_)
                · have h := e_t c9 h
                  obtain rfl := e_s h
                  exact hk55 _ _ _ (lv_sub hl [0, 1, 2, 3, 4, 5] rfl) hP hD hS
                · have h := e_f c9 h
                  refine lv_aload_n hx hb dX5_longest_67 rfl (lv_at hl 0 rfl) ?_
                  refine va_get (D := D) (ci := 5) (v := .ref (ad 51)) (C := RX5) (T := TX5) (N := 12) hx hb hts iX5 hown hK hP 0 rfl rfl 5 (Nat.le_of_ble_eq_true rfl) f43 (fun _ h9 => h9) rfl dX5_longest_68 ?_
                  refine lv_aload_n hx hb dX5_longest_71 rfl (lv_at hl 0 rfl) ?_
                  refine va_get (D := D) (ci := 5) (v := .ref (ad 7)) (C := RX5) (T := TX5) (N := 12) hx hb hts iX5 hown hK hP 0 rfl rfl 2 (Nat.le_of_ble_eq_true rfl) f26 (fun _ h9 => h9) rfl dX5_longest_72 ?_
                  refine va_get (D := D) (ci := 2) (v := .ref (ad 8)) (C := RX2) (T := TX2) (N := 3) hx hb hts iX2 hown hK hP 1 rfl rfl 0 (Nat.le_of_ble_eq_true rfl) f106 (fun _ h9 => h9) rfl dX5_longest_75 ?_
                  refine lv_iload hx hb dX5_longest_78 (lv_at hl 6 rfl) ?_
                  obtain ⟨v10, ev10, nv10, h⟩ := e_rd h
                  refine xa_iald hx hb hK hP 2 rfl nv10 ev10 dX5_longest_80 ?_
                  obtain ⟨q11, eq11, h⟩ := e_b h
                  refine xv_v (As := [.int v10]) (rest := []) (ci := 3) (b := ad 51) ⟨hx, hb, hml, hown, hts⟩ hl.1 (kX3_push l D cA (fun i => ad (51 + i)) tally v10 _ eq11) (cwV 1 hts gX5_longest_X3_push rfl rfl rfl (by decide +kernel) ⟨Nat.le_of_ble_eq_true rfl, Nat.le_of_ble_eq_true rfl⟩) rfl hK hP hD hS hA 4 rfl rfl rfl [4, 5, 6, 7, 8] rfl (by decide +kernel) rfl (Nat.le_of_ble_eq_true rfl) dX5_longest_81 ⟨Nat.zero_le _, Nat.zero_le _⟩ (fun H locs hP hD hS => ?_)
                  have hP : va_P D vwCl (wD_row_tally cA ad block ties lines pmn row q11) H := hP
                  have hD : va_D A (wD_row_tally cA ad block ties lines pmn row q11) := hD
                  refine lv_aload_n hx hb dX5_longest_84 rfl (lv_at hl 0 rfl) ?_
                  refine va_get (D := D) (ci := 5) (v := .ref (ad 51)) (C := RX5) (T := TX5) (N := 12) hx hb hts iX5 hown hK hP 0 rfl rfl 5 (Nat.le_of_ble_eq_true rfl) f43 (fun _ h9 => h9) rfl dX5_longest_85 ?_
                  refine va_get (D := D) (ci := 3) (v := .int q11.2.2.2.2.2.2.1) (C := RX3) (T := TX3) (N := 8) hx hb hts iX3 hown hK hP 4 rfl rfl 6 (Nat.le_of_ble_eq_true rfl) f176 (fun _ h9 => h9) rfl dX5_longest_88 ?_
                  refine lv_iload_n hx hb dX5_longest_91 rfl (lv_at hl 1 rfl) ?_
                  refine lv_icmp_ne (tgt := 119) hx hb dX5_longest_92 (by decide) (fun c12 => ?_) (fun c12 => ?_)
                  · have h := e_t c12 h
                    refine lv_iinc (v := (x6 + 1)) (lv' := [(6, .int (x6 + 1)), (0, .ref (ad 0)), (1, .int x1), (2, .int x2), (3, .int x3), (4, .int x4), (5, .int x5)]) hx hb dX5_longest_119 hl (k := 6) rfl rfl (by decide) rfl (fun ls hl => ?_)
                    refine lv_goto (tgt := 55) hx hb dX5_longest_122 (by decide) ?_
                    exact ih55 x1 x2 x3 x4 x5 (x6 + 1) block ties lines pmn row q11 z8 _ _ _ (lv_sub hl [1, 2, 3, 4, 5, 6, 0] rfl) hP hD hS h hk55
                  · have h := e_f (not_not_intro c12) h
                    refine lv_iload hx hb dX5_longest_95 (lv_at hl 6 rfl) ?_
                    refine lv_iload hx hb dX5_longest_97 (lv_at hl 5 rfl) ?_
                    refine lv_isub hx hb dX5_longest_99 ?_
                    refine lv_iconst (v := 1) hx hb dX5_longest_100 (by decide) ?_
                    refine lv_iadd hx hb dX5_longest_101 ?_
                    refine lv_iload hx hb dX5_longest_102 (lv_at hl 4 rfl) ?_
                    refine lv_icmp_le (tgt := 119) hx hb dX5_longest_104 (by decide) (fun c13 => ?_) (fun c13 => ?_)
                    · have h := e_t c13 h
                      refine lv_iinc (v := (x6 + 1)) (lv' := [(6, .int (x6 + 1)), (0, .ref (ad 0)), (1, .int x1), (2, .int x2), (3, .int x3), (4, .int x4), (5, .int x5)]) hx hb dX5_longest_119 hl (k := 6) rfl rfl (by decide) rfl (fun ls hl => ?_)
                      refine lv_goto (tgt := 55) hx hb dX5_longest_122 (by decide) ?_
                      exact ih55 x1 x2 x3 x4 x5 (x6 + 1) block ties lines pmn row q11 z8 _ _ _ (lv_sub hl [1, 2, 3, 4, 5, 6, 0] rfl) hP hD hS h hk55
                    · have h := e_f c13 h
                      refine lv_iload hx hb dX5_longest_107 (lv_at hl 5 rfl) ?_
                      refine lv_istore_n (lv' := [(3, .int x5), (0, .ref (ad 0)), (1, .int x1), (2, .int x2), (4, .int x4), (5, .int x5), (6, .int x6)]) hx hb dX5_longest_109 rfl hl (by decide) rfl (fun ls hl => ?_)
                      refine lv_iload hx hb dX5_longest_110 (lv_at hl 6 rfl) ?_
                      refine lv_iload hx hb dX5_longest_112 (lv_at hl 5 rfl) ?_
                      refine lv_isub hx hb dX5_longest_114 ?_
                      refine lv_iconst (v := 1) hx hb dX5_longest_115 (by decide) ?_
                      refine lv_iadd hx hb dX5_longest_116 ?_
                      refine lv_istore (lv' := [(4, .int ((x6 - x5) + 1)), (3, .int x5), (0, .ref (ad 0)), (1, .int x1), (2, .int x2), (5, .int x5), (6, .int x6)]) hx hb dX5_longest_117 hl (by decide) rfl (fun ls hl => ?_)
                      refine lv_iinc (v := (x6 + 1)) (lv' := [(6, .int (x6 + 1)), (4, .int ((x6 - x5) + 1)), (3, .int x5), (0, .ref (ad 0)), (1, .int x1), (2, .int x2), (5, .int x5)]) hx hb dX5_longest_119 hl (k := 6) rfl rfl (by decide) rfl (fun ls hl => ?_)
                      refine lv_goto (tgt := 55) hx hb dX5_longest_122 (by decide) ?_
                      exact ih55 x1 x2 x5 ((x6 - x5) + 1) x5 (x6 + 1) block ties lines pmn row q11 z8 _ _ _ (lv_sub hl [3, 4, 5, 2, 1, 6, 0] rfl) hP hD hS h hk55
            obtain ⟨z14, ez14, h⟩ := e_b h
            refine hL55 FU x1 x2 x3 x4 x5 x5 block ties lines pmn row q7 z14 _ _ _ (lv_sub hl [1, 2, 3, 4, 5, 6, 0] rfl) hP hD hS ez14 (fun ls H locs hl hP hD hS => ?_)
            refine lv_iinc (v := (x5 + 1)) (lv' := [(5, .int (x5 + 1)), (0, .ref (ad 0)), (1, .int x1), (2, .int x2), (3, .int z14.1), (4, .int z14.2.1)]) hx hb dX5_longest_125 hl (k := 5) rfl rfl (by decide) rfl (fun ls hl => ?_)
            refine lv_goto (tgt := 25) hx hb dX5_longest_128 (by decide) ?_
            exact ih25 x1 x2 z14.1 z14.2.1 (x5 + 1) block ties lines pmn row z14.2.2 z5 _ _ _ (lv_sub hl [1, 2, 3, 4, 5, 0] rfl) hP hD hS h hk25
      obtain ⟨z15, ez15, h⟩ := e_b h
      refine hL25 FU x1 x2 0 0 0 block ties lines pmn row tally z15 _ _ _ (lv_sub hl [3, 4, 5, 2, 1, 0] rfl) hP hD hS ez15 (fun ls H locs hl hP hD hS => ?_)
      refine lv_aload_n hx hb dX5_longest_131 rfl (lv_at hl 0 rfl) ?_
      refine lv_iload_n hx hb dX5_longest_132 rfl (lv_at hl 2 rfl) ?_
      refine lv_iload hx hb dX5_longest_133 (lv_at hl 3 rfl) ?_
      refine lv_iload_n hx hb dX5_longest_135 rfl (lv_at hl 1 rfl) ?_
      obtain ⟨q16, eq16, h⟩ := e_b h
      refine xv_i (As := [.int z15.1, .int z15.2.1, .int x2]) (rest := []) (ci := 5) (b := ad 0) ⟨hx, hb, hml, hown, hts⟩ hl.1 (kX5_spanTold l D cA ad block ties lines pmn row z15.1 z15.2.1 x2 _ eq16) (cwV 3 hts gX5_longest_X5_spanTold rfl rfl rfl (by decide +kernel) ⟨Nat.le_of_ble_eq_true rfl, Nat.le_of_ble_eq_true rfl⟩) rfl hK hP hD hS hA 0 rfl rfl rfl [0, 1, 2, 3] rfl (by decide +kernel) rfl (Nat.le_of_ble_eq_true rfl) dX5_longest_136 ⟨Nat.zero_le _, Nat.zero_le _⟩ (fun H locs hP hD hS hnq16 => ?_)
      have hP : va_P D vwCl (wD_row_tally cA ad block ties lines pmn row z15.2.2) H := hP
      have hD : va_D A (wD_row_tally cA ad block ties lines pmn row z15.2.2) := hD
      obtain rfl := e_s h
      exact hret hP hS rfl dX5_longest_139
    · have h := e_f (not_not_intro c4) h
      refine lv_iconst (v := (-1)) hx hb dX5_longest_15 (by decide) ?_
      obtain rfl := e_s h
      exact hret hP hS rfl dX5_longest_16
set_option maxHeartbeats 4000000 in
set_option maxRecDepth 100000 in
theorem kX5_reign (l : Launch) (D : va_G) (cA : Nat → ClassId) (ad : Nat → Nat) (block : Int32) (ties : Int32) (lines : Int32) (pmn : Int32) (row : RowT) (x1 : Int32) (x2 : Int32) (q : Int32) (h : mX5_reign row x1 x2 = some q) : MI l yX5_reign wsX5_reign { frames := 1, cells := 0, slots := 0, locals := 23 } D cA .int [.ref (ad 0), .int x1, .int x2] (wD_row cA ad block ties lines pmn row) (wD_row cA ad block ties lines pmn row) q := by
  refine MI.of (cc := cX5_reign) (maxL := 8) (by decide +kernel) rfl rfl rfl (Nat.le_of_ble_eq_true rfl) ?_
  intro p e s m args below meth c A ls Q hx hb hml hts hown hK hP hD hA hS hl hret
  have hl : lv_has ls 8 [(0, .ref (ad 0)), (1, .int x1), (2, .int x2)] := hl
  have f106 := hts (.fieldLink RX5 106 "ModeDesk$Row" "values" "[I") (by decide +kernel)
  have f135 := hts (.fieldLink RX5 135 "ModeDesk$Row" "size" "I") (by decide +kernel)
  have f26 := hts (.fieldLink RX5 26 "ModeDesk" "row" "LModeDesk$Row;") (by decide +kernel)
  have iX2 : ∀ w ∈ wsX20, w ∈ wsX5_reign := by decide +kernel
  have iX5 : ∀ w ∈ wsX50, w ∈ wsX5_reign := by decide +kernel
  unfold mX5_reign at h
  refine lv_iload_n hx hb dX5_reign_0 rfl (lv_at hl 1 rfl) ?_
  obtain ⟨q1, eq1, h⟩ := e_b h
  refine xs_i (As := [.int x1]) (rest := []) ⟨hx, hb, hml, hown, hts⟩ hl.1 (kX5_isValue l D cA   x1 _ eq1) (va_cwS 1 hts gX5_reign_X5_isValue rfl rfl rfl (by decide +kernel) ⟨Nat.le_of_ble_eq_true rfl, Nat.le_of_ble_eq_true rfl⟩) rfl hK hP hD hS hA [] rfl (by decide +kernel) rfl (Nat.le_of_ble_eq_true rfl) dX5_reign_1 ⟨Nat.zero_le _, Nat.zero_le _⟩ (fun H locs hP hD hS hnq1 => ?_)
  have hP : va_P D vwCl (wD_row cA ad block ties lines pmn row) H := hP
  have hD : va_D A (wD_row cA ad block ties lines pmn row) := hD
  refine lv_if_eq (tgt := 15) hx hb dX5_reign_4 (by decide) (fun c2 => ?_) (fun c2 => ?_)
  · have h := e_t c2 h
    refine lv_iconst (v := (-1)) hx hb dX5_reign_15 (by decide) ?_
    obtain rfl := e_s h
    exact hret hP hS rfl dX5_reign_16
  · have h := e_f c2 h
    refine lv_iload_n hx hb dX5_reign_7 rfl (lv_at hl 2 rfl) ?_
    refine lv_iconst (v := 2) hx hb dX5_reign_8 (by decide) ?_
    obtain ⟨q3, eq3, h⟩ := e_b h
    refine xs_i (As := [.int x2, .int 2]) (rest := []) ⟨hx, hb, hml, hown, hts⟩ hl.1 (kX5_isBelow l D cA   x2 2 _ eq3) (va_cwS 2 hts gX5_reign_X5_isBelow rfl rfl rfl (by decide +kernel) ⟨Nat.le_of_ble_eq_true rfl, Nat.le_of_ble_eq_true rfl⟩) rfl hK hP hD hS hA [] rfl (by decide +kernel) rfl (Nat.le_of_ble_eq_true rfl) dX5_reign_9 ⟨Nat.zero_le _, Nat.zero_le _⟩ (fun H locs hP hD hS hnq3 => ?_)
    have hP : va_P D vwCl (wD_row cA ad block ties lines pmn row) H := hP
    have hD : va_D A (wD_row cA ad block ties lines pmn row) := hD
    refine lv_if_ne (tgt := 17) hx hb dX5_reign_12 (by decide) (fun c4 => ?_) (fun c4 => ?_)
    · have h := e_t c4 h
      refine lv_iconst (v := 0) hx hb dX5_reign_17 (by decide) ?_
      refine lv_istore_n (lv' := [(3, .int 0), (0, .ref (ad 0)), (1, .int x1), (2, .int x2)]) hx hb dX5_reign_18 rfl hl (by decide) rfl (fun ls hl => ?_)
      refine lv_iconst (v := 0) hx hb dX5_reign_19 (by decide) ?_
      refine lv_istore (lv' := [(4, .int 0), (3, .int 0), (0, .ref (ad 0)), (1, .int x1), (2, .int x2)]) hx hb dX5_reign_20 hl (by decide) rfl (fun ls hl => ?_)
      refine lv_iconst (v := 0) hx hb dX5_reign_22 (by decide) ?_
      refine lv_istore (lv' := [(5, .int 0), (4, .int 0), (3, .int 0), (0, .ref (ad 0)), (1, .int x1), (2, .int x2)]) hx hb dX5_reign_23 hl (by decide) rfl (fun ls hl => ?_)
      have hL25 : ∀ (n : Nat) (x1 : Int32) (x2 : Int32) (x3 : Int32) (x4 : Int32) (x5 : Int32) (block : Int32) (ties : Int32) (lines : Int32) (pmn : Int32) (row : RowT) (z5 : Int32 × Int32) (ls : Array Slot) (H : Heap) (locs : List Loc), lv_has ls 8 [(0, .ref (ad 0)), (1, .int x1), (2, .int x2), (3, .int x3), (4, .int x4), (5, .int x5)] → va_P D vwCl (wD_row cA ad block ties lines pmn row) H → va_D A (wD_row cA ad block ties lines pmn row) → va_S A s.heap H locs → mX5_reign_L25 row x1 n x3 x4 x5 = some z5 → (∀ (ls : Array Slot) (H : Heap) (locs : List Loc), lv_has ls 8 [(0, .ref (ad 0)), (2, .int x2), (3, .int z5.1), (4, .int z5.2)] → va_P D vwCl (wD_row cA ad block ties lines pmn row) H → va_D A (wD_row cA ad block ties lines pmn row) → va_S A s.heap H locs → W p l e (headSpec wsX5_reign { frames := 1, cells := 0, slots := 0, locals := 23 }).room s m args below meth c H locs 0 0 Q (F0 m 126 ls [])) → W p l e (headSpec wsX5_reign { frames := 1, cells := 0, slots := 0, locals := 23 }).room s m args below meth c H locs 0 0 Q (F0 m 25 ls []) := by
        intro n
        induction n with
        | zero => intro x1 x2 x3 x4 x5 block ties lines pmn row z5 ls H locs hl hP hD hS h hk25; exact e_n h
        | succ n ih25 =>
          intro x1 x2 x3 x4 x5 block ties lines pmn row z5 ls H locs hl hP hD hS h hk25
          rw [mX5_reign_L25.eq_2] at h
          refine lv_iload hx hb dX5_reign_25 (lv_at hl 5 rfl) ?_
          refine lv_aload_n hx hb dX5_reign_27 rfl (lv_at hl 0 rfl) ?_
          refine va_get (D := D) (ci := 5) (v := .ref (ad 7)) (C := RX5) (T := TX5) (N := 12) hx hb hts iX5 hown hK hP 0 rfl rfl 2 (Nat.le_of_ble_eq_true rfl) f26 (fun _ h9 => h9) rfl dX5_reign_28 ?_
          refine va_get (D := D) (ci := 2) (v := .int row.2.2) (C := RX2) (T := TX2) (N := 3) hx hb hts iX2 hown hK hP 1 rfl rfl 2 (Nat.le_of_ble_eq_true rfl) f135 (fun _ h9 => h9) rfl dX5_reign_31 ?_
          refine lv_iload hx hb dX5_reign_34 (lv_at hl 4 rfl) ?_
          refine lv_isub hx hb dX5_reign_36 ?_
          refine lv_icmp_ge (tgt := 126) hx hb dX5_reign_37 (by decide) (fun c6 => ?_) (fun c6 => ?_)
          · have h := e_t c6 h
            obtain rfl := e_s h
            exact hk25 _ _ _ (lv_sub hl [0, 2, 3, 4] rfl) hP hD hS
          · have h := e_f c6 h
            refine lv_iconst (v := 0) hx hb dX5_reign_40 (by decide) ?_
            refine lv_istore (lv' := [(6, .int 0), (0, .ref (ad 0)), (1, .int x1), (2, .int x2), (3, .int x3), (4, .int x4), (5, .int x5)]) hx hb dX5_reign_41 hl (by decide) rfl (fun ls hl => ?_)
            refine lv_iload hx hb dX5_reign_43 (lv_at hl 6 rfl) ?_
            refine lv_istore (lv' := [(7, .int x5), (6, .int 0), (0, .ref (ad 0)), (1, .int x1), (2, .int x2), (3, .int x3), (4, .int x4), (5, .int x5)]) hx hb dX5_reign_45 hl (by decide) rfl (fun ls hl => ?_)
            have hL47 : ∀ (n : Nat) (x1 : Int32) (x2 : Int32) (x3 : Int32) (x4 : Int32) (x5 : Int32) (x6 : Int32) (x7 : Int32) (block : Int32) (ties : Int32) (lines : Int32) (pmn : Int32) (row : RowT) (z7 : Int32 × Int32) (ls : Array Slot) (H : Heap) (locs : List Loc), lv_has ls 8 [(0, .ref (ad 0)), (1, .int x1), (2, .int x2), (3, .int x3), (4, .int x4), (5, .int x5), (6, .int x6), (7, .int x7)] → va_P D vwCl (wD_row cA ad block ties lines pmn row) H → va_D A (wD_row cA ad block ties lines pmn row) → va_S A s.heap H locs → mX5_reign_L47 row x1 x5 n x3 x4 x6 x7 = some z7 → (∀ (ls : Array Slot) (H : Heap) (locs : List Loc), lv_has ls 8 [(0, .ref (ad 0)), (1, .int x1), (2, .int x2), (3, .int z7.1), (4, .int z7.2), (5, .int x5)] → va_P D vwCl (wD_row cA ad block ties lines pmn row) H → va_D A (wD_row cA ad block ties lines pmn row) → va_S A s.heap H locs → W p l e (headSpec wsX5_reign { frames := 1, cells := 0, slots := 0, locals := 23 }).room s m args below meth c H locs 0 0 Q (F0 m 120 ls [])) → W p l e (headSpec wsX5_reign { frames := 1, cells := 0, slots := 0, locals := 23 }).room s m args below meth c H locs 0 0 Q (F0 m 47 ls []) := by
              intro n
              induction n with
              | zero => intro x1 x2 x3 x4 x5 x6 x7 block ties lines pmn row z7 ls H locs hl hP hD hS h hk47; exact e_n h
              | succ n ih47 =>
                intro x1 x2 x3 x4 x5 x6 x7 block ties lines pmn row z7 ls H locs hl hP hD hS h hk47
                rw [mX5_reign_L47.eq_2] at h
                refine lv_iload hx hb dX5_reign_47 (lv_at hl 7 rfl) ?_
                refine lv_aload_n hx hb dX5_reign_49 rfl (lv_at hl 0 rfl) ?_
                refine va_get (D := D) (ci := 5) (v := .ref (ad 7)) (C := RX5) (T := TX5) (N := 12) hx hb hts iX5 hown hK hP 0 rfl rfl 2 (Nat.le_of_ble_eq_true rfl) f26 (fun _ h9 => h9) rfl dX5_reign_50 ?_
                refine va_get (D := D) (ci := 2) (v := .int row.2.2) (C := RX2) (T := TX2) (N := 3) hx hb hts iX2 hown hK hP 1 rfl rfl 2 (Nat.le_of_ble_eq_true rfl) f135 (fun _ h9 => h9) rfl dX5_reign_53 ?_
                refine lv_icmp_ge (tgt := 120) hx hb dX5_reign_56 (by decide) (fun c8 => ?_) (fun c8 => ?_)
                · have h := e_t c8 h
                  obtain rfl := e_s h
                  exact hk47 _ _ _ (lv_sub hl [0, 1, 2, 3, 4, 5] rfl) hP hD hS
                · have h := e_f c8 h
                  refine lv_aload_n hx hb dX5_reign_59 rfl (lv_at hl 0 rfl) ?_
                  refine va_get (D := D) (ci := 5) (v := .ref (ad 7)) (C := RX5) (T := TX5) (N := 12) hx hb hts iX5 hown hK hP 0 rfl rfl 2 (Nat.le_of_ble_eq_true rfl) f26 (fun _ h9 => h9) rfl dX5_reign_60 ?_
                  refine va_get (D := D) (ci := 2) (v := .ref (ad 8)) (C := RX2) (T := TX2) (N := 3) hx hb hts iX2 hown hK hP 1 rfl rfl 0 (Nat.le_of_ble_eq_true rfl) f106 (fun _ h9 => h9) rfl dX5_reign_63 ?_
                  refine lv_iload hx hb dX5_reign_66 (lv_at hl 7 rfl) ?_
                  obtain ⟨v9, ev9, nv9, h⟩ := e_rd h
                  refine xa_iald hx hb hK hP 2 rfl nv9 ev9 dX5_reign_68 ?_
                  refine lv_iload_n hx hb dX5_reign_69 rfl (lv_at hl 1 rfl) ?_
                  obtain ⟨z10, ez10, h⟩ := e_b h
                  have hJ11 : ∀ (ls : Array Slot) (H : Heap) (locs : List Loc), lv_has ls 8 [(0, .ref (ad 0)), (1, .int x1), (2, .int x2), (3, .int x3), (4, .int x4), (5, .int x5), (6, .int z10), (7, .int x7)] → va_P D vwCl (wD_row cA ad block ties lines pmn row) H → va_D A (wD_row cA ad block ties lines pmn row) → va_S A s.heap H locs → W p l e (headSpec wsX5_reign { frames := 1, cells := 0, slots := 0, locals := 23 }).room s m args below meth c H locs 0 0 Q (F0 m 76 ls []) := by
                    intro ls H locs hl hP hD hS
                    refine lv_iconst (v := 2) hx hb dX5_reign_76 (by decide) ?_
                    refine lv_iload hx hb dX5_reign_77 (lv_at hl 6 rfl) ?_
                    refine lv_imul hx hb dX5_reign_79 ?_
                    refine lv_iload hx hb dX5_reign_80 (lv_at hl 7 rfl) ?_
                    refine lv_iload hx hb dX5_reign_82 (lv_at hl 5 rfl) ?_
                    refine lv_isub hx hb dX5_reign_84 ?_
                    refine lv_iconst (v := 1) hx hb dX5_reign_85 (by decide) ?_
                    refine lv_iadd hx hb dX5_reign_86 ?_
                    refine lv_icmp_le (tgt := 114) hx hb dX5_reign_87 (by decide) (fun c12 => ?_) (fun c12 => ?_)
                    · have h := e_t c12 h
                      refine lv_iinc (v := (x7 + 1)) (lv' := [(7, .int (x7 + 1)), (0, .ref (ad 0)), (1, .int x1), (2, .int x2), (3, .int x3), (4, .int x4), (5, .int x5), (6, .int z10)]) hx hb dX5_reign_114 hl (k := 7) rfl rfl (by decide) rfl (fun ls hl => ?_)
                      refine lv_goto (tgt := 47) hx hb dX5_reign_117 (by decide) ?_
                      exact ih47 x1 x2 x3 x4 x5 z10 (x7 + 1) block ties lines pmn row z7 _ _ _ (lv_sub hl [1, 2, 3, 4, 5, 6, 7, 0] rfl) hP hD hS h hk47
                    · have h := e_f c12 h
                      refine lv_iload hx hb dX5_reign_90 (lv_at hl 7 rfl) ?_
                      refine lv_iload hx hb dX5_reign_92 (lv_at hl 5 rfl) ?_
                      refine lv_isub hx hb dX5_reign_94 ?_
                      refine lv_iconst (v := 1) hx hb dX5_reign_95 (by decide) ?_
                      refine lv_iadd hx hb dX5_reign_96 ?_
                      refine lv_iload hx hb dX5_reign_97 (lv_at hl 4 rfl) ?_
                      refine lv_icmp_le (tgt := 114) hx hb dX5_reign_99 (by decide) (fun c13 => ?_) (fun c13 => ?_)
                      · have h := e_t c13 h
                        refine lv_iinc (v := (x7 + 1)) (lv' := [(7, .int (x7 + 1)), (0, .ref (ad 0)), (1, .int x1), (2, .int x2), (3, .int x3), (4, .int x4), (5, .int x5), (6, .int z10)]) hx hb dX5_reign_114 hl (k := 7) rfl rfl (by decide) rfl (fun ls hl => ?_)
                        refine lv_goto (tgt := 47) hx hb dX5_reign_117 (by decide) ?_
                        exact ih47 x1 x2 x3 x4 x5 z10 (x7 + 1) block ties lines pmn row z7 _ _ _ (lv_sub hl [1, 2, 3, 4, 5, 6, 7, 0] rfl) hP hD hS h hk47
                      · have h := e_f c13 h
                        refine lv_iload hx hb dX5_reign_102 (lv_at hl 5 rfl) ?_
                        refine lv_istore_n (lv' := [(3, .int x5), (0, .ref (ad 0)), (1, .int x1), (2, .int x2), (4, .int x4), (5, .int x5), (6, .int z10), (7, .int x7)]) hx hb dX5_reign_104 rfl hl (by decide) rfl (fun ls hl => ?_)
                        refine lv_iload hx hb dX5_reign_105 (lv_at hl 7 rfl) ?_
                        refine lv_iload hx hb dX5_reign_107 (lv_at hl 5 rfl) ?_
                        refine lv_isub hx hb dX5_reign_109 ?_
                        refine lv_iconst (v := 1) hx hb dX5_reign_110 (by decide) ?_
                        refine lv_iadd hx hb dX5_reign_111 ?_
                        refine lv_istore (lv' := [(4, .int ((x7 - x5) + 1)), (3, .int x5), (0, .ref (ad 0)), (1, .int x1), (2, .int x2), (5, .int x5), (6, .int z10), (7, .int x7)]) hx hb dX5_reign_112 hl (by decide) rfl (fun ls hl => ?_)
                        refine lv_iinc (v := (x7 + 1)) (lv' := [(7, .int (x7 + 1)), (4, .int ((x7 - x5) + 1)), (3, .int x5), (0, .ref (ad 0)), (1, .int x1), (2, .int x2), (5, .int x5), (6, .int z10)]) hx hb dX5_reign_114 hl (k := 7) rfl rfl (by decide) rfl (fun ls hl => ?_)
                        refine lv_goto (tgt := 47) hx hb dX5_reign_117 (by decide) ?_
                        exact ih47 x1 x2 x5 ((x7 - x5) + 1) x5 z10 (x7 + 1) block ties lines pmn row z7 _ _ _ (lv_sub hl [3, 4, 5, 2, 1, 6, 7, 0] rfl) hP hD hS h hk47
                  have h := ez10
                  refine lv_icmp_ne (tgt := 76) hx hb dX5_reign_70 (by decide) (fun c14 => ?_) (fun c14 => ?_)
                  · have h := e_t c14 h
                    obtain rfl := e_s h
                    exact hJ11 _ _ _ (lv_sub hl [0, 1, 2, 3, 4, 5, 6, 7] rfl) hP hD hS
                  · have h := e_f (not_not_intro c14) h
                    refine lv_iinc (v := (x6 + 1)) (lv' := [(6, .int (x6 + 1)), (0, .ref (ad 0)), (1, .int x1), (2, .int x2), (3, .int x3), (4, .int x4), (5, .int x5), (7, .int x7)]) hx hb dX5_reign_73 hl (k := 6) rfl rfl (by decide) rfl (fun ls hl => ?_)
                    obtain rfl := e_s h
                    exact hJ11 _ _ _ (lv_sub hl [1, 2, 3, 4, 5, 6, 0, 7] rfl) hP hD hS
            obtain ⟨z15, ez15, h⟩ := e_b h
            refine hL47 FU x1 x2 x3 x4 x5 0 x5 block ties lines pmn row z15 _ _ _ (lv_sub hl [2, 3, 4, 5, 6, 7, 1, 0] rfl) hP hD hS ez15 (fun ls H locs hl hP hD hS => ?_)
            refine lv_iinc (v := (x5 + 1)) (lv' := [(5, .int (x5 + 1)), (0, .ref (ad 0)), (1, .int x1), (2, .int x2), (3, .int z15.1), (4, .int z15.2)]) hx hb dX5_reign_120 hl (k := 5) rfl rfl (by decide) rfl (fun ls hl => ?_)
            refine lv_goto (tgt := 25) hx hb dX5_reign_123 (by decide) ?_
            exact ih25 x1 x2 z15.1 z15.2 (x5 + 1) block ties lines pmn row z5 _ _ _ (lv_sub hl [1, 2, 3, 4, 5, 0] rfl) hP hD hS h hk25
      obtain ⟨z16, ez16, h⟩ := e_b h
      refine hL25 FU x1 x2 0 0 0 block ties lines pmn row z16 _ _ _ (lv_sub hl [3, 4, 5, 2, 1, 0] rfl) hP hD hS ez16 (fun ls H locs hl hP hD hS => ?_)
      refine lv_aload_n hx hb dX5_reign_126 rfl (lv_at hl 0 rfl) ?_
      refine lv_iload_n hx hb dX5_reign_127 rfl (lv_at hl 2 rfl) ?_
      refine lv_iload hx hb dX5_reign_128 (lv_at hl 3 rfl) ?_
      refine lv_iload_n hx hb dX5_reign_130 rfl (lv_at hl 1 rfl) ?_
      obtain ⟨q17, eq17, h⟩ := e_b h
      refine xv_i (As := [.int z16.1, .int z16.2, .int x2]) (rest := []) (ci := 5) (b := ad 0) ⟨hx, hb, hml, hown, hts⟩ hl.1 (kX5_spanTold l D cA ad block ties lines pmn row z16.1 z16.2 x2 _ eq17) (cwV 3 hts gX5_reign_X5_spanTold rfl rfl rfl (by decide +kernel) ⟨Nat.le_of_ble_eq_true rfl, Nat.le_of_ble_eq_true rfl⟩) rfl hK hP hD hS hA 0 rfl rfl rfl [0, 1, 2, 3] rfl (by decide +kernel) rfl (Nat.le_of_ble_eq_true rfl) dX5_reign_131 ⟨Nat.zero_le _, Nat.zero_le _⟩ (fun H locs hP hD hS hnq17 => ?_)
      have hP : va_P D vwCl (wD_row cA ad block ties lines pmn row) H := hP
      have hD : va_D A (wD_row cA ad block ties lines pmn row) := hD
      obtain rfl := e_s h
      exact hret hP hS rfl dX5_reign_134
    · have h := e_f (not_not_intro c4) h
      refine lv_iconst (v := (-1)) hx hb dX5_reign_15 (by decide) ?_
      obtain rfl := e_s h
      exact hret hP hS rfl dX5_reign_16
set_option maxHeartbeats 4000000 in
set_option maxRecDepth 100000 in
theorem kX5_tightest (l : Launch) (D : va_G) (cA : Nat → ClassId) (ad : Nat → Nat) (block : Int32) (ties : Int32) (lines : Int32) (pmn : Int32) (row : RowT) (x1 : Int32) (x2 : Int32) (q : Int32) (h : mX5_tightest row x1 x2 = some q) : MI l yX5_tightest wsX5_tightest { frames := 1, cells := 0, slots := 0, locals := 25 } D cA .int [.ref (ad 0), .int x1, .int x2] (wD_row cA ad block ties lines pmn row) (wD_row cA ad block ties lines pmn row) q := by
  refine MI.of (cc := cX5_tightest) (maxL := 7) (by decide +kernel) rfl rfl rfl (Nat.le_of_ble_eq_true rfl) ?_
  intro p e s m args below meth c A ls Q hx hb hml hts hown hK hP hD hA hS hl hret
  have hl : lv_has ls 7 [(0, .ref (ad 0)), (1, .int x1), (2, .int x2)] := hl
  have f106 := hts (.fieldLink RX5 106 "ModeDesk$Row" "values" "[I") (by decide +kernel)
  have f135 := hts (.fieldLink RX5 135 "ModeDesk$Row" "size" "I") (by decide +kernel)
  have f26 := hts (.fieldLink RX5 26 "ModeDesk" "row" "LModeDesk$Row;") (by decide +kernel)
  have iX2 : ∀ w ∈ wsX20, w ∈ wsX5_tightest := by decide +kernel
  have iX5 : ∀ w ∈ wsX50, w ∈ wsX5_tightest := by decide +kernel
  unfold mX5_tightest at h
  refine lv_iload_n hx hb dX5_tightest_0 rfl (lv_at hl 1 rfl) ?_
  refine lv_iconst (v := 1) hx hb dX5_tightest_1 (by decide) ?_
  refine lv_icmp_lt (tgt := 13) hx hb dX5_tightest_2 (by decide) (fun c1 => ?_) (fun c1 => ?_)
  · have h := e_t c1 h
    refine lv_iconst (v := (-1)) hx hb dX5_tightest_13 (by decide) ?_
    obtain rfl := e_s h
    exact hret hP hS rfl dX5_tightest_14
  · have h := e_f c1 h
    refine lv_iload_n hx hb dX5_tightest_5 rfl (lv_at hl 2 rfl) ?_
    refine lv_iconst (v := 3) hx hb dX5_tightest_6 (by decide) ?_
    obtain ⟨q2, eq2, h⟩ := e_b h
    refine xs_i (As := [.int x2, .int 3]) (rest := []) ⟨hx, hb, hml, hown, hts⟩ hl.1 (kX5_isBelow l D cA   x2 3 _ eq2) (va_cwS 2 hts gX5_tightest_X5_isBelow rfl rfl rfl (by decide +kernel) ⟨Nat.le_of_ble_eq_true rfl, Nat.le_of_ble_eq_true rfl⟩) rfl hK hP hD hS hA [] rfl (by decide +kernel) rfl (Nat.le_of_ble_eq_true rfl) dX5_tightest_7 ⟨Nat.zero_le _, Nat.zero_le _⟩ (fun H locs hP hD hS hnq2 => ?_)
    have hP : va_P D vwCl (wD_row cA ad block ties lines pmn row) H := hP
    have hD : va_D A (wD_row cA ad block ties lines pmn row) := hD
    refine lv_if_ne (tgt := 15) hx hb dX5_tightest_10 (by decide) (fun c3 => ?_) (fun c3 => ?_)
    · have h := e_t c3 h
      refine lv_iconst (v := 0) hx hb dX5_tightest_15 (by decide) ?_
      refine lv_istore_n (lv' := [(3, .int 0), (0, .ref (ad 0)), (1, .int x1), (2, .int x2)]) hx hb dX5_tightest_16 rfl hl (by decide) rfl (fun ls hl => ?_)
      refine lv_iconst (v := 0) hx hb dX5_tightest_17 (by decide) ?_
      refine lv_istore (lv' := [(4, .int 0), (3, .int 0), (0, .ref (ad 0)), (1, .int x1), (2, .int x2)]) hx hb dX5_tightest_18 hl (by decide) rfl (fun ls hl => ?_)
      refine lv_iconst (v := 0) hx hb dX5_tightest_20 (by decide) ?_
      refine lv_istore (lv' := [(5, .int 0), (4, .int 0), (3, .int 0), (0, .ref (ad 0)), (1, .int x1), (2, .int x2)]) hx hb dX5_tightest_21 hl (by decide) rfl (fun ls hl => ?_)
      have hL23 : ∀ (n : Nat) (x1 : Int32) (x2 : Int32) (x3 : Int32) (x4 : Int32) (x5 : Int32) (block : Int32) (ties : Int32) (lines : Int32) (pmn : Int32) (row : RowT) (z4 : Int32 × Int32) (ls : Array Slot) (H : Heap) (locs : List Loc), lv_has ls 7 [(0, .ref (ad 0)), (1, .int x1), (2, .int x2), (3, .int x3), (4, .int x4), (5, .int x5)] → va_P D vwCl (wD_row cA ad block ties lines pmn row) H → va_D A (wD_row cA ad block ties lines pmn row) → va_S A s.heap H locs → mX5_tightest_L23 row x1 n x3 x4 x5 = some z4 → (∀ (ls : Array Slot) (H : Heap) (locs : List Loc), lv_has ls 7 [(0, .ref (ad 0)), (2, .int x2), (3, .int z4.1), (4, .int z4.2)] → va_P D vwCl (wD_row cA ad block ties lines pmn row) H → va_D A (wD_row cA ad block ties lines pmn row) → va_S A s.heap H locs → W p l e (headSpec wsX5_tightest { frames := 1, cells := 0, slots := 0, locals := 25 }).room s m args below meth c H locs 0 0 Q (F0 m 99 ls [])) → W p l e (headSpec wsX5_tightest { frames := 1, cells := 0, slots := 0, locals := 25 }).room s m args below meth c H locs 0 0 Q (F0 m 23 ls []) := by
        intro n
        induction n with
        | zero => intro x1 x2 x3 x4 x5 block ties lines pmn row z4 ls H locs hl hP hD hS h hk23; exact e_n h
        | succ n ih23 =>
          intro x1 x2 x3 x4 x5 block ties lines pmn row z4 ls H locs hl hP hD hS h hk23
          rw [mX5_tightest_L23.eq_2] at h
          refine lv_iload hx hb dX5_tightest_23 (lv_at hl 5 rfl) ?_
          refine lv_aload_n hx hb dX5_tightest_25 rfl (lv_at hl 0 rfl) ?_
          refine va_get (D := D) (ci := 5) (v := .ref (ad 7)) (C := RX5) (T := TX5) (N := 12) hx hb hts iX5 hown hK hP 0 rfl rfl 2 (Nat.le_of_ble_eq_true rfl) f26 (fun _ h9 => h9) rfl dX5_tightest_26 ?_
          refine va_get (D := D) (ci := 2) (v := .int row.2.2) (C := RX2) (T := TX2) (N := 3) hx hb hts iX2 hown hK hP 1 rfl rfl 2 (Nat.le_of_ble_eq_true rfl) f135 (fun _ h9 => h9) rfl dX5_tightest_29 ?_
          refine lv_icmp_ge (tgt := 99) hx hb dX5_tightest_32 (by decide) (fun c5 => ?_) (fun c5 => ?_)
          · have h := e_t c5 h
            obtain rfl := e_s h
            exact hk23 _ _ _ (lv_sub hl [0, 2, 3, 4] rfl) hP hD hS
          · have h := e_f c5 h
            refine lv_aload_n hx hb dX5_tightest_35 rfl (lv_at hl 0 rfl) ?_
            refine va_get (D := D) (ci := 5) (v := .ref (ad 7)) (C := RX5) (T := TX5) (N := 12) hx hb hts iX5 hown hK hP 0 rfl rfl 2 (Nat.le_of_ble_eq_true rfl) f26 (fun _ h9 => h9) rfl dX5_tightest_36 ?_
            refine lv_aload_n hx hb dX5_tightest_39 rfl (lv_at hl 0 rfl) ?_
            refine va_get (D := D) (ci := 5) (v := .ref (ad 7)) (C := RX5) (T := TX5) (N := 12) hx hb hts iX5 hown hK hP 0 rfl rfl 2 (Nat.le_of_ble_eq_true rfl) f26 (fun _ h9 => h9) rfl dX5_tightest_40 ?_
            refine va_get (D := D) (ci := 2) (v := .ref (ad 8)) (C := RX2) (T := TX2) (N := 3) hx hb hts iX2 hown hK hP 1 rfl rfl 0 (Nat.le_of_ble_eq_true rfl) f106 (fun _ h9 => h9) rfl dX5_tightest_43 ?_
            refine lv_iload hx hb dX5_tightest_46 (lv_at hl 5 rfl) ?_
            obtain ⟨v6, ev6, nv6, h⟩ := e_rd h
            refine xa_iald hx hb hK hP 2 rfl nv6 ev6 dX5_tightest_48 ?_
            refine lv_iload hx hb dX5_tightest_49 (lv_at hl 5 rfl) ?_
            refine lv_iload_n hx hb dX5_tightest_51 rfl (lv_at hl 1 rfl) ?_
            obtain ⟨q7, eq7, h⟩ := e_b h
            refine xv_i (As := [.int v6, .int x5, .int x1]) (rest := []) (ci := 2) (b := ad 7) ⟨hx, hb, hml, hown, hts⟩ hl.1 (kX2_nth l D cA (fun i => ad (7 + i)) row v6 x5 x1 _ eq7) (cwV 3 hts gX5_tightest_X2_nth rfl rfl rfl (by decide +kernel) ⟨Nat.le_of_ble_eq_true rfl, Nat.le_of_ble_eq_true rfl⟩) rfl hK hP hD hS hA 1 rfl rfl rfl [1, 2, 3] rfl (by decide +kernel) rfl (Nat.le_of_ble_eq_true rfl) dX5_tightest_52 ⟨Nat.zero_le _, Nat.zero_le _⟩ (fun H locs hP hD hS hnq7 => ?_)
            have hP : va_P D vwCl (wD_row cA ad block ties lines pmn row) H := hP
            have hD : va_D A (wD_row cA ad block ties lines pmn row) := hD
            refine lv_istore (lv' := [(6, .int q7), (0, .ref (ad 0)), (1, .int x1), (2, .int x2), (3, .int x3), (4, .int x4), (5, .int x5)]) hx hb dX5_tightest_55 hl (by decide) rfl (fun ls hl => ?_)
            refine lv_iload hx hb dX5_tightest_57 (lv_at hl 0 rfl) ?_
            refine lv_bipush (v := (-2)) hx hb dX5_tightest_59 (by decide) ?_
            refine lv_icmp_eq (tgt := 93) hx hb dX5_tightest_61 (by decide) (fun c8 => ?_) (fun c8 => ?_)
            · have h := e_t c8 h
              refine lv_iinc (v := (x5 + 1)) (lv' := [(5, .int (x5 + 1)), (6, .int q7), (0, .ref (ad 0)), (1, .int x1), (2, .int x2), (3, .int x3), (4, .int x4)]) hx hb dX5_tightest_93 hl (k := 6) rfl rfl (by decide) rfl (fun ls hl => ?_)
              refine lv_goto (tgt := 23) hx hb dX5_tightest_96 (by decide) ?_
              exact ih23 x1 x2 x3 x4 (x5 + 1) block ties lines pmn row z4 _ _ _ (lv_sub hl [2, 3, 4, 5, 6, 0] rfl) hP hD hS h hk23
            · have h := e_f c8 h
              refine lv_iload hx hb dX5_tightest_64 (lv_at hl 5 rfl) ?_
              refine lv_if_eq (tgt := 81) hx hb dX5_tightest_66 (by decide) (fun c9 => ?_) (fun c9 => ?_)
              · have h := e_t c9 h
                refine lv_iload hx hb dX5_tightest_81 (lv_at hl 6 rfl) ?_
                refine lv_istore_n (lv' := [(3, .int x5), (6, .int q7), (0, .ref (ad 0)), (1, .int x1), (2, .int x2), (4, .int x4), (5, .int x5)]) hx hb dX5_tightest_83 rfl hl (by decide) rfl (fun ls hl => ?_)
                refine lv_iload hx hb dX5_tightest_84 (lv_at hl 1 rfl) ?_
                refine lv_iload hx hb dX5_tightest_86 (lv_at hl 6 rfl) ?_
                refine lv_isub hx hb dX5_tightest_88 ?_
                refine lv_iconst (v := 1) hx hb dX5_tightest_89 (by decide) ?_
                refine lv_iadd hx hb dX5_tightest_90 ?_
                refine lv_istore (lv' := [(4, .int ((q7 - x5) + 1)), (3, .int x5), (6, .int q7), (0, .ref (ad 0)), (1, .int x1), (2, .int x2), (5, .int x5)]) hx hb dX5_tightest_91 hl (by decide) rfl (fun ls hl => ?_)
                refine lv_iinc (v := (x5 + 1)) (lv' := [(5, .int (x5 + 1)), (4, .int ((q7 - x5) + 1)), (3, .int x5), (6, .int q7), (0, .ref (ad 0)), (1, .int x1), (2, .int x2)]) hx hb dX5_tightest_93 hl (k := 6) rfl rfl (by decide) rfl (fun ls hl => ?_)
                refine lv_goto (tgt := 23) hx hb dX5_tightest_96 (by decide) ?_
                exact ih23 x1 x2 x5 ((q7 - x5) + 1) (x5 + 1) block ties lines pmn row z4 _ _ _ (lv_sub hl [4, 5, 6, 2, 1, 0] rfl) hP hD hS h hk23
              · have h := e_f c9 h
                refine lv_iload hx hb dX5_tightest_69 (lv_at hl 0 rfl) ?_
                refine lv_iload hx hb dX5_tightest_71 (lv_at hl 6 rfl) ?_
                refine lv_isub hx hb dX5_tightest_73 ?_
                refine lv_iconst (v := 1) hx hb dX5_tightest_74 (by decide) ?_
                refine lv_iadd hx hb dX5_tightest_75 ?_
                refine lv_iload hx hb dX5_tightest_76 (lv_at hl 5 rfl) ?_
                refine lv_icmp_ge (tgt := 93) hx hb dX5_tightest_78 (by decide) (fun c10 => ?_) (fun c10 => ?_)
                · have h := e_t c10 h
                  refine lv_iinc (v := (x5 + 1)) (lv' := [(5, .int (x5 + 1)), (6, .int q7), (0, .ref (ad 0)), (1, .int x1), (2, .int x2), (3, .int x3), (4, .int x4)]) hx hb dX5_tightest_93 hl (k := 6) rfl rfl (by decide) rfl (fun ls hl => ?_)
                  refine lv_goto (tgt := 23) hx hb dX5_tightest_96 (by decide) ?_
                  exact ih23 x1 x2 x3 x4 (x5 + 1) block ties lines pmn row z4 _ _ _ (lv_sub hl [2, 3, 4, 5, 6, 0] rfl) hP hD hS h hk23
                · have h := e_f c10 h
                  refine lv_iload hx hb dX5_tightest_81 (lv_at hl 6 rfl) ?_
                  refine lv_istore_n (lv' := [(3, .int x5), (6, .int q7), (0, .ref (ad 0)), (1, .int x1), (2, .int x2), (4, .int x4), (5, .int x5)]) hx hb dX5_tightest_83 rfl hl (by decide) rfl (fun ls hl => ?_)
                  refine lv_iload hx hb dX5_tightest_84 (lv_at hl 1 rfl) ?_
                  refine lv_iload hx hb dX5_tightest_86 (lv_at hl 6 rfl) ?_
                  refine lv_isub hx hb dX5_tightest_88 ?_
                  refine lv_iconst (v := 1) hx hb dX5_tightest_89 (by decide) ?_
                  refine lv_iadd hx hb dX5_tightest_90 ?_
                  refine lv_istore (lv' := [(4, .int ((q7 - x5) + 1)), (3, .int x5), (6, .int q7), (0, .ref (ad 0)), (1, .int x1), (2, .int x2), (5, .int x5)]) hx hb dX5_tightest_91 hl (by decide) rfl (fun ls hl => ?_)
                  refine lv_iinc (v := (x5 + 1)) (lv' := [(5, .int (x5 + 1)), (4, .int ((q7 - x5) + 1)), (3, .int x5), (6, .int q7), (0, .ref (ad 0)), (1, .int x1), (2, .int x2)]) hx hb dX5_tightest_93 hl (k := 6) rfl rfl (by decide) rfl (fun ls hl => ?_)
                  refine lv_goto (tgt := 23) hx hb dX5_tightest_96 (by decide) ?_
                  exact ih23 x1 x2 x5 ((q7 - x5) + 1) (x5 + 1) block ties lines pmn row z4 _ _ _ (lv_sub hl [4, 5, 6, 2, 1, 0] rfl) hP hD hS h hk23
      obtain ⟨z11, ez11, h⟩ := e_b h
      refine hL23 FU x1 x2 0 0 0 block ties lines pmn row z11 _ _ _ (lv_sub hl [3, 4, 5, 2, 1, 0] rfl) hP hD hS ez11 (fun ls H locs hl hP hD hS => ?_)
      refine lv_aload_n hx hb dX5_tightest_99 rfl (lv_at hl 0 rfl) ?_
      refine lv_iload_n hx hb dX5_tightest_100 rfl (lv_at hl 2 rfl) ?_
      refine lv_iload hx hb dX5_tightest_101 (lv_at hl 3 rfl) ?_
      refine lv_iload_n hx hb dX5_tightest_103 rfl (lv_at hl 1 rfl) ?_
      obtain ⟨q12, eq12, h⟩ := e_b h
      refine xv_i (As := [.int z11.1, .int z11.2, .int x2]) (rest := []) (ci := 5) (b := ad 0) ⟨hx, hb, hml, hown, hts⟩ hl.1 (kX5_spanTold l D cA ad block ties lines pmn row z11.1 z11.2 x2 _ eq12) (cwV 3 hts gX5_tightest_X5_spanTold rfl rfl rfl (by decide +kernel) ⟨Nat.le_of_ble_eq_true rfl, Nat.le_of_ble_eq_true rfl⟩) rfl hK hP hD hS hA 0 rfl rfl rfl [0, 1, 2, 3] rfl (by decide +kernel) rfl (Nat.le_of_ble_eq_true rfl) dX5_tightest_104 ⟨Nat.zero_le _, Nat.zero_le _⟩ (fun H locs hP hD hS hnq12 => ?_)
      have hP : va_P D vwCl (wD_row cA ad block ties lines pmn row) H := hP
      have hD : va_D A (wD_row cA ad block ties lines pmn row) := hD
      obtain rfl := e_s h
      exact hret hP hS rfl dX5_tightest_107
    · have h := e_f (not_not_intro c3) h
      refine lv_iconst (v := (-1)) hx hb dX5_tightest_13 (by decide) ?_
      obtain rfl := e_s h
      exact hret hP hS rfl dX5_tightest_14
set_option maxHeartbeats 4000000 in
set_option maxRecDepth 100000 in
theorem kX5_widthWith (l : Launch) (D : va_G) (cA : Nat → ClassId) (ad : Nat → Nat) (block : Int32) (ties : Int32) (lines : Int32) (pmn : Int32) (row : RowT) (tally : TalT) (x1 : Int32) (x2 : Int32) (q : Int32 × TalT) (h : mX5_widthWith ties row tally x1 x2 = some q) : MI l yX5_widthWith wsX5_widthWith { frames := 2, cells := 0, slots := 0, locals := 43 } D cA .int [.ref (ad 0), .int x1, .int x2] (wD_row_tally cA ad block ties lines pmn row tally) (wD_row_tally cA ad block ties lines pmn row q.2) q.1 := by
  refine MI.of (cc := cX5_widthWith) (maxL := 4) (by decide +kernel) rfl rfl rfl (Nat.le_of_ble_eq_true rfl) ?_
  intro p e s m args below meth c A ls Q hx hb hml hts hown hK hP hD hA hS hl hret
  have hl : lv_has ls 4 [(0, .ref (ad 0)), (1, .int x1), (2, .int x2)] := hl
  have f106 := hts (.fieldLink RX5 106 "ModeDesk$Row" "values" "[I") (by decide +kernel)
  have f135 := hts (.fieldLink RX5 135 "ModeDesk$Row" "size" "I") (by decide +kernel)
  have f26 := hts (.fieldLink RX5 26 "ModeDesk" "row" "LModeDesk$Row;") (by decide +kernel)
  have f43 := hts (.fieldLink RX5 43 "ModeDesk" "tally" "LModeDesk$Tally;") (by decide +kernel)
  have f58 := hts (.fieldLink RX5 58 "ModeDesk" "ties" "I") (by decide +kernel)
  have iX2 : ∀ w ∈ wsX20, w ∈ wsX5_widthWith := by decide +kernel
  have iX5 : ∀ w ∈ wsX50, w ∈ wsX5_widthWith := by decide +kernel
  unfold mX5_widthWith at h
  refine lv_aload_n hx hb dX5_widthWith_0 rfl (lv_at hl 0 rfl) ?_
  refine va_get (D := D) (ci := 5) (v := .ref (ad 51)) (C := RX5) (T := TX5) (N := 12) hx hb hts iX5 hown hK hP 0 rfl rfl 5 (Nat.le_of_ble_eq_true rfl) f43 (fun _ h9 => h9) rfl dX5_widthWith_1 ?_
  refine lv_aload_n hx hb dX5_widthWith_4 rfl (lv_at hl 0 rfl) ?_
  refine va_get (D := D) (ci := 5) (v := .int ties) (C := RX5) (T := TX5) (N := 12) hx hb hts iX5 hown hK hP 0 rfl rfl 9 (Nat.le_of_ble_eq_true rfl) f58 (fun _ h9 => h9) rfl dX5_widthWith_5 ?_
  obtain ⟨q1, eq1, h⟩ := e_b h
  refine xv_v (As := [.int ties]) (rest := []) (ci := 3) (b := ad 51) ⟨hx, hb, hml, hown, hts⟩ hl.1 (kX3_begin l D cA (fun i => ad (51 + i)) tally ties _ eq1) (cwV 1 hts gX5_widthWith_X3_begin rfl rfl rfl (by decide +kernel) ⟨Nat.le_of_ble_eq_true rfl, Nat.le_of_ble_eq_true rfl⟩) rfl hK hP hD hS hA 4 rfl rfl rfl [4, 5, 6, 7, 8] rfl (by decide +kernel) rfl (Nat.le_of_ble_eq_true rfl) dX5_widthWith_8 ⟨Nat.zero_le _, Nat.zero_le _⟩ (fun H locs hP hD hS => ?_)
  have hP : va_P D vwCl (wD_row_tally cA ad block ties lines pmn row q1) H := hP
  have hD : va_D A (wD_row_tally cA ad block ties lines pmn row q1) := hD
  refine lv_iload_n hx hb dX5_widthWith_11 rfl (lv_at hl 2 rfl) ?_
  refine lv_istore_n (lv' := [(3, .int x2), (0, .ref (ad 0)), (1, .int x1), (2, .int x2)]) hx hb dX5_widthWith_12 rfl hl (by decide) rfl (fun ls hl => ?_)
  have hL13 : ∀ (n : Nat) (x1 : Int32) (x2 : Int32) (x3 : Int32) (tally : TalT) (ls : Array Slot) (H : Heap) (locs : List Loc), lv_has ls 4 [(0, .ref (ad 0)), (1, .int x1), (2, .int x2), (3, .int x3)] → va_P D vwCl (wD_row_tally cA ad block ties lines pmn row tally) H → va_D A (wD_row_tally cA ad block ties lines pmn row tally) → va_S A s.heap H locs → mX5_widthWith_L13 row x1 x2 n x3 tally = some q → W p l e (headSpec wsX5_widthWith { frames := 2, cells := 0, slots := 0, locals := 43 }).room s m args below meth c H locs 0 0 Q (F0 m 13 ls []) := by
    intro n
    induction n with
    | zero => intro x1 x2 x3 tally ls H locs hl hP hD hS h; exact e_n h
    | succ n ih13 =>
      intro x1 x2 x3 tally ls H locs hl hP hD hS h
      rw [mX5_widthWith_L13.eq_2] at h
      refine lv_iload_n hx hb dX5_widthWith_13 rfl (lv_at hl 3 rfl) ?_
      refine lv_aload_n hx hb dX5_widthWith_14 rfl (lv_at hl 0 rfl) ?_
      refine va_get (D := D) (ci := 5) (v := .ref (ad 7)) (C := RX5) (T := TX5) (N := 12) hx hb hts iX5 hown hK hP 0 rfl rfl 2 (Nat.le_of_ble_eq_true rfl) f26 (fun _ h9 => h9) rfl dX5_widthWith_15 ?_
      refine va_get (D := D) (ci := 2) (v := .int row.2.2) (C := RX2) (T := TX2) (N := 3) hx hb hts iX2 hown hK hP 1 rfl rfl 2 (Nat.le_of_ble_eq_true rfl) f135 (fun _ h9 => h9) rfl dX5_widthWith_18 ?_
      refine lv_icmp_ge (tgt := 63) hx hb dX5_widthWith_21 (by decide) (fun c3 => ?_) (fun c3 => ?_)
      · have h := e_t c3 h
        refine lv_bipush (v := 121) hx hb dX5_widthWith_63 (by decide) ?_
        obtain rfl := e_s h
        exact hret hP hS rfl dX5_widthWith_65
      · have h := e_f c3 h
        refine lv_aload_n hx hb dX5_widthWith_24 rfl (lv_at hl 0 rfl) ?_
        refine va_get (D := D) (ci := 5) (v := .ref (ad 51)) (C := RX5) (T := TX5) (N := 12) hx hb hts iX5 hown hK hP 0 rfl rfl 5 (Nat.le_of_ble_eq_true rfl) f43 (fun _ h9 => h9) rfl dX5_widthWith_25 ?_
        refine lv_aload_n hx hb dX5_widthWith_28 rfl (lv_at hl 0 rfl) ?_
        refine va_get (D := D) (ci := 5) (v := .ref (ad 7)) (C := RX5) (T := TX5) (N := 12) hx hb hts iX5 hown hK hP 0 rfl rfl 2 (Nat.le_of_ble_eq_true rfl) f26 (fun _ h9 => h9) rfl dX5_widthWith_29 ?_
        refine va_get (D := D) (ci := 2) (v := .ref (ad 8)) (C := RX2) (T := TX2) (N := 3) hx hb hts iX2 hown hK hP 1 rfl rfl 0 (Nat.le_of_ble_eq_true rfl) f106 (fun _ h9 => h9) rfl dX5_widthWith_32 ?_
        refine lv_iload_n hx hb dX5_widthWith_35 rfl (lv_at hl 3 rfl) ?_
        obtain ⟨v4, ev4, nv4, h⟩ := e_rd h
        refine xa_iald hx hb hK hP 2 rfl nv4 ev4 dX5_widthWith_36 ?_
        obtain ⟨q5, eq5, h⟩ := e_b h
        refine xv_v (As := [.int v4]) (rest := []) (ci := 3) (b := ad 51) ⟨hx, hb, hml, hown, hts⟩ hl.1 (kX3_push l D cA (fun i => ad (51 + i)) tally v4 _ eq5) (cwV 1 hts gX5_widthWith_X3_push rfl rfl rfl (by decide +kernel) ⟨Nat.le_of_ble_eq_true rfl, Nat.le_of_ble_eq_true rfl⟩) rfl hK hP hD hS hA 4 rfl rfl rfl [4, 5, 6, 7, 8] rfl (by decide +kernel) rfl (Nat.le_of_ble_eq_true rfl) dX5_widthWith_37 ⟨Nat.zero_le _, Nat.zero_le _⟩ (fun H locs hP hD hS => ?_)
        have hP : va_P D vwCl (wD_row_tally cA ad block ties lines pmn row q5) H := hP
        have hD : va_D A (wD_row_tally cA ad block ties lines pmn row q5) := hD
        refine lv_aload_n hx hb dX5_widthWith_40 rfl (lv_at hl 0 rfl) ?_
        refine va_get (D := D) (ci := 5) (v := .ref (ad 51)) (C := RX5) (T := TX5) (N := 12) hx hb hts iX5 hown hK hP 0 rfl rfl 5 (Nat.le_of_ble_eq_true rfl) f43 (fun _ h9 => h9) rfl dX5_widthWith_41 ?_
        obtain ⟨q6, eq6, h⟩ := e_b h
        refine xv_i (As := []) (rest := []) (ci := 3) (b := ad 51) ⟨hx, hb, hml, hown, hts⟩ hl.1 (kX3_most l D cA (fun i => ad (51 + i)) q5  _ eq6) (cwV 0 hts gX5_widthWith_X3_most rfl rfl rfl (by decide +kernel) ⟨Nat.le_of_ble_eq_true rfl, Nat.le_of_ble_eq_true rfl⟩) rfl hK hP hD hS hA 4 rfl rfl rfl [4, 5, 6, 7, 8] rfl (by decide +kernel) rfl (Nat.le_of_ble_eq_true rfl) dX5_widthWith_44 ⟨Nat.zero_le _, Nat.zero_le _⟩ (fun H locs hP hD hS hnq6 => ?_)
        have hP : va_P D vwCl (wD_row_tally cA ad block ties lines pmn row q5) H := hP
        have hD : va_D A (wD_row_tally cA ad block ties lines pmn row q5) := hD
        refine lv_iload_n hx hb dX5_widthWith_47 rfl (lv_at hl 1 rfl) ?_
        refine lv_icmp_lt (tgt := 57) hx hb dX5_widthWith_48 (by decide) (fun c7 => ?_) (fun c7 => ?_)
        · have h := e_t c7 h
          refine lv_iinc (v := (x3 + 1)) (lv' := [(3, .int (x3 + 1)), (0, .ref (ad 0)), (1, .int x1), (2, .int x2)]) hx hb dX5_widthWith_57 hl (k := 3) rfl rfl (by decide) rfl (fun ls hl => ?_)
          refine lv_goto (tgt := 13) hx hb dX5_widthWith_60 (by decide) ?_
          exact ih13 x1 x2 (x3 + 1) q5 _ _ _ (lv_sub hl [1, 2, 3, 0] rfl) hP hD hS h
        · have h := e_f c7 h
          refine lv_iload_n hx hb dX5_widthWith_51 rfl (lv_at hl 3 rfl) ?_
          refine lv_iload_n hx hb dX5_widthWith_52 rfl (lv_at hl 2 rfl) ?_
          refine lv_isub hx hb dX5_widthWith_53 ?_
          refine lv_iconst (v := 1) hx hb dX5_widthWith_54 (by decide) ?_
          refine lv_iadd hx hb dX5_widthWith_55 ?_
          obtain rfl := e_s h
          exact hret hP hS rfl dX5_widthWith_56
  exact hL13 FU x1 x2 x2 q1 _ _ _ (lv_sub hl [1, 2, 3, 0] rfl) hP hD hS h
set_option maxHeartbeats 4000000 in
set_option maxRecDepth 100000 in
theorem kX5_wide (l : Launch) (D : va_G) (cA : Nat → ClassId) (ad : Nat → Nat) (block : Int32) (ties : Int32) (lines : Int32) (pmn : Int32) (row : RowT) (tally : TalT) (ahead : Nat → Int32) (x1 : Int32) (q : Int32 × TalT × (Nat → Int32)) (h : mX5_wide ties row tally ahead x1 = some q) : MI l yX5_wide wsX5_wide { frames := 3, cells := 0, slots := 0, locals := 66 } D cA .int [.ref (ad 0), .int x1] (wD_row_tally_ahead cA ad block ties lines pmn row tally ahead) (wD_row_tally_ahead cA ad block ties lines pmn row q.2.1 q.2.2) q.1 := by
  refine MI.of (cc := cX5_wide) (maxL := 4) (by decide +kernel) rfl rfl rfl (Nat.le_of_ble_eq_true rfl) ?_
  intro p e s m args below meth c A ls Q hx hb hml hts hown hK hP hD hA hS hl hret
  have hl : lv_has ls 4 [(0, .ref (ad 0)), (1, .int x1)] := hl
  have f135 := hts (.fieldLink RX5 135 "ModeDesk$Row" "size" "I") (by decide +kernel)
  have f26 := hts (.fieldLink RX5 26 "ModeDesk" "row" "LModeDesk$Row;") (by decide +kernel)
  have f50 := hts (.fieldLink RX5 50 "ModeDesk" "ahead" "[I") (by decide +kernel)
  have iX2 : ∀ w ∈ wsX20, w ∈ wsX5_wide := by decide +kernel
  have iX5 : ∀ w ∈ wsX50, w ∈ wsX5_wide := by decide +kernel
  unfold mX5_wide at h
  refine lv_iload_n hx hb dX5_wide_0 rfl (lv_at hl 1 rfl) ?_
  refine lv_iconst (v := 1) hx hb dX5_wide_1 (by decide) ?_
  refine lv_icmp_ge (tgt := 7) hx hb dX5_wide_2 (by decide) (fun c1 => ?_) (fun c1 => ?_)
  · have h := e_t c1 h
    refine lv_iconst (v := 0) hx hb dX5_wide_7 (by decide) ?_
    refine lv_istore_n (lv' := [(2, .int 0), (0, .ref (ad 0)), (1, .int x1)]) hx hb dX5_wide_8 rfl hl (by decide) rfl (fun ls hl => ?_)
    have hL9 : ∀ (n : Nat) (x1 : Int32) (x2 : Int32) (block : Int32) (ties : Int32) (lines : Int32) (pmn : Int32) (row : RowT) (tally : TalT) (ahead : Nat → Int32) (z2 : TalT × (Nat → Int32)) (ls : Array Slot) (H : Heap) (locs : List Loc), lv_has ls 4 [(0, .ref (ad 0)), (1, .int x1), (2, .int x2)] → va_P D vwCl (wD_row_tally_ahead cA ad block ties lines pmn row tally ahead) H → va_D A (wD_row_tally_ahead cA ad block ties lines pmn row tally ahead) → va_S A s.heap H locs → mX5_wide_L9 ties row x1 n x2 tally ahead = some z2 → (∀ (ls : Array Slot) (H : Heap) (locs : List Loc), lv_has ls 4 [(0, .ref (ad 0))] → va_P D vwCl (wD_row_tally_ahead cA ad block ties lines pmn row z2.1 z2.2) H → va_D A (wD_row_tally_ahead cA ad block ties lines pmn row z2.1 z2.2) → va_S A s.heap H locs → W p l e (headSpec wsX5_wide { frames := 3, cells := 0, slots := 0, locals := 66 }).room s m args below meth c H locs 0 0 Q (F0 m 38 ls [])) → W p l e (headSpec wsX5_wide { frames := 3, cells := 0, slots := 0, locals := 66 }).room s m args below meth c H locs 0 0 Q (F0 m 9 ls []) := by
      intro n
      induction n with
      | zero => intro x1 x2 block ties lines pmn row tally ahead z2 ls H locs hl hP hD hS h hk9; exact e_n h
      | succ n ih9 =>
        intro x1 x2 block ties lines pmn row tally ahead z2 ls H locs hl hP hD hS h hk9
        rw [mX5_wide_L9.eq_2] at h
        refine lv_iload_n hx hb dX5_wide_9 rfl (lv_at hl 2 rfl) ?_
        refine lv_aload_n hx hb dX5_wide_10 rfl (lv_at hl 0 rfl) ?_
        refine va_get (D := D) (ci := 5) (v := .ref (ad 7)) (C := RX5) (T := TX5) (N := 12) hx hb hts iX5 hown hK hP 0 rfl rfl 2 (Nat.le_of_ble_eq_true rfl) f26 (fun _ h9 => h9) rfl dX5_wide_11 ?_
        refine va_get (D := D) (ci := 2) (v := .int row.2.2) (C := RX2) (T := TX2) (N := 3) hx hb hts iX2 hown hK hP 1 rfl rfl 2 (Nat.le_of_ble_eq_true rfl) f135 (fun _ h9 => h9) rfl dX5_wide_14 ?_
        refine lv_icmp_ge (tgt := 38) hx hb dX5_wide_17 (by decide) (fun c3 => ?_) (fun c3 => ?_)
        · have h := e_t c3 h
          obtain rfl := e_s h
          exact hk9 _ _ _ (lv_sub hl [0] rfl) hP hD hS
        · have h := e_f c3 h
          refine lv_aload_n hx hb dX5_wide_20 rfl (lv_at hl 0 rfl) ?_
          refine va_get (D := D) (ci := 5) (v := .ref (ad 61)) (C := RX5) (T := TX5) (N := 12) hx hb hts iX5 hown hK hP 0 rfl rfl 7 (Nat.le_of_ble_eq_true rfl) f50 (fun _ h9 => h9) rfl dX5_wide_21 ?_
          refine lv_iload_n hx hb dX5_wide_24 rfl (lv_at hl 2 rfl) ?_
          refine lv_aload_n hx hb dX5_wide_25 rfl (lv_at hl 0 rfl) ?_
          refine lv_iload_n hx hb dX5_wide_26 rfl (lv_at hl 1 rfl) ?_
          refine lv_iload_n hx hb dX5_wide_27 rfl (lv_at hl 2 rfl) ?_
          obtain ⟨q4, eq4, h⟩ := e_b h
          refine xv_i (As := [.int x1, .int x2]) (rest := [.int x2, .ref (ad 61)]) (ci := 5) (b := ad 0) ⟨hx, hb, hml, hown, hts⟩ hl.1 (kX5_widthWith l D cA ad block ties lines pmn row tally x1 x2 _ eq4) (cwV 2 hts gX5_wide_X5_widthWith rfl rfl rfl (by decide +kernel) ⟨Nat.le_of_ble_eq_true rfl, Nat.le_of_ble_eq_true rfl⟩) rfl hK hP hD hS hA 0 rfl rfl rfl [0, 1, 2, 3, 4, 5, 6, 7, 8] rfl (by decide +kernel) rfl (Nat.le_of_ble_eq_true rfl) dX5_wide_28 ⟨Nat.zero_le _, Nat.zero_le _⟩ (fun H locs hP hD hS hnq4 => ?_)
          have hP : va_P D vwCl (wD_row_tally_ahead cA ad block ties lines pmn row q4.2 ahead) H := hP
          have hD : va_D A (wD_row_tally_ahead cA ad block ties lines pmn row q4.2 ahead) := hD
          obtain ⟨a5, ea5, na5, h⟩ := e_wr h
          refine xa_iast hx hb hK hP hD hS 9 rfl na5 ea5 dX5_wide_31 (fun H locs hP hD hS => ?_)
          have hP : va_P D vwCl (wD_row_tally_ahead cA ad block ties lines pmn row q4.2 a5) H := hP
          have hD : va_D A (wD_row_tally_ahead cA ad block ties lines pmn row q4.2 a5) := hD
          refine lv_iinc (v := (x2 + 1)) (lv' := [(2, .int (x2 + 1)), (0, .ref (ad 0)), (1, .int x1)]) hx hb dX5_wide_32 hl (k := 2) rfl rfl (by decide) rfl (fun ls hl => ?_)
          refine lv_goto (tgt := 9) hx hb dX5_wide_35 (by decide) ?_
          exact ih9 x1 (x2 + 1) block ties lines pmn row q4.2 a5 z2 _ _ _ (lv_sub hl [1, 2, 0] rfl) hP hD hS h hk9
    obtain ⟨z6, ez6, h⟩ := e_b h
    refine hL9 FU x1 0 block ties lines pmn row tally ahead z6 _ _ _ (lv_sub hl [1, 2, 0] rfl) hP hD hS ez6 (fun ls H locs hl hP hD hS => ?_)
    refine lv_iconst (v := 1) hx hb dX5_wide_38 (by decide) ?_
    refine lv_istore_n (lv' := [(2, .int 1), (0, .ref (ad 0))]) hx hb dX5_wide_39 rfl hl (by decide) rfl (fun ls hl => ?_)
    have hL40 : ∀ (n : Nat) (x2 : Int32) (ls : Array Slot) (H : Heap) (locs : List Loc), lv_has ls 4 [(0, .ref (ad 0)), (2, .int x2)] → va_P D vwCl (wD_row_tally_ahead cA ad block ties lines pmn row z6.1 z6.2) H → va_D A (wD_row_tally_ahead cA ad block ties lines pmn row z6.1 z6.2) → va_S A s.heap H locs → mX5_wide_L40 row z6.1 z6.2 n x2 = some q → W p l e (headSpec wsX5_wide { frames := 3, cells := 0, slots := 0, locals := 66 }).room s m args below meth c H locs 0 0 Q (F0 m 40 ls []) := by
      intro n
      induction n with
      | zero => intro x2 ls H locs hl hP hD hS h; exact e_n h
      | succ n ih40 =>
        intro x2 ls H locs hl hP hD hS h
        rw [mX5_wide_L40.eq_2] at h
        refine lv_iload_n hx hb dX5_wide_40 rfl (lv_at hl 1 rfl) ?_
        refine lv_aload_n hx hb dX5_wide_41 rfl (lv_at hl 0 rfl) ?_
        refine va_get (D := D) (ci := 5) (v := .ref (ad 7)) (C := RX5) (T := TX5) (N := 12) hx hb hts iX5 hown hK hP 0 rfl rfl 2 (Nat.le_of_ble_eq_true rfl) f26 (fun _ h9 => h9) rfl dX5_wide_42 ?_
        refine va_get (D := D) (ci := 2) (v := .int row.2.2) (C := RX2) (T := TX2) (N := 3) hx hb hts iX2 hown hK hP 1 rfl rfl 2 (Nat.le_of_ble_eq_true rfl) f135 (fun _ h9 => h9) rfl dX5_wide_45 ?_
        refine lv_icmp_gt (tgt := 103) hx hb dX5_wide_48 (by decide) (fun c8 => ?_) (fun c8 => ?_)
        · have h := e_t c8 h
          refine lv_bipush (v := (-2)) hx hb dX5_wide_103 (by decide) ?_
          obtain rfl := e_s h
          exact hret hP hS rfl dX5_wide_105
        · have h := e_f c8 h
          refine lv_iconst (v := 0) hx hb dX5_wide_51 (by decide) ?_
          refine lv_istore_n (lv' := [(3, .int 0), (0, .ref (ad 0)), (2, .int x2)]) hx hb dX5_wide_52 rfl hl (by decide) rfl (fun ls hl => ?_)
          have hL53 : ∀ (n : Nat) (x2 : Int32) (x3 : Int32) (block : Int32) (ties : Int32) (lines : Int32) (pmn : Int32) (row : RowT) (tally : TalT) (ahead : Nat → Int32) (z9 : Int32) (ls : Array Slot) (H : Heap) (locs : List Loc), lv_has ls 4 [(0, .ref (ad 0)), (2, .int x2), (3, .int x3)] → va_P D vwCl (wD_row_tally_ahead cA ad block ties lines pmn row tally ahead) H → va_D A (wD_row_tally_ahead cA ad block ties lines pmn row tally ahead) → va_S A s.heap H locs → mX5_wide_L53 row ahead x2 n x3 = some z9 → (∀ (ls : Array Slot) (H : Heap) (locs : List Loc), lv_has ls 4 [(0, .ref (ad 0)), (2, .int x2), (3, .int z9)] → va_P D vwCl (wD_row_tally_ahead cA ad block ties lines pmn row tally ahead) H → va_D A (wD_row_tally_ahead cA ad block ties lines pmn row tally ahead) → va_S A s.heap H locs → W p l e (headSpec wsX5_wide { frames := 3, cells := 0, slots := 0, locals := 66 }).room s m args below meth c H locs 0 0 Q (F0 m 82 ls [])) → W p l e (headSpec wsX5_wide { frames := 3, cells := 0, slots := 0, locals := 66 }).room s m args below meth c H locs 0 0 Q (F0 m 53 ls []) := by
            intro n
            induction n with
            | zero => intro x2 x3 block ties lines pmn row tally ahead z9 ls H locs hl hP hD hS h hk53; exact e_n h
            | succ n ih53 =>
              intro x2 x3 block ties lines pmn row tally ahead z9 ls H locs hl hP hD hS h hk53
              rw [mX5_wide_L53.eq_2] at h
              refine lv_iload_n hx hb dX5_wide_53 rfl (lv_at hl 2 rfl) ?_
              refine lv_aload_n hx hb dX5_wide_54 rfl (lv_at hl 0 rfl) ?_
              refine va_get (D := D) (ci := 5) (v := .ref (ad 7)) (C := RX5) (T := TX5) (N := 12) hx hb hts iX5 hown hK hP 0 rfl rfl 2 (Nat.le_of_ble_eq_true rfl) f26 (fun _ h9 => h9) rfl dX5_wide_55 ?_
              refine va_get (D := D) (ci := 2) (v := .int row.2.2) (C := RX2) (T := TX2) (N := 3) hx hb hts iX2 hown hK hP 1 rfl rfl 2 (Nat.le_of_ble_eq_true rfl) f135 (fun _ h9 => h9) rfl dX5_wide_58 ?_
              refine lv_iload_n hx hb dX5_wide_61 rfl (lv_at hl 1 rfl) ?_
              refine lv_isub hx hb dX5_wide_62 ?_
              refine lv_icmp_gt (tgt := 82) hx hb dX5_wide_63 (by decide) (fun c10 => ?_) (fun c10 => ?_)
              · have h := e_t c10 h
                obtain rfl := e_s h
                exact hk53 _ _ _ (lv_sub hl [0, 1, 2] rfl) hP hD hS
              · have h := e_f c10 h
                refine lv_aload_n hx hb dX5_wide_66 rfl (lv_at hl 0 rfl) ?_
                refine va_get (D := D) (ci := 5) (v := .ref (ad 61)) (C := RX5) (T := TX5) (N := 12) hx hb hts iX5 hown hK hP 0 rfl rfl 7 (Nat.le_of_ble_eq_true rfl) f50 (fun _ h9 => h9) rfl dX5_wide_67 ?_
                refine lv_iload_n hx hb dX5_wide_70 rfl (lv_at hl 2 rfl) ?_
                obtain ⟨v11, ev11, nv11, h⟩ := e_rd h
                refine xa_iald hx hb hK hP 9 rfl nv11 ev11 dX5_wide_71 ?_
                refine lv_iload_n hx hb dX5_wide_72 rfl (lv_at hl 1 rfl) ?_
                refine lv_icmp_gt (tgt := 82) hx hb dX5_wide_73 (by decide) (fun c12 => ?_) (fun c12 => ?_)
                · have h := e_t c12 h
                  obtain rfl := e_s h
                  exact hk53 _ _ _ (lv_sub hl [0, 1, 2] rfl) hP hD hS
                · have h := e_f c12 h
                  refine lv_iinc (v := (x3 + 1)) (lv' := [(3, .int (x3 + 1)), (0, .ref (ad 0)), (2, .int x2)]) hx hb dX5_wide_76 hl (k := 2) rfl rfl (by decide) rfl (fun ls hl => ?_)
                  refine lv_goto (tgt := 53) hx hb dX5_wide_79 (by decide) ?_
                  exact ih53 x2 (x3 + 1) block ties lines pmn row tally ahead z9 _ _ _ (lv_sub hl [1, 2, 0] rfl) hP hD hS h hk53
          obtain ⟨z13, ez13, h⟩ := e_b h
          refine hL53 FU x2 0 block ties lines pmn row z6.1 z6.2 z13 _ _ _ (lv_sub hl [1, 2, 0] rfl) hP hD hS ez13 (fun ls H locs hl hP hD hS => ?_)
          refine lv_iload_n hx hb dX5_wide_82 rfl (lv_at hl 2 rfl) ?_
          refine lv_aload_n hx hb dX5_wide_83 rfl (lv_at hl 0 rfl) ?_
          refine va_get (D := D) (ci := 5) (v := .ref (ad 7)) (C := RX5) (T := TX5) (N := 12) hx hb hts iX5 hown hK hP 0 rfl rfl 2 (Nat.le_of_ble_eq_true rfl) f26 (fun _ h9 => h9) rfl dX5_wide_84 ?_
          refine va_get (D := D) (ci := 2) (v := .int row.2.2) (C := RX2) (T := TX2) (N := 3) hx hb hts iX2 hown hK hP 1 rfl rfl 2 (Nat.le_of_ble_eq_true rfl) f135 (fun _ h9 => h9) rfl dX5_wide_87 ?_
          refine lv_iload_n hx hb dX5_wide_90 rfl (lv_at hl 1 rfl) ?_
          refine lv_isub hx hb dX5_wide_91 ?_
          refine lv_icmp_le (tgt := 97) hx hb dX5_wide_92 (by decide) (fun c14 => ?_) (fun c14 => ?_)
          · have h := e_t c14 h
            refine lv_iinc (v := (x2 + 1)) (lv' := [(2, .int (x2 + 1)), (0, .ref (ad 0)), (3, .int z13)]) hx hb dX5_wide_97 hl (k := 1) rfl rfl (by decide) rfl (fun ls hl => ?_)
            refine lv_goto (tgt := 40) hx hb dX5_wide_100 (by decide) ?_
            exact ih40 (x2 + 1) _ _ _ (lv_sub hl [1, 0] rfl) hP hD hS h
          · have h := e_f c14 h
            refine lv_iload_n hx hb dX5_wide_95 rfl (lv_at hl 1 rfl) ?_
            obtain rfl := e_s h
            exact hret hP hS rfl dX5_wide_96
    exact hL40 FU 1 _ _ _ (lv_sub hl [1, 0] rfl) hP hD hS h
  · have h := e_f c1 h
    refine lv_iconst (v := (-1)) hx hb dX5_wide_5 (by decide) ?_
    obtain rfl := e_s h
    exact hret hP hS rfl dX5_wide_6
set_option maxHeartbeats 4000000 in
set_option maxRecDepth 100000 in
theorem kX5_behindPart (l : Launch) (D : va_G) (cA : Nat → ClassId) (ad : Nat → Nat) (block : Int32) (ties : Int32) (lines : Int32) (pmn : Int32) (row : RowT) (tally : TalT) (ahead : Nat → Int32) (x1 : Int32) (q : Int32 × TalT) (h : mX5_behindPart ties row tally ahead x1 = some q) : MI l yX5_behindPart wsX5_behindPart { frames := 2, cells := 0, slots := 0, locals := 43 } D cA .int [.ref (ad 0), .int x1] (wD_row_tally_ahead cA ad block ties lines pmn row tally ahead) (wD_row_tally_ahead cA ad block ties lines pmn row q.2 ahead) q.1 := by
  refine MI.of (cc := cX5_behindPart) (maxL := 3) (by decide +kernel) rfl rfl rfl (Nat.le_of_ble_eq_true rfl) ?_
  intro p e s m args below meth c A ls Q hx hb hml hts hown hK hP hD hA hS hl hret
  have hl : lv_has ls 3 [(0, .ref (ad 0)), (1, .int x1)] := hl
  have f106 := hts (.fieldLink RX5 106 "ModeDesk$Row" "values" "[I") (by decide +kernel)
  have f135 := hts (.fieldLink RX5 135 "ModeDesk$Row" "size" "I") (by decide +kernel)
  have f26 := hts (.fieldLink RX5 26 "ModeDesk" "row" "LModeDesk$Row;") (by decide +kernel)
  have f43 := hts (.fieldLink RX5 43 "ModeDesk" "tally" "LModeDesk$Tally;") (by decide +kernel)
  have f50 := hts (.fieldLink RX5 50 "ModeDesk" "ahead" "[I") (by decide +kernel)
  have f58 := hts (.fieldLink RX5 58 "ModeDesk" "ties" "I") (by decide +kernel)
  have iX2 : ∀ w ∈ wsX20, w ∈ wsX5_behindPart := by decide +kernel
  have iX5 : ∀ w ∈ wsX50, w ∈ wsX5_behindPart := by decide +kernel
  unfold mX5_behindPart at h
  refine lv_aload_n hx hb dX5_behindPart_0 rfl (lv_at hl 0 rfl) ?_
  refine va_get (D := D) (ci := 5) (v := .ref (ad 51)) (C := RX5) (T := TX5) (N := 12) hx hb hts iX5 hown hK hP 0 rfl rfl 5 (Nat.le_of_ble_eq_true rfl) f43 (fun _ h9 => h9) rfl dX5_behindPart_1 ?_
  refine lv_aload_n hx hb dX5_behindPart_4 rfl (lv_at hl 0 rfl) ?_
  refine va_get (D := D) (ci := 5) (v := .int ties) (C := RX5) (T := TX5) (N := 12) hx hb hts iX5 hown hK hP 0 rfl rfl 9 (Nat.le_of_ble_eq_true rfl) f58 (fun _ h9 => h9) rfl dX5_behindPart_5 ?_
  obtain ⟨q1, eq1, h⟩ := e_b h
  refine xv_v (As := [.int ties]) (rest := []) (ci := 3) (b := ad 51) ⟨hx, hb, hml, hown, hts⟩ hl.1 (kX3_begin l D cA (fun i => ad (51 + i)) tally ties _ eq1) (cwV 1 hts gX5_behindPart_X3_begin rfl rfl rfl (by decide +kernel) ⟨Nat.le_of_ble_eq_true rfl, Nat.le_of_ble_eq_true rfl⟩) rfl hK hP hD hS hA 4 rfl rfl rfl [4, 5, 6, 7, 8] rfl (by decide +kernel) rfl (Nat.le_of_ble_eq_true rfl) dX5_behindPart_8 ⟨Nat.zero_le _, Nat.zero_le _⟩ (fun H locs hP hD hS => ?_)
  have hP : va_P D vwCl (wD_row_tally_ahead cA ad block ties lines pmn row q1 ahead) H := hP
  have hD : va_D A (wD_row_tally_ahead cA ad block ties lines pmn row q1 ahead) := hD
  refine lv_iload_n hx hb dX5_behindPart_11 rfl (lv_at hl 1 rfl) ?_
  refine lv_istore_n (lv' := [(2, .int x1), (0, .ref (ad 0)), (1, .int x1)]) hx hb dX5_behindPart_12 rfl hl (by decide) rfl (fun ls hl => ?_)
  have hL13 : ∀ (n : Nat) (x1 : Int32) (x2 : Int32) (tally : TalT) (ls : Array Slot) (H : Heap) (locs : List Loc), lv_has ls 3 [(0, .ref (ad 0)), (1, .int x1), (2, .int x2)] → va_P D vwCl (wD_row_tally_ahead cA ad block ties lines pmn row tally ahead) H → va_D A (wD_row_tally_ahead cA ad block ties lines pmn row tally ahead) → va_S A s.heap H locs → mX5_behindPart_L13 row ahead x1 n x2 tally = some q → W p l e (headSpec wsX5_behindPart { frames := 2, cells := 0, slots := 0, locals := 43 }).room s m args below meth c H locs 0 0 Q (F0 m 13 ls []) := by
    intro n
    induction n with
    | zero => intro x1 x2 tally ls H locs hl hP hD hS h; exact e_n h
    | succ n ih13 =>
      intro x1 x2 tally ls H locs hl hP hD hS h
      rw [mX5_behindPart_L13.eq_2] at h
      refine lv_iload_n hx hb dX5_behindPart_13 rfl (lv_at hl 2 rfl) ?_
      refine lv_aload_n hx hb dX5_behindPart_14 rfl (lv_at hl 0 rfl) ?_
      refine va_get (D := D) (ci := 5) (v := .ref (ad 7)) (C := RX5) (T := TX5) (N := 12) hx hb hts iX5 hown hK hP 0 rfl rfl 2 (Nat.le_of_ble_eq_true rfl) f26 (fun _ h9 => h9) rfl dX5_behindPart_15 ?_
      refine va_get (D := D) (ci := 2) (v := .int row.2.2) (C := RX2) (T := TX2) (N := 3) hx hb hts iX2 hown hK hP 1 rfl rfl 2 (Nat.le_of_ble_eq_true rfl) f135 (fun _ h9 => h9) rfl dX5_behindPart_18 ?_
      refine lv_icmp_ge (tgt := 79) hx hb dX5_behindPart_21 (by decide) (fun c3 => ?_) (fun c3 => ?_)
      · have h := e_t c3 h
        refine lv_aload_n hx hb dX5_behindPart_79 rfl (lv_at hl 0 rfl) ?_
        refine va_get (D := D) (ci := 5) (v := .ref (ad 7)) (C := RX5) (T := TX5) (N := 12) hx hb hts iX5 hown hK hP 0 rfl rfl 2 (Nat.le_of_ble_eq_true rfl) f26 (fun _ h9 => h9) rfl dX5_behindPart_80 ?_
        refine va_get (D := D) (ci := 2) (v := .int row.2.2) (C := RX2) (T := TX2) (N := 3) hx hb hts iX2 hown hK hP 1 rfl rfl 2 (Nat.le_of_ble_eq_true rfl) f135 (fun _ h9 => h9) rfl dX5_behindPart_83 ?_
        obtain rfl := e_s h
        exact hret hP hS rfl dX5_behindPart_86
      · have h := e_f c3 h
        refine lv_aload_n hx hb dX5_behindPart_24 rfl (lv_at hl 0 rfl) ?_
        refine va_get (D := D) (ci := 5) (v := .ref (ad 51)) (C := RX5) (T := TX5) (N := 12) hx hb hts iX5 hown hK hP 0 rfl rfl 5 (Nat.le_of_ble_eq_true rfl) f43 (fun _ h9 => h9) rfl dX5_behindPart_25 ?_
        refine lv_aload_n hx hb dX5_behindPart_28 rfl (lv_at hl 0 rfl) ?_
        refine va_get (D := D) (ci := 5) (v := .ref (ad 7)) (C := RX5) (T := TX5) (N := 12) hx hb hts iX5 hown hK hP 0 rfl rfl 2 (Nat.le_of_ble_eq_true rfl) f26 (fun _ h9 => h9) rfl dX5_behindPart_29 ?_
        refine va_get (D := D) (ci := 2) (v := .ref (ad 8)) (C := RX2) (T := TX2) (N := 3) hx hb hts iX2 hown hK hP 1 rfl rfl 0 (Nat.le_of_ble_eq_true rfl) f106 (fun _ h9 => h9) rfl dX5_behindPart_32 ?_
        refine lv_iload_n hx hb dX5_behindPart_35 rfl (lv_at hl 2 rfl) ?_
        obtain ⟨v4, ev4, nv4, h⟩ := e_rd h
        refine xa_iald hx hb hK hP 2 rfl nv4 ev4 dX5_behindPart_36 ?_
        obtain ⟨q5, eq5, h⟩ := e_b h
        refine xv_v (As := [.int v4]) (rest := []) (ci := 3) (b := ad 51) ⟨hx, hb, hml, hown, hts⟩ hl.1 (kX3_push l D cA (fun i => ad (51 + i)) tally v4 _ eq5) (cwV 1 hts gX5_behindPart_X3_push rfl rfl rfl (by decide +kernel) ⟨Nat.le_of_ble_eq_true rfl, Nat.le_of_ble_eq_true rfl⟩) rfl hK hP hD hS hA 4 rfl rfl rfl [4, 5, 6, 7, 8] rfl (by decide +kernel) rfl (Nat.le_of_ble_eq_true rfl) dX5_behindPart_37 ⟨Nat.zero_le _, Nat.zero_le _⟩ (fun H locs hP hD hS => ?_)
        have hP : va_P D vwCl (wD_row_tally_ahead cA ad block ties lines pmn row q5 ahead) H := hP
        have hD : va_D A (wD_row_tally_ahead cA ad block ties lines pmn row q5 ahead) := hD
        refine lv_aload_n hx hb dX5_behindPart_40 rfl (lv_at hl 0 rfl) ?_
        refine va_get (D := D) (ci := 5) (v := .ref (ad 51)) (C := RX5) (T := TX5) (N := 12) hx hb hts iX5 hown hK hP 0 rfl rfl 5 (Nat.le_of_ble_eq_true rfl) f43 (fun _ h9 => h9) rfl dX5_behindPart_41 ?_
        obtain ⟨q6, eq6, h⟩ := e_b h
        refine xv_i (As := []) (rest := []) (ci := 3) (b := ad 51) ⟨hx, hb, hml, hown, hts⟩ hl.1 (kX3_hasMajority l D cA (fun i => ad (51 + i)) q5  _ eq6) (cwV 0 hts gX5_behindPart_X3_hasMajority rfl rfl rfl (by decide +kernel) ⟨Nat.le_of_ble_eq_true rfl, Nat.le_of_ble_eq_true rfl⟩) rfl hK hP hD hS hA 4 rfl rfl rfl [4, 5, 6, 7, 8] rfl (by decide +kernel) rfl (Nat.le_of_ble_eq_true rfl) dX5_behindPart_44 ⟨Nat.zero_le _, Nat.zero_le _⟩ (fun H locs hP hD hS hnq6 => ?_)
        have hP : va_P D vwCl (wD_row_tally_ahead cA ad block ties lines pmn row q5 ahead) H := hP
        have hD : va_D A (wD_row_tally_ahead cA ad block ties lines pmn row q5 ahead) := hD
        refine lv_if_eq (tgt := 73) hx hb dX5_behindPart_47 (by decide) (fun c7 => ?_) (fun c7 => ?_)
        · have h := e_t c7 h
          refine lv_iinc (v := (x2 + 1)) (lv' := [(2, .int (x2 + 1)), (0, .ref (ad 0)), (1, .int x1)]) hx hb dX5_behindPart_73 hl (k := 2) rfl rfl (by decide) rfl (fun ls hl => ?_)
          refine lv_goto (tgt := 13) hx hb dX5_behindPart_76 (by decide) ?_
          exact ih13 x1 (x2 + 1) q5 _ _ _ (lv_sub hl [1, 2, 0] rfl) hP hD hS h
        · have h := e_f c7 h
          refine lv_aload_n hx hb dX5_behindPart_50 rfl (lv_at hl 0 rfl) ?_
          refine va_get (D := D) (ci := 5) (v := .ref (ad 61)) (C := RX5) (T := TX5) (N := 12) hx hb hts iX5 hown hK hP 0 rfl rfl 7 (Nat.le_of_ble_eq_true rfl) f50 (fun _ h9 => h9) rfl dX5_behindPart_51 ?_
          refine lv_iload_n hx hb dX5_behindPart_54 rfl (lv_at hl 2 rfl) ?_
          refine lv_iconst (v := 1) hx hb dX5_behindPart_55 (by decide) ?_
          refine lv_iadd hx hb dX5_behindPart_56 ?_
          obtain ⟨v8, ev8, nv8, h⟩ := e_rd h
          refine xa_iald hx hb hK hP 9 rfl nv8 ev8 dX5_behindPart_57 ?_
          refine lv_iconst (v := 1) hx hb dX5_behindPart_58 (by decide) ?_
          refine lv_iadd hx hb dX5_behindPart_59 ?_
          refine lv_aload_n hx hb dX5_behindPart_60 rfl (lv_at hl 0 rfl) ?_
          refine va_get (D := D) (ci := 5) (v := .ref (ad 61)) (C := RX5) (T := TX5) (N := 12) hx hb hts iX5 hown hK hP 0 rfl rfl 7 (Nat.le_of_ble_eq_true rfl) f50 (fun _ h9 => h9) rfl dX5_behindPart_61 ?_
          refine lv_iload_n hx hb dX5_behindPart_64 rfl (lv_at hl 1 rfl) ?_
          obtain ⟨v9, ev9, nv9, h⟩ := e_rd h
          refine xa_iald hx hb hK hP 9 rfl nv9 ev9 dX5_behindPart_65 ?_
          refine lv_icmp_ne (tgt := 73) hx hb dX5_behindPart_66 (by decide) (fun c10 => ?_) (fun c10 => ?_)
          · have h := e_t c10 h
            refine lv_iinc (v := (x2 + 1)) (lv' := [(2, .int (x2 + 1)), (0, .ref (ad 0)), (1, .int x1)]) hx hb dX5_behindPart_73 hl (k := 2) rfl rfl (by decide) rfl (fun ls hl => ?_)
            refine lv_goto (tgt := 13) hx hb dX5_behindPart_76 (by decide) ?_
            exact ih13 x1 (x2 + 1) q5 _ _ _ (lv_sub hl [1, 2, 0] rfl) hP hD hS h
          · have h := e_f (not_not_intro c10) h
            refine lv_iload_n hx hb dX5_behindPart_69 rfl (lv_at hl 2 rfl) ?_
            refine lv_iconst (v := 1) hx hb dX5_behindPart_70 (by decide) ?_
            refine lv_iadd hx hb dX5_behindPart_71 ?_
            obtain rfl := e_s h
            exact hret hP hS rfl dX5_behindPart_72
  exact hL13 FU x1 x1 q1 _ _ _ (lv_sub hl [1, 2, 0] rfl) hP hD hS h
set_option maxHeartbeats 4000000 in
set_option maxRecDepth 100000 in
theorem kX5_fewestParts (l : Launch) (D : va_G) (cA : Nat → ClassId) (ad : Nat → Nat) (block : Int32) (ties : Int32) (lines : Int32) (pmn : Int32) (row : RowT) (tally : TalT) (ahead : Nat → Int32)  (q : TalT × (Nat → Int32)) (h : mX5_fewestParts ties row tally ahead  = some q) : MV l yX5_fewestParts wsX5_fewestParts { frames := 2, cells := 0, slots := 0, locals := 43 } D cA [.ref (ad 0)] (wD_row_tally_ahead cA ad block ties lines pmn row tally ahead) (wD_row_tally_ahead cA ad block ties lines pmn row q.1 q.2) := by
  refine MV.of (cc := cX5_fewestParts) (maxL := 3) (by decide) rfl rfl rfl (Nat.le_of_ble_eq_true rfl) ?_
  intro p e s m args below meth c A ls Q hx hb hml hts hown hK hP hD hA hS hl hret
  have hl : lv_has ls 3 [(0, .ref (ad 0))] := hl
  have f106 := hts (.fieldLink RX5 106 "ModeDesk$Row" "values" "[I") (by decide +kernel)
  have f135 := hts (.fieldLink RX5 135 "ModeDesk$Row" "size" "I") (by decide +kernel)
  have f26 := hts (.fieldLink RX5 26 "ModeDesk" "row" "LModeDesk$Row;") (by decide +kernel)
  have f43 := hts (.fieldLink RX5 43 "ModeDesk" "tally" "LModeDesk$Tally;") (by decide +kernel)
  have f50 := hts (.fieldLink RX5 50 "ModeDesk" "ahead" "[I") (by decide +kernel)
  have f58 := hts (.fieldLink RX5 58 "ModeDesk" "ties" "I") (by decide +kernel)
  have iX2 : ∀ w ∈ wsX20, w ∈ wsX5_fewestParts := by decide +kernel
  have iX5 : ∀ w ∈ wsX50, w ∈ wsX5_fewestParts := by decide +kernel
  unfold mX5_fewestParts at h
  refine lv_aload_n hx hb dX5_fewestParts_0 rfl (lv_at hl 0 rfl) ?_
  refine va_get (D := D) (ci := 5) (v := .ref (ad 61)) (C := RX5) (T := TX5) (N := 12) hx hb hts iX5 hown hK hP 0 rfl rfl 7 (Nat.le_of_ble_eq_true rfl) f50 (fun _ h9 => h9) rfl dX5_fewestParts_1 ?_
  refine lv_aload_n hx hb dX5_fewestParts_4 rfl (lv_at hl 0 rfl) ?_
  refine va_get (D := D) (ci := 5) (v := .ref (ad 7)) (C := RX5) (T := TX5) (N := 12) hx hb hts iX5 hown hK hP 0 rfl rfl 2 (Nat.le_of_ble_eq_true rfl) f26 (fun _ h9 => h9) rfl dX5_fewestParts_5 ?_
  refine va_get (D := D) (ci := 2) (v := .int row.2.2) (C := RX2) (T := TX2) (N := 3) hx hb hts iX2 hown hK hP 1 rfl rfl 2 (Nat.le_of_ble_eq_true rfl) f135 (fun _ h9 => h9) rfl dX5_fewestParts_8 ?_
  refine lv_iconst (v := 0) hx hb dX5_fewestParts_11 (by decide) ?_
  obtain ⟨a1, ea1, na1, h⟩ := e_wr h
  refine xa_iast hx hb hK hP hD hS 9 rfl na1 ea1 dX5_fewestParts_12 (fun H locs hP hD hS => ?_)
  have hP : va_P D vwCl (wD_row_tally_ahead cA ad block ties lines pmn row tally a1) H := hP
  have hD : va_D A (wD_row_tally_ahead cA ad block ties lines pmn row tally a1) := hD
  refine lv_aload_n hx hb dX5_fewestParts_13 rfl (lv_at hl 0 rfl) ?_
  refine va_get (D := D) (ci := 5) (v := .ref (ad 7)) (C := RX5) (T := TX5) (N := 12) hx hb hts iX5 hown hK hP 0 rfl rfl 2 (Nat.le_of_ble_eq_true rfl) f26 (fun _ h9 => h9) rfl dX5_fewestParts_14 ?_
  refine va_get (D := D) (ci := 2) (v := .int row.2.2) (C := RX2) (T := TX2) (N := 3) hx hb hts iX2 hown hK hP 1 rfl rfl 2 (Nat.le_of_ble_eq_true rfl) f135 (fun _ h9 => h9) rfl dX5_fewestParts_17 ?_
  refine lv_iconst (v := 1) hx hb dX5_fewestParts_20 (by decide) ?_
  refine lv_isub hx hb dX5_fewestParts_21 ?_
  refine lv_istore_n (lv' := [(1, .int (row.2.2 - 1)), (0, .ref (ad 0))]) hx hb dX5_fewestParts_22 rfl hl (by decide) rfl (fun ls hl => ?_)
  have hL23 : ∀ (n : Nat) (x1 : Int32) (block : Int32) (ties : Int32) (lines : Int32) (pmn : Int32) (row : RowT) (tally : TalT) (ahead : Nat → Int32) (z2 : TalT × (Nat → Int32)) (ls : Array Slot) (H : Heap) (locs : List Loc), lv_has ls 3 [(0, .ref (ad 0)), (1, .int x1)] → va_P D vwCl (wD_row_tally_ahead cA ad block ties lines pmn row tally ahead) H → va_D A (wD_row_tally_ahead cA ad block ties lines pmn row tally ahead) → va_S A s.heap H locs → mX5_fewestParts_L23 ties row n x1 tally ahead = some z2 → (∀ (ls : Array Slot) (H : Heap) (locs : List Loc), lv_has ls 3 [] → va_P D vwCl (wD_row_tally_ahead cA ad block ties lines pmn row z2.1 z2.2) H → va_D A (wD_row_tally_ahead cA ad block ties lines pmn row z2.1 z2.2) → va_S A s.heap H locs → W p l e (headSpec wsX5_fewestParts { frames := 2, cells := 0, slots := 0, locals := 43 }).room s m args below meth c H locs 0 0 Q (F0 m 122 ls [])) → W p l e (headSpec wsX5_fewestParts { frames := 2, cells := 0, slots := 0, locals := 43 }).room s m args below meth c H locs 0 0 Q (F0 m 23 ls []) := by
    intro n
    induction n with
    | zero => intro x1 block ties lines pmn row tally ahead z2 ls H locs hl hP hD hS h hk23; exact e_n h
    | succ n ih23 =>
      intro x1 block ties lines pmn row tally ahead z2 ls H locs hl hP hD hS h hk23
      rw [mX5_fewestParts_L23.eq_2] at h
      refine lv_iload_n hx hb dX5_fewestParts_23 rfl (lv_at hl 1 rfl) ?_
      refine lv_if_lt (tgt := 122) hx hb dX5_fewestParts_24 (by decide) (fun c3 => ?_) (fun c3 => ?_)
      · have h := e_t c3 h
        obtain rfl := e_s h
        exact hk23 _ _ _ (lv_sub hl [] rfl) hP hD hS
      · have h := e_f c3 h
        refine lv_aload_n hx hb dX5_fewestParts_27 rfl (lv_at hl 0 rfl) ?_
        refine va_get (D := D) (ci := 5) (v := .ref (ad 61)) (C := RX5) (T := TX5) (N := 12) hx hb hts iX5 hown hK hP 0 rfl rfl 7 (Nat.le_of_ble_eq_true rfl) f50 (fun _ h9 => h9) rfl dX5_fewestParts_28 ?_
        refine lv_iload_n hx hb dX5_fewestParts_31 rfl (lv_at hl 1 rfl) ?_
        refine lv_bipush (v := 120) hx hb dX5_fewestParts_32 (by decide) ?_
        obtain ⟨a4, ea4, na4, h⟩ := e_wr h
        refine xa_iast hx hb hK hP hD hS 9 rfl na4 ea4 dX5_fewestParts_34 (fun H locs hP hD hS => ?_)
        have hP : va_P D vwCl (wD_row_tally_ahead cA ad block ties lines pmn row tally a4) H := hP
        have hD : va_D A (wD_row_tally_ahead cA ad block ties lines pmn row tally a4) := hD
        refine lv_aload_n hx hb dX5_fewestParts_35 rfl (lv_at hl 0 rfl) ?_
        refine va_get (D := D) (ci := 5) (v := .ref (ad 51)) (C := RX5) (T := TX5) (N := 12) hx hb hts iX5 hown hK hP 0 rfl rfl 5 (Nat.le_of_ble_eq_true rfl) f43 (fun _ h9 => h9) rfl dX5_fewestParts_36 ?_
        refine lv_aload_n hx hb dX5_fewestParts_39 rfl (lv_at hl 0 rfl) ?_
        refine va_get (D := D) (ci := 5) (v := .int ties) (C := RX5) (T := TX5) (N := 12) hx hb hts iX5 hown hK hP 0 rfl rfl 9 (Nat.le_of_ble_eq_true rfl) f58 (fun _ h9 => h9) rfl dX5_fewestParts_40 ?_
        obtain ⟨q5, eq5, h⟩ := e_b h
        refine xv_v (As := [.int ties]) (rest := []) (ci := 3) (b := ad 51) ⟨hx, hb, hml, hown, hts⟩ hl.1 (kX3_begin l D cA (fun i => ad (51 + i)) tally ties _ eq5) (cwV 1 hts gX5_fewestParts_X3_begin rfl rfl rfl (by decide +kernel) ⟨Nat.le_of_ble_eq_true rfl, Nat.le_of_ble_eq_true rfl⟩) rfl hK hP hD hS hA 4 rfl rfl rfl [4, 5, 6, 7, 8] rfl (by decide +kernel) rfl (Nat.le_of_ble_eq_true rfl) dX5_fewestParts_43 ⟨Nat.zero_le _, Nat.zero_le _⟩ (fun H locs hP hD hS => ?_)
        have hP : va_P D vwCl (wD_row_tally_ahead cA ad block ties lines pmn row q5 a4) H := hP
        have hD : va_D A (wD_row_tally_ahead cA ad block ties lines pmn row q5 a4) := hD
        refine lv_iload_n hx hb dX5_fewestParts_46 rfl (lv_at hl 1 rfl) ?_
        refine lv_istore_n (lv' := [(2, .int x1), (0, .ref (ad 0)), (1, .int x1)]) hx hb dX5_fewestParts_47 rfl hl (by decide) rfl (fun ls hl => ?_)
        have hL48 : ∀ (n : Nat) (x1 : Int32) (x2 : Int32) (block : Int32) (ties : Int32) (lines : Int32) (pmn : Int32) (row : RowT) (tally : TalT) (ahead : Nat → Int32) (z6 : TalT × (Nat → Int32)) (ls : Array Slot) (H : Heap) (locs : List Loc), lv_has ls 3 [(0, .ref (ad 0)), (1, .int x1), (2, .int x2)] → va_P D vwCl (wD_row_tally_ahead cA ad block ties lines pmn row tally ahead) H → va_D A (wD_row_tally_ahead cA ad block ties lines pmn row tally ahead) → va_S A s.heap H locs → mX5_fewestParts_L48 row x1 n x2 tally ahead = some z6 → (∀ (ls : Array Slot) (H : Heap) (locs : List Loc), lv_has ls 3 [(0, .ref (ad 0)), (1, .int x1)] → va_P D vwCl (wD_row_tally_ahead cA ad block ties lines pmn row z6.1 z6.2) H → va_D A (wD_row_tally_ahead cA ad block ties lines pmn row z6.1 z6.2) → va_S A s.heap H locs → W p l e (headSpec wsX5_fewestParts { frames := 2, cells := 0, slots := 0, locals := 43 }).room s m args below meth c H locs 0 0 Q (F0 m 116 ls [])) → W p l e (headSpec wsX5_fewestParts { frames := 2, cells := 0, slots := 0, locals := 43 }).room s m args below meth c H locs 0 0 Q (F0 m 48 ls []) := by
          intro n
          induction n with
          | zero => intro x1 x2 block ties lines pmn row tally ahead z6 ls H locs hl hP hD hS h hk48; exact e_n h
          | succ n ih48 =>
            intro x1 x2 block ties lines pmn row tally ahead z6 ls H locs hl hP hD hS h hk48
            rw [mX5_fewestParts_L48.eq_2] at h
            refine lv_iload_n hx hb dX5_fewestParts_48 rfl (lv_at hl 2 rfl) ?_
            refine lv_aload_n hx hb dX5_fewestParts_49 rfl (lv_at hl 0 rfl) ?_
            refine va_get (D := D) (ci := 5) (v := .ref (ad 7)) (C := RX5) (T := TX5) (N := 12) hx hb hts iX5 hown hK hP 0 rfl rfl 2 (Nat.le_of_ble_eq_true rfl) f26 (fun _ h9 => h9) rfl dX5_fewestParts_50 ?_
            refine va_get (D := D) (ci := 2) (v := .int row.2.2) (C := RX2) (T := TX2) (N := 3) hx hb hts iX2 hown hK hP 1 rfl rfl 2 (Nat.le_of_ble_eq_true rfl) f135 (fun _ h9 => h9) rfl dX5_fewestParts_53 ?_
            refine lv_icmp_ge (tgt := 116) hx hb dX5_fewestParts_56 (by decide) (fun c7 => ?_) (fun c7 => ?_)
            · have h := e_t c7 h
              obtain rfl := e_s h
              exact hk48 _ _ _ (lv_sub hl [0, 1] rfl) hP hD hS
            · have h := e_f c7 h
              refine lv_aload_n hx hb dX5_fewestParts_59 rfl (lv_at hl 0 rfl) ?_
              refine va_get (D := D) (ci := 5) (v := .ref (ad 51)) (C := RX5) (T := TX5) (N := 12) hx hb hts iX5 hown hK hP 0 rfl rfl 5 (Nat.le_of_ble_eq_true rfl) f43 (fun _ h9 => h9) rfl dX5_fewestParts_60 ?_
              refine lv_aload_n hx hb dX5_fewestParts_63 rfl (lv_at hl 0 rfl) ?_
              refine va_get (D := D) (ci := 5) (v := .ref (ad 7)) (C := RX5) (T := TX5) (N := 12) hx hb hts iX5 hown hK hP 0 rfl rfl 2 (Nat.le_of_ble_eq_true rfl) f26 (fun _ h9 => h9) rfl dX5_fewestParts_64 ?_
              refine va_get (D := D) (ci := 2) (v := .ref (ad 8)) (C := RX2) (T := TX2) (N := 3) hx hb hts iX2 hown hK hP 1 rfl rfl 0 (Nat.le_of_ble_eq_true rfl) f106 (fun _ h9 => h9) rfl dX5_fewestParts_67 ?_
              refine lv_iload_n hx hb dX5_fewestParts_70 rfl (lv_at hl 2 rfl) ?_
              obtain ⟨v8, ev8, nv8, h⟩ := e_rd h
              refine xa_iald hx hb hK hP 2 rfl nv8 ev8 dX5_fewestParts_71 ?_
              obtain ⟨q9, eq9, h⟩ := e_b h
              refine xv_v (As := [.int v8]) (rest := []) (ci := 3) (b := ad 51) ⟨hx, hb, hml, hown, hts⟩ hl.1 (kX3_push l D cA (fun i => ad (51 + i)) tally v8 _ eq9) (cwV 1 hts gX5_fewestParts_X3_push rfl rfl rfl (by decide +kernel) ⟨Nat.le_of_ble_eq_true rfl, Nat.le_of_ble_eq_true rfl⟩) rfl hK hP hD hS hA 4 rfl rfl rfl [4, 5, 6, 7, 8] rfl (by decide +kernel) rfl (Nat.le_of_ble_eq_true rfl) dX5_fewestParts_72 ⟨Nat.zero_le _, Nat.zero_le _⟩ (fun H locs hP hD hS => ?_)
              have hP : va_P D vwCl (wD_row_tally_ahead cA ad block ties lines pmn row q9 ahead) H := hP
              have hD : va_D A (wD_row_tally_ahead cA ad block ties lines pmn row q9 ahead) := hD
              refine lv_aload_n hx hb dX5_fewestParts_75 rfl (lv_at hl 0 rfl) ?_
              refine va_get (D := D) (ci := 5) (v := .ref (ad 51)) (C := RX5) (T := TX5) (N := 12) hx hb hts iX5 hown hK hP 0 rfl rfl 5 (Nat.le_of_ble_eq_true rfl) f43 (fun _ h9 => h9) rfl dX5_fewestParts_76 ?_
              obtain ⟨q10, eq10, h⟩ := e_b h
              refine xv_i (As := []) (rest := []) (ci := 3) (b := ad 51) ⟨hx, hb, hml, hown, hts⟩ hl.1 (kX3_hasMajority l D cA (fun i => ad (51 + i)) q9  _ eq10) (cwV 0 hts gX5_fewestParts_X3_hasMajority rfl rfl rfl (by decide +kernel) ⟨Nat.le_of_ble_eq_true rfl, Nat.le_of_ble_eq_true rfl⟩) rfl hK hP hD hS hA 4 rfl rfl rfl [4, 5, 6, 7, 8] rfl (by decide +kernel) rfl (Nat.le_of_ble_eq_true rfl) dX5_fewestParts_79 ⟨Nat.zero_le _, Nat.zero_le _⟩ (fun H locs hP hD hS hnq10 => ?_)
              have hP : va_P D vwCl (wD_row_tally_ahead cA ad block ties lines pmn row q9 ahead) H := hP
              have hD : va_D A (wD_row_tally_ahead cA ad block ties lines pmn row q9 ahead) := hD
              refine lv_if_eq (tgt := 110) hx hb dX5_fewestParts_82 (by decide) (fun c11 => ?_) (fun c11 => ?_)
              · have h := e_t c11 h
                refine lv_iinc (v := (x2 + 1)) (lv' := [(2, .int (x2 + 1)), (0, .ref (ad 0)), (1, .int x1)]) hx hb dX5_fewestParts_110 hl (k := 2) rfl rfl (by decide) rfl (fun ls hl => ?_)
                refine lv_goto (tgt := 48) hx hb dX5_fewestParts_113 (by decide) ?_
                exact ih48 x1 (x2 + 1) block ties lines pmn row q9 ahead z6 _ _ _ (lv_sub hl [1, 2, 0] rfl) hP hD hS h hk48
              · have h := e_f c11 h
                refine lv_aload_n hx hb dX5_fewestParts_85 rfl (lv_at hl 0 rfl) ?_
                refine va_get (D := D) (ci := 5) (v := .ref (ad 61)) (C := RX5) (T := TX5) (N := 12) hx hb hts iX5 hown hK hP 0 rfl rfl 7 (Nat.le_of_ble_eq_true rfl) f50 (fun _ h9 => h9) rfl dX5_fewestParts_86 ?_
                refine lv_iload_n hx hb dX5_fewestParts_89 rfl (lv_at hl 1 rfl) ?_
                refine lv_aload_n hx hb dX5_fewestParts_90 rfl (lv_at hl 0 rfl) ?_
                refine va_get (D := D) (ci := 5) (v := .ref (ad 61)) (C := RX5) (T := TX5) (N := 12) hx hb hts iX5 hown hK hP 0 rfl rfl 7 (Nat.le_of_ble_eq_true rfl) f50 (fun _ h9 => h9) rfl dX5_fewestParts_91 ?_
                refine lv_iload_n hx hb dX5_fewestParts_94 rfl (lv_at hl 1 rfl) ?_
                obtain ⟨v12, ev12, nv12, h⟩ := e_rd h
                refine xa_iald hx hb hK hP 9 rfl nv12 ev12 dX5_fewestParts_95 ?_
                refine lv_aload_n hx hb dX5_fewestParts_96 rfl (lv_at hl 0 rfl) ?_
                refine va_get (D := D) (ci := 5) (v := .ref (ad 61)) (C := RX5) (T := TX5) (N := 12) hx hb hts iX5 hown hK hP 0 rfl rfl 7 (Nat.le_of_ble_eq_true rfl) f50 (fun _ h9 => h9) rfl dX5_fewestParts_97 ?_
                refine lv_iload_n hx hb dX5_fewestParts_100 rfl (lv_at hl 2 rfl) ?_
                refine lv_iconst (v := 1) hx hb dX5_fewestParts_101 (by decide) ?_
                refine lv_iadd hx hb dX5_fewestParts_102 ?_
                obtain ⟨v13, ev13, nv13, h⟩ := e_rd h
                refine xa_iald hx hb hK hP 9 rfl nv13 ev13 dX5_fewestParts_103 ?_
                refine lv_iconst (v := 1) hx hb dX5_fewestParts_104 (by decide) ?_
                refine lv_iadd hx hb dX5_fewestParts_105 ?_
                refine va_mmin hx hb (by rw [hml, hl.1]) hown (hts (.methodLink RX5 234 Lib.Math.min.name) (by decide +kernel)) (hts (.static Lib.Math.min.name) (by decide +kernel)) (hts (.initialized "java/lang/Math") (by decide +kernel)) (hts (.code Lib.Math.min.name Lib.Math.min.code 2 (some .int)) (by decide +kernel)) (Nat.le_of_ble_eq_true rfl) (Nat.le_of_ble_eq_true rfl) (Nat.zero_le _) (Nat.zero_le _) dX5_fewestParts_106 ?_
                obtain ⟨a14, ea14, na14, h⟩ := e_wr h
                refine xa_iast hx hb hK hP hD hS 9 rfl na14 ea14 dX5_fewestParts_109 (fun H locs hP hD hS => ?_)
                have hP : va_P D vwCl (wD_row_tally_ahead cA ad block ties lines pmn row q9 a14) H := hP
                have hD : va_D A (wD_row_tally_ahead cA ad block ties lines pmn row q9 a14) := hD
                refine lv_iinc (v := (x2 + 1)) (lv' := [(2, .int (x2 + 1)), (0, .ref (ad 0)), (1, .int x1)]) hx hb dX5_fewestParts_110 hl (k := 2) rfl rfl (by decide) rfl (fun ls hl => ?_)
                refine lv_goto (tgt := 48) hx hb dX5_fewestParts_113 (by decide) ?_
                exact ih48 x1 (x2 + 1) block ties lines pmn row q9 a14 z6 _ _ _ (lv_sub hl [1, 2, 0] rfl) hP hD hS h hk48
        obtain ⟨z15, ez15, h⟩ := e_b h
        refine hL48 FU x1 x1 block ties lines pmn row q5 a4 z15 _ _ _ (lv_sub hl [1, 2, 0] rfl) hP hD hS ez15 (fun ls H locs hl hP hD hS => ?_)
        refine lv_iinc (v := (x1 + (-1))) (lv' := [(1, .int (x1 + (-1))), (0, .ref (ad 0))]) hx hb dX5_fewestParts_116 hl (k := 1) rfl rfl (by decide) rfl (fun ls hl => ?_)
        refine lv_goto (tgt := 23) hx hb dX5_fewestParts_119 (by decide) ?_
        exact ih23 (x1 + (-1)) block ties lines pmn row z15.1 z15.2 z2 _ _ _ (lv_sub hl [1, 0] rfl) hP hD hS h hk23
  obtain ⟨z16, ez16, h⟩ := e_b h
  refine hL23 FU (row.2.2 - 1) block ties lines pmn row tally a1 z16 _ _ _ (lv_sub hl [1, 0] rfl) hP hD hS ez16 (fun ls H locs hl hP hD hS => ?_)
  obtain rfl := e_s h
  exact hret hP hS dX5_fewestParts_122
set_option maxHeartbeats 4000000 in
set_option maxRecDepth 100000 in
theorem kX5_part (l : Launch) (D : va_G) (cA : Nat → ClassId) (ad : Nat → Nat) (block : Int32) (ties : Int32) (lines : Int32) (pmn : Int32) (row : RowT) (tally : TalT) (ahead : Nat → Int32) (x1 : Int32) (q : Int32 × TalT × (Nat → Int32)) (h : mX5_part ties row tally ahead x1 = some q) : MI l yX5_part wsX5_part { frames := 3, cells := 0, slots := 0, locals := 65 } D cA .int [.ref (ad 0), .int x1] (wD_row_tally_ahead cA ad block ties lines pmn row tally ahead) (wD_row_tally_ahead cA ad block ties lines pmn row q.2.1 q.2.2) q.1 := by
  refine MI.of (cc := cX5_part) (maxL := 5) (by decide +kernel) rfl rfl rfl (Nat.le_of_ble_eq_true rfl) ?_
  intro p e s m args below meth c A ls Q hx hb hml hts hown hK hP hD hA hS hl hret
  have hl : lv_has ls 5 [(0, .ref (ad 0)), (1, .int x1)] := hl
  have f50 := hts (.fieldLink RX5 50 "ModeDesk" "ahead" "[I") (by decide +kernel)
  have iX5 : ∀ w ∈ wsX50, w ∈ wsX5_part := by decide +kernel
  unfold mX5_part at h
  refine lv_iload_n hx hb dX5_part_0 rfl (lv_at hl 1 rfl) ?_
  refine lv_iconst (v := (-1)) hx hb dX5_part_1 (by decide) ?_
  refine lv_icmp_ge (tgt := 7) hx hb dX5_part_2 (by decide) (fun c1 => ?_) (fun c1 => ?_)
  · have h := e_t c1 h
    refine lv_aload_n hx hb dX5_part_7 rfl (lv_at hl 0 rfl) ?_
    obtain ⟨q2, eq2, h⟩ := e_b h
    refine xv_v (As := []) (rest := []) (ci := 5) (b := ad 0) ⟨hx, hb, hml, hown, hts⟩ hl.1 (kX5_fewestParts l D cA ad block ties lines pmn row tally ahead  _ eq2) (cwV 0 hts gX5_part_X5_fewestParts rfl rfl rfl (by decide +kernel) ⟨Nat.le_of_ble_eq_true rfl, Nat.le_of_ble_eq_true rfl⟩) rfl hK hP hD hS hA 0 rfl rfl rfl [0, 1, 2, 3, 4, 5, 6, 7, 8, 9] rfl (by decide +kernel) rfl (Nat.le_of_ble_eq_true rfl) dX5_part_8 ⟨Nat.zero_le _, Nat.zero_le _⟩ (fun H locs hP hD hS => ?_)
    have hP : va_P D vwCl (wD_row_tally_ahead cA ad block ties lines pmn row q2.1 q2.2) H := hP
    have hD : va_D A (wD_row_tally_ahead cA ad block ties lines pmn row q2.1 q2.2) := hD
    refine lv_aload_n hx hb dX5_part_11 rfl (lv_at hl 0 rfl) ?_
    refine va_get (D := D) (ci := 5) (v := .ref (ad 61)) (C := RX5) (T := TX5) (N := 12) hx hb hts iX5 hown hK hP 0 rfl rfl 7 (Nat.le_of_ble_eq_true rfl) f50 (fun _ h9 => h9) rfl dX5_part_12 ?_
    refine lv_iconst (v := 0) hx hb dX5_part_15 (by decide) ?_
    obtain ⟨v3, ev3, nv3, h⟩ := e_rd h
    refine xa_iald hx hb hK hP 9 rfl nv3 ev3 dX5_part_16 ?_
    refine lv_istore_n (lv' := [(2, .int v3), (0, .ref (ad 0)), (1, .int x1)]) hx hb dX5_part_17 rfl hl (by decide) rfl (fun ls hl => ?_)
    refine lv_iload_n hx hb dX5_part_18 rfl (lv_at hl 2 rfl) ?_
    refine lv_iconst (v := (-1)) hx hb dX5_part_19 (by decide) ?_
    refine lv_icmp_ne (tgt := 25) hx hb dX5_part_20 (by decide) (fun c4 => ?_) (fun c4 => ?_)
    · have h := e_t c4 h
      refine lv_iload_n hx hb dX5_part_25 rfl (lv_at hl 2 rfl) ?_
      refine lv_iload_n hx hb dX5_part_26 rfl (lv_at hl 0 rfl) ?_
      refine lv_icmp_lt (tgt := 33) hx hb dX5_part_27 (by decide) (fun c5 => ?_) (fun c5 => ?_)
      · have h := e_t c5 h
        refine lv_iconst (v := 0) hx hb dX5_part_33 (by decide) ?_
        refine lv_istore_n (lv' := [(3, .int 0), (2, .int v3), (0, .ref (ad 0)), (1, .int x1)]) hx hb dX5_part_34 rfl hl (by decide) rfl (fun ls hl => ?_)
        refine lv_iconst (v := 0) hx hb dX5_part_35 (by decide) ?_
        refine lv_istore (lv' := [(4, .int 0), (3, .int 0), (2, .int v3), (0, .ref (ad 0)), (1, .int x1)]) hx hb dX5_part_36 hl (by decide) rfl (fun ls hl => ?_)
        have hL38 : ∀ (n : Nat) (x1 : Int32) (x3 : Int32) (x4 : Int32) (block : Int32) (ties : Int32) (lines : Int32) (pmn : Int32) (row : RowT) (tally : TalT) (ahead : Nat → Int32) (z6 : Int32 × TalT) (ls : Array Slot) (H : Heap) (locs : List Loc), lv_has ls 5 [(0, .ref (ad 0)), (1, .int x1), (3, .int x3), (4, .int x4)] → va_P D vwCl (wD_row_tally_ahead cA ad block ties lines pmn row tally ahead) H → va_D A (wD_row_tally_ahead cA ad block ties lines pmn row tally ahead) → va_S A s.heap H locs → mX5_part_L38 ties row ahead x1 n x3 x4 tally = some z6 → (∀ (ls : Array Slot) (H : Heap) (locs : List Loc), lv_has ls 5 [(3, .int z6.1)] → va_P D vwCl (wD_row_tally_ahead cA ad block ties lines pmn row z6.2 ahead) H → va_D A (wD_row_tally_ahead cA ad block ties lines pmn row z6.2 ahead) → va_S A s.heap H locs → W p l e (headSpec wsX5_part { frames := 3, cells := 0, slots := 0, locals := 65 }).room s m args below meth c H locs 0 0 Q (F0 m 56 ls [])) → W p l e (headSpec wsX5_part { frames := 3, cells := 0, slots := 0, locals := 65 }).room s m args below meth c H locs 0 0 Q (F0 m 38 ls []) := by
          intro n
          induction n with
          | zero => intro x1 x3 x4 block ties lines pmn row tally ahead z6 ls H locs hl hP hD hS h hk38; exact e_n h
          | succ n ih38 =>
            intro x1 x3 x4 block ties lines pmn row tally ahead z6 ls H locs hl hP hD hS h hk38
            rw [mX5_part_L38.eq_2] at h
            refine lv_iload hx hb dX5_part_38 (lv_at hl 3 rfl) ?_
            refine lv_iload_n hx hb dX5_part_40 rfl (lv_at hl 1 rfl) ?_
            refine lv_icmp_ge (tgt := 56) hx hb dX5_part_41 (by decide) (fun c7 => ?_) (fun c7 => ?_)
            · have h := e_t c7 h
              obtain rfl := e_s h
              exact hk38 _ _ _ (lv_sub hl [2] rfl) hP hD hS
            · have h := e_f c7 h
              refine lv_aload_n hx hb dX5_part_44 rfl (lv_at hl 0 rfl) ?_
              refine lv_iload_n hx hb dX5_part_45 rfl (lv_at hl 2 rfl) ?_
              obtain ⟨q8, eq8, h⟩ := e_b h
              refine xv_i (As := [.int x3]) (rest := []) (ci := 5) (b := ad 0) ⟨hx, hb, hml, hown, hts⟩ hl.1 (kX5_behindPart l D cA ad block ties lines pmn row tally ahead x3 _ eq8) (cwV 1 hts gX5_part_X5_behindPart rfl rfl rfl (by decide +kernel) ⟨Nat.le_of_ble_eq_true rfl, Nat.le_of_ble_eq_true rfl⟩) rfl hK hP hD hS hA 0 rfl rfl rfl [0, 1, 2, 3, 4, 5, 6, 7, 8, 9] rfl (by decide +kernel) rfl (Nat.le_of_ble_eq_true rfl) dX5_part_46 ⟨Nat.zero_le _, Nat.zero_le _⟩ (fun H locs hP hD hS hnq8 => ?_)
              have hP : va_P D vwCl (wD_row_tally_ahead cA ad block ties lines pmn row q8.2 ahead) H := hP
              have hD : va_D A (wD_row_tally_ahead cA ad block ties lines pmn row q8.2 ahead) := hD
              refine lv_istore_n (lv' := [(3, .int q8.1), (0, .ref (ad 0)), (1, .int x1), (4, .int x4)]) hx hb dX5_part_49 rfl hl (by decide) rfl (fun ls hl => ?_)
              refine lv_iinc (v := (x4 + 1)) (lv' := [(4, .int (x4 + 1)), (3, .int q8.1), (0, .ref (ad 0)), (1, .int x1)]) hx hb dX5_part_50 hl (k := 3) rfl rfl (by decide) rfl (fun ls hl => ?_)
              refine lv_goto (tgt := 38) hx hb dX5_part_53 (by decide) ?_
              exact ih38 x1 q8.1 (x4 + 1) block ties lines pmn row q8.2 ahead z6 _ _ _ (lv_sub hl [2, 3, 1, 0] rfl) hP hD hS h hk38
        obtain ⟨z9, ez9, h⟩ := e_b h
        refine hL38 FU x1 0 0 block ties lines pmn row q2.1 q2.2 z9 _ _ _ (lv_sub hl [3, 4, 1, 0] rfl) hP hD hS ez9 (fun ls H locs hl hP hD hS => ?_)
        refine lv_iload_n hx hb dX5_part_56 rfl (lv_at hl 0 rfl) ?_
        obtain rfl := e_s h
        exact hret hP hS rfl dX5_part_57
      · have h := e_f c5 h
        refine lv_bipush (v := (-2)) hx hb dX5_part_30 (by decide) ?_
        obtain rfl := e_s h
        exact hret hP hS rfl dX5_part_32
    · have h := e_f (not_not_intro c4) h
      refine lv_iload_n hx hb dX5_part_23 rfl (lv_at hl 0 rfl) ?_
      obtain rfl := e_s h
      exact hret hP hS rfl dX5_part_24
  · have h := e_f c1 h
    refine lv_iconst (v := (-1)) hx hb dX5_part_5 (by decide) ?_
    obtain rfl := e_s h
    exact hret hP hS rfl dX5_part_6

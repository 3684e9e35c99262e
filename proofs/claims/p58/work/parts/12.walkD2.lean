set_option maxHeartbeats 4000000 in
set_option maxRecDepth 100000 in
theorem kX5_insert (l : Launch) (D : va_G) (cA : Nat → ClassId) (ad : Nat → Nat) (block : Int32) (ties : Int32) (lines : Int32) (pmn : Int32) (row : RowT) (next : RowT) (past : PasT) (x1 : Int32) (x2 : Int32) (q : Int32 × Int32 × RowT × RowT × PasT) (h : mX5_insert block pmn row next past x1 x2 = some q) : MI l yX5_insert wsX5_insert { frames := 5, cells := 0, slots := 0, locals := 119 } D cA .int [.ref (ad 0), .int x1, .int x2] (wD_row_next_past cA ad block ties lines pmn row next past) (wD_row_next_past cA ad block ties lines q.2.1 q.2.2.1 q.2.2.2.1 q.2.2.2.2) q.1 := by
  refine MI.of (cc := cX5_insert) (maxL := 3) (by decide +kernel) rfl rfl rfl (Nat.le_of_ble_eq_true rfl) ?_
  intro p e s m args below meth c A ls Q hx hb hml hts hown hK hP hD hA hS hl hret
  have hl : lv_has ls 3 [(0, .ref (ad 0)), (1, .int x1), (2, .int x2)] := hl
  have f135 := hts (.fieldLink RX5 135 "ModeDesk$Row" "size" "I") (by decide +kernel)
  have f26 := hts (.fieldLink RX5 26 "ModeDesk" "row" "LModeDesk$Row;") (by decide +kernel)
  have f30 := hts (.fieldLink RX5 30 "ModeDesk" "next" "LModeDesk$Row;") (by decide +kernel)
  have iX2 : ∀ w ∈ wsX20, w ∈ wsX5_insert := by decide +kernel
  have iX5 : ∀ w ∈ wsX50, w ∈ wsX5_insert := by decide +kernel
  unfold mX5_insert at h
  refine lv_iload_n hx hb dX5_insert_0 rfl (lv_at hl 1 rfl) ?_
  refine lv_if_lt (tgt := 34) hx hb dX5_insert_1 (by decide) (fun c1 => ?_) (fun c1 => ?_)
  · have h := e_t c1 h
    refine lv_iconst (v := (-1)) hx hb dX5_insert_34 (by decide) ?_
    obtain rfl := e_s h
    exact hret hP hS rfl dX5_insert_35
  · have h := e_f c1 h
    refine lv_iload_n hx hb dX5_insert_4 rfl (lv_at hl 1 rfl) ?_
    refine lv_aload_n hx hb dX5_insert_5 rfl (lv_at hl 0 rfl) ?_
    refine va_get (D := D) (ci := 5) (v := .ref (ad 7)) (C := RX5) (T := TX5) (N := 12) hx hb hts iX5 hown hK hP 0 rfl rfl 2 (Nat.le_of_ble_eq_true rfl) f26 (fun _ h9 => h9) rfl dX5_insert_6 ?_
    refine va_get (D := D) (ci := 2) (v := .int row.2.2) (C := RX2) (T := TX2) (N := 3) hx hb hts iX2 hown hK hP 1 rfl rfl 2 (Nat.le_of_ble_eq_true rfl) f135 (fun _ h9 => h9) rfl dX5_insert_9 ?_
    refine lv_icmp_gt (tgt := 34) hx hb dX5_insert_12 (by decide) (fun c2 => ?_) (fun c2 => ?_)
    · have h := e_t c2 h
      refine lv_iconst (v := (-1)) hx hb dX5_insert_34 (by decide) ?_
      obtain rfl := e_s h
      exact hret hP hS rfl dX5_insert_35
    · have h := e_f c2 h
      refine lv_iload_n hx hb dX5_insert_15 rfl (lv_at hl 2 rfl) ?_
      obtain ⟨q3, eq3, h⟩ := e_b h
      refine xs_i (As := [.int x2]) (rest := []) ⟨hx, hb, hml, hown, hts⟩ hl.1 (kX5_isValue l D cA   x2  _ eq3) (va_cwS 1 hts gX5_insert_X5_isValue rfl rfl rfl (by decide +kernel) ⟨Nat.le_of_ble_eq_true rfl, Nat.le_of_ble_eq_true rfl⟩) rfl hK hP hD hS hA [] rfl (by decide +kernel) rfl (Nat.le_of_ble_eq_true rfl) dX5_insert_16 ⟨Nat.zero_le _, Nat.zero_le _⟩ (fun H locs hP hD hS hnq3 => ?_)
      have hP : va_P D vwCl (wD_row_next_past cA ad block ties lines pmn row next past) H := hP
      have hD : va_D A (wD_row_next_past cA ad block ties lines pmn row next past) := hD
      refine lv_if_eq (tgt := 34) hx hb dX5_insert_19 (by decide) (fun c4 => ?_) (fun c4 => ?_)
      · have h := e_t c4 h
        refine lv_iconst (v := (-1)) hx hb dX5_insert_34 (by decide) ?_
        obtain rfl := e_s h
        exact hret hP hS rfl dX5_insert_35
      · have h := e_f c4 h
        refine lv_aload_n hx hb dX5_insert_22 rfl (lv_at hl 0 rfl) ?_
        refine va_get (D := D) (ci := 5) (v := .ref (ad 7)) (C := RX5) (T := TX5) (N := 12) hx hb hts iX5 hown hK hP 0 rfl rfl 2 (Nat.le_of_ble_eq_true rfl) f26 (fun _ h9 => h9) rfl dX5_insert_23 ?_
        refine va_get (D := D) (ci := 2) (v := .int row.2.2) (C := RX2) (T := TX2) (N := 3) hx hb hts iX2 hown hK hP 1 rfl rfl 2 (Nat.le_of_ble_eq_true rfl) f135 (fun _ h9 => h9) rfl dX5_insert_26 ?_
        refine lv_bipush (v := 120) hx hb dX5_insert_29 (by decide) ?_
        refine lv_icmp_lt (tgt := 36) hx hb dX5_insert_31 (by decide) (fun c5 => ?_) (fun c5 => ?_)
        · have h := e_t c5 h
          refine lv_aload_n hx hb dX5_insert_36 rfl (lv_at hl 0 rfl) ?_
          refine va_get (D := D) (ci := 5) (v := .ref (ad 10)) (C := RX5) (T := TX5) (N := 12) hx hb hts iX5 hown hK hP 0 rfl rfl 3 (Nat.le_of_ble_eq_true rfl) f30 (fun _ h9 => h9) rfl dX5_insert_37 ?_
          refine lv_aload_n hx hb dX5_insert_40 rfl (lv_at hl 0 rfl) ?_
          refine va_get (D := D) (ci := 5) (v := .ref (ad 7)) (C := RX5) (T := TX5) (N := 12) hx hb hts iX5 hown hK hP 0 rfl rfl 2 (Nat.le_of_ble_eq_true rfl) f26 (fun _ h9 => h9) rfl dX5_insert_41 ?_
          obtain ⟨q6, eq6, h⟩ := e_b h
          refine xv_v (As := [.ref (ad 7)]) (rest := []) (ci := 2) (b := ad 10) ⟨hx, hb, hml, hown, hts⟩ hl.1 (kX2_take l D cA (fun i => ad (10 + i)) (fun i => ad (7 + i)) next row   _ eq6) (cwV 1 hts gX5_insert_X2_take rfl rfl rfl (by decide +kernel) ⟨Nat.le_of_ble_eq_true rfl, Nat.le_of_ble_eq_true rfl⟩) rfl hK hP hD hS hA 4 rfl rfl rfl [4, 5, 6, 1, 2, 3] rfl (by decide +kernel) rfl (Nat.le_of_ble_eq_true rfl) dX5_insert_44 ⟨Nat.zero_le _, Nat.zero_le _⟩ (fun H locs hP hD hS => ?_)
          have hP : va_P D vwCl (wD_row_next_past cA ad block ties lines pmn row q6 past) H := hP
          have hD : va_D A (wD_row_next_past cA ad block ties lines pmn row q6 past) := hD
          refine lv_aload_n hx hb dX5_insert_47 rfl (lv_at hl 0 rfl) ?_
          refine va_get (D := D) (ci := 5) (v := .ref (ad 10)) (C := RX5) (T := TX5) (N := 12) hx hb hts iX5 hown hK hP 0 rfl rfl 3 (Nat.le_of_ble_eq_true rfl) f30 (fun _ h9 => h9) rfl dX5_insert_48 ?_
          refine lv_iload_n hx hb dX5_insert_51 rfl (lv_at hl 1 rfl) ?_
          refine lv_iload_n hx hb dX5_insert_52 rfl (lv_at hl 2 rfl) ?_
          obtain ⟨q7, eq7, h⟩ := e_b h
          refine xv_v (As := [.int x1, .int x2]) (rest := []) (ci := 2) (b := ad 10) ⟨hx, hb, hml, hown, hts⟩ hl.1 (kX2_open l D cA (fun i => ad (10 + i)) q6 x1 x2  _ eq7) (cwV 2 hts gX5_insert_X2_open rfl rfl rfl (by decide +kernel) ⟨Nat.le_of_ble_eq_true rfl, Nat.le_of_ble_eq_true rfl⟩) rfl hK hP hD hS hA 4 rfl rfl rfl [4, 5, 6] rfl (by decide +kernel) rfl (Nat.le_of_ble_eq_true rfl) dX5_insert_53 ⟨Nat.zero_le _, Nat.zero_le _⟩ (fun H locs hP hD hS => ?_)
          have hP : va_P D vwCl (wD_row_next_past cA ad block ties lines pmn row q7 past) H := hP
          have hD : va_D A (wD_row_next_past cA ad block ties lines pmn row q7 past) := hD
          refine lv_aload_n hx hb dX5_insert_56 rfl (lv_at hl 0 rfl) ?_
          obtain ⟨q8, eq8, h⟩ := e_b h
          refine xv_i0 (As := []) (rest := []) (ci := 5) (b := ad 0) ⟨hx, hb, hml, hown, hts⟩ hl.1 (kX5_settle l D cA ad block ties lines pmn row q7 past   _ eq8) (cwV 0 hts gX5_insert_X5_settle rfl rfl rfl (by decide +kernel) ⟨Nat.le_of_ble_eq_true rfl, Nat.le_of_ble_eq_true rfl⟩) rfl hK hP hD hS hA 0 rfl rfl rfl rfl (Nat.le_of_ble_eq_true rfl) dX5_insert_57 ⟨Nat.zero_le _, Nat.zero_le _⟩ (fun H locs hP hD hS hnq8 => ?_)
          have hP : va_P D vwCl (wD_row_next_past cA ad block ties lines q8.2.1 q8.2.2.1 q7 q8.2.2.2) H := hP
          have hD : va_D A (wD_row_next_past cA ad block ties lines q8.2.1 q8.2.2.1 q7 q8.2.2.2) := hD
          refine lv_pop hx hb dX5_insert_60 rfl ?_
          refine lv_aload_n hx hb dX5_insert_61 rfl (lv_at hl 0 rfl) ?_
          refine va_get (D := D) (ci := 5) (v := .ref (ad 7)) (C := RX5) (T := TX5) (N := 12) hx hb hts iX5 hown hK hP 0 rfl rfl 2 (Nat.le_of_ble_eq_true rfl) f26 (fun _ h9 => h9) rfl dX5_insert_62 ?_
          refine va_get (D := D) (ci := 2) (v := .int q8.2.2.1.2.2) (C := RX2) (T := TX2) (N := 3) hx hb hts iX2 hown hK hP 1 rfl rfl 2 (Nat.le_of_ble_eq_true rfl) f135 (fun _ h9 => h9) rfl dX5_insert_65 ?_
          obtain rfl := e_s h
          exact hret hP hS rfl dX5_insert_68
        · have h := e_f c5 h
          refine lv_iconst (v := (-1)) hx hb dX5_insert_34 (by decide) ?_
          obtain rfl := e_s h
          exact hret hP hS rfl dX5_insert_35
set_option maxHeartbeats 4000000 in
set_option maxRecDepth 100000 in
theorem kX5_remove (l : Launch) (D : va_G) (cA : Nat → ClassId) (ad : Nat → Nat) (block : Int32) (ties : Int32) (lines : Int32) (pmn : Int32) (row : RowT) (next : RowT) (past : PasT) (x1 : Int32) (q : Int32 × Int32 × RowT × RowT × PasT) (h : mX5_remove block pmn row next past x1 = some q) : MI l yX5_remove wsX5_remove { frames := 5, cells := 0, slots := 0, locals := 119 } D cA .int [.ref (ad 0), .int x1] (wD_row_next_past cA ad block ties lines pmn row next past) (wD_row_next_past cA ad block ties lines q.2.1 q.2.2.1 q.2.2.2.1 q.2.2.2.2) q.1 := by
  refine MI.of (cc := cX5_remove) (maxL := 3) (by decide +kernel) rfl rfl rfl (Nat.le_of_ble_eq_true rfl) ?_
  intro p e s m args below meth c A ls Q hx hb hml hts hown hK hP hD hA hS hl hret
  have hl : lv_has ls 3 [(0, .ref (ad 0)), (1, .int x1)] := hl
  have f106 := hts (.fieldLink RX5 106 "ModeDesk$Row" "values" "[I") (by decide +kernel)
  have f26 := hts (.fieldLink RX5 26 "ModeDesk" "row" "LModeDesk$Row;") (by decide +kernel)
  have f30 := hts (.fieldLink RX5 30 "ModeDesk" "next" "LModeDesk$Row;") (by decide +kernel)
  have iX2 : ∀ w ∈ wsX20, w ∈ wsX5_remove := by decide +kernel
  have iX5 : ∀ w ∈ wsX50, w ∈ wsX5_remove := by decide +kernel
  unfold mX5_remove at h
  refine lv_aload_n hx hb dX5_remove_0 rfl (lv_at hl 0 rfl) ?_
  refine va_get (D := D) (ci := 5) (v := .ref (ad 7)) (C := RX5) (T := TX5) (N := 12) hx hb hts iX5 hown hK hP 0 rfl rfl 2 (Nat.le_of_ble_eq_true rfl) f26 (fun _ h9 => h9) rfl dX5_remove_1 ?_
  refine lv_iload_n hx hb dX5_remove_4 rfl (lv_at hl 1 rfl) ?_
  obtain ⟨q1, eq1, h⟩ := e_b h
  refine xv_i (As := [.int x1]) (rest := []) (ci := 2) (b := ad 7) ⟨hx, hb, hml, hown, hts⟩ hl.1 (kX2_has l D cA (fun i => ad (7 + i)) row x1  _ eq1) (cwV 1 hts gX5_remove_X2_has rfl rfl rfl (by decide +kernel) ⟨Nat.le_of_ble_eq_true rfl, Nat.le_of_ble_eq_true rfl⟩) rfl hK hP hD hS hA 1 rfl rfl rfl [1, 2, 3] rfl (by decide +kernel) rfl (Nat.le_of_ble_eq_true rfl) dX5_remove_5 ⟨Nat.zero_le _, Nat.zero_le _⟩ (fun H locs hP hD hS hnq1 => ?_)
  have hP : va_P D vwCl (wD_row_next_past cA ad block ties lines pmn row next past) H := hP
  have hD : va_D A (wD_row_next_past cA ad block ties lines pmn row next past) := hD
  refine lv_if_ne (tgt := 13) hx hb dX5_remove_8 (by decide) (fun c2 => ?_) (fun c2 => ?_)
  · have h := e_t c2 h
    refine lv_aload_n hx hb dX5_remove_13 rfl (lv_at hl 0 rfl) ?_
    refine va_get (D := D) (ci := 5) (v := .ref (ad 7)) (C := RX5) (T := TX5) (N := 12) hx hb hts iX5 hown hK hP 0 rfl rfl 2 (Nat.le_of_ble_eq_true rfl) f26 (fun _ h9 => h9) rfl dX5_remove_14 ?_
    refine va_get (D := D) (ci := 2) (v := .ref (ad 8)) (C := RX2) (T := TX2) (N := 3) hx hb hts iX2 hown hK hP 1 rfl rfl 0 (Nat.le_of_ble_eq_true rfl) f106 (fun _ h9 => h9) rfl dX5_remove_17 ?_
    refine lv_iload_n hx hb dX5_remove_20 rfl (lv_at hl 1 rfl) ?_
    obtain ⟨v3, ev3, nv3, h⟩ := e_rd h
    refine xa_iald hx hb hK hP 2 rfl nv3 ev3 dX5_remove_21 ?_
    refine lv_istore_n (lv' := [(2, .int v3), (0, .ref (ad 0)), (1, .int x1)]) hx hb dX5_remove_22 rfl hl (by decide) rfl (fun ls hl => ?_)
    refine lv_aload_n hx hb dX5_remove_23 rfl (lv_at hl 1 rfl) ?_
    refine va_get (D := D) (ci := 5) (v := .ref (ad 10)) (C := RX5) (T := TX5) (N := 12) hx hb hts iX5 hown hK hP 0 rfl rfl 3 (Nat.le_of_ble_eq_true rfl) f30 (fun _ h9 => h9) rfl dX5_remove_24 ?_
    refine lv_aload_n hx hb dX5_remove_27 rfl (lv_at hl 1 rfl) ?_
    refine va_get (D := D) (ci := 5) (v := .ref (ad 7)) (C := RX5) (T := TX5) (N := 12) hx hb hts iX5 hown hK hP 0 rfl rfl 2 (Nat.le_of_ble_eq_true rfl) f26 (fun _ h9 => h9) rfl dX5_remove_28 ?_
    obtain ⟨q4, eq4, h⟩ := e_b h
    refine xv_v (As := [.ref (ad 7)]) (rest := []) (ci := 2) (b := ad 10) ⟨hx, hb, hml, hown, hts⟩ hl.1 (kX2_take l D cA (fun i => ad (10 + i)) (fun i => ad (7 + i)) next row   _ eq4) (cwV 1 hts gX5_remove_X2_take rfl rfl rfl (by decide +kernel) ⟨Nat.le_of_ble_eq_true rfl, Nat.le_of_ble_eq_true rfl⟩) rfl hK hP hD hS hA 4 rfl rfl rfl [4, 5, 6, 1, 2, 3] rfl (by decide +kernel) rfl (Nat.le_of_ble_eq_true rfl) dX5_remove_31 ⟨Nat.zero_le _, Nat.zero_le _⟩ (fun H locs hP hD hS => ?_)
    have hP : va_P D vwCl (wD_row_next_past cA ad block ties lines pmn row q4 past) H := hP
    have hD : va_D A (wD_row_next_past cA ad block ties lines pmn row q4 past) := hD
    refine lv_aload_n hx hb dX5_remove_34 rfl (lv_at hl 1 rfl) ?_
    refine va_get (D := D) (ci := 5) (v := .ref (ad 10)) (C := RX5) (T := TX5) (N := 12) hx hb hts iX5 hown hK hP 0 rfl rfl 3 (Nat.le_of_ble_eq_true rfl) f30 (fun _ h9 => h9) rfl dX5_remove_35 ?_
    refine lv_iload_n hx hb dX5_remove_38 rfl (lv_at hl 2 rfl) ?_
    obtain ⟨q5, eq5, h⟩ := e_b h
    refine xv_v (As := [.int x1]) (rest := []) (ci := 2) (b := ad 10) ⟨hx, hb, hml, hown, hts⟩ hl.1 (kX2_close l D cA (fun i => ad (10 + i)) q4 x1  _ eq5) (cwV 1 hts gX5_remove_X2_close rfl rfl rfl (by decide +kernel) ⟨Nat.le_of_ble_eq_true rfl, Nat.le_of_ble_eq_true rfl⟩) rfl hK hP hD hS hA 4 rfl rfl rfl [4, 5, 6] rfl (by decide +kernel) rfl (Nat.le_of_ble_eq_true rfl) dX5_remove_39 ⟨Nat.zero_le _, Nat.zero_le _⟩ (fun H locs hP hD hS => ?_)
    have hP : va_P D vwCl (wD_row_next_past cA ad block ties lines pmn row q5 past) H := hP
    have hD : va_D A (wD_row_next_past cA ad block ties lines pmn row q5 past) := hD
    refine lv_aload_n hx hb dX5_remove_42 rfl (lv_at hl 1 rfl) ?_
    obtain ⟨q6, eq6, h⟩ := e_b h
    refine xv_i0 (As := []) (rest := []) (ci := 5) (b := ad 0) ⟨hx, hb, hml, hown, hts⟩ hl.1 (kX5_settle l D cA ad block ties lines pmn row q5 past   _ eq6) (cwV 0 hts gX5_remove_X5_settle rfl rfl rfl (by decide +kernel) ⟨Nat.le_of_ble_eq_true rfl, Nat.le_of_ble_eq_true rfl⟩) rfl hK hP hD hS hA 0 rfl rfl rfl rfl (Nat.le_of_ble_eq_true rfl) dX5_remove_43 ⟨Nat.zero_le _, Nat.zero_le _⟩ (fun H locs hP hD hS hnq6 => ?_)
    have hP : va_P D vwCl (wD_row_next_past cA ad block ties lines q6.2.1 q6.2.2.1 q5 q6.2.2.2) H := hP
    have hD : va_D A (wD_row_next_past cA ad block ties lines q6.2.1 q6.2.2.1 q5 q6.2.2.2) := hD
    refine lv_pop hx hb dX5_remove_46 rfl ?_
    refine lv_iload_n hx hb dX5_remove_47 rfl (lv_at hl 0 rfl) ?_
    obtain rfl := e_s h
    exact hret hP hS rfl dX5_remove_48
  · have h := e_f (not_not_intro c2) h
    refine lv_iconst (v := (-1)) hx hb dX5_remove_11 (by decide) ?_
    obtain rfl := e_s h
    exact hret hP hS rfl dX5_remove_12
set_option maxHeartbeats 4000000 in
set_option maxRecDepth 100000 in
theorem kX5_fill (l : Launch) (D : va_G) (cA : Nat → ClassId) (ad : Nat → Nat) (block : Int32) (ties : Int32) (lines : Int32) (pmn : Int32) (row : RowT) (next : RowT) (past : PasT) (x1 : Int32) (x2 : Int32) (x3 : Int32) (q : Int32 × Int32 × RowT × RowT × PasT) (h : mX5_fill block pmn row next past x1 x2 x3 = some q) : MI l yX5_fill wsX5_fill { frames := 5, cells := 0, slots := 0, locals := 119 } D cA .int [.ref (ad 0), .int x1, .int x2, .int x3] (wD_row_next_past cA ad block ties lines pmn row next past) (wD_row_next_past cA ad block ties lines q.2.1 q.2.2.1 q.2.2.2.1 q.2.2.2.2) q.1 := by
  refine MI.of (cc := cX5_fill) (maxL := 5) (by decide +kernel) rfl rfl rfl (Nat.le_of_ble_eq_true rfl) ?_
  intro p e s m args below meth c A ls Q hx hb hml hts hown hK hP hD hA hS hl hret
  have hl : lv_has ls 5 [(0, .ref (ad 0)), (1, .int x1), (2, .int x2), (3, .int x3)] := hl
  have f106 := hts (.fieldLink RX5 106 "ModeDesk$Row" "values" "[I") (by decide +kernel)
  have f26 := hts (.fieldLink RX5 26 "ModeDesk" "row" "LModeDesk$Row;") (by decide +kernel)
  have f30 := hts (.fieldLink RX5 30 "ModeDesk" "next" "LModeDesk$Row;") (by decide +kernel)
  have iX2 : ∀ w ∈ wsX20, w ∈ wsX5_fill := by decide +kernel
  have iX5 : ∀ w ∈ wsX50, w ∈ wsX5_fill := by decide +kernel
  unfold mX5_fill at h
  refine lv_aload_n hx hb dX5_fill_0 rfl (lv_at hl 0 rfl) ?_
  refine va_get (D := D) (ci := 5) (v := .ref (ad 7)) (C := RX5) (T := TX5) (N := 12) hx hb hts iX5 hown hK hP 0 rfl rfl 2 (Nat.le_of_ble_eq_true rfl) f26 (fun _ h9 => h9) rfl dX5_fill_1 ?_
  refine lv_iload_n hx hb dX5_fill_4 rfl (lv_at hl 1 rfl) ?_
  refine lv_iload_n hx hb dX5_fill_5 rfl (lv_at hl 2 rfl) ?_
  obtain ⟨q1, eq1, h⟩ := e_b h
  refine xv_i (As := [.int x1, .int x2]) (rest := []) (ci := 2) (b := ad 7) ⟨hx, hb, hml, hown, hts⟩ hl.1 (kX2_hasSpan l D cA (fun i => ad (7 + i)) row x1 x2  _ eq1) (cwV 2 hts gX5_fill_X2_hasSpan rfl rfl rfl (by decide +kernel) ⟨Nat.le_of_ble_eq_true rfl, Nat.le_of_ble_eq_true rfl⟩) rfl hK hP hD hS hA 1 rfl rfl rfl [1, 2, 3] rfl (by decide +kernel) rfl (Nat.le_of_ble_eq_true rfl) dX5_fill_6 ⟨Nat.zero_le _, Nat.zero_le _⟩ (fun H locs hP hD hS hnq1 => ?_)
  have hP : va_P D vwCl (wD_row_next_past cA ad block ties lines pmn row next past) H := hP
  have hD : va_D A (wD_row_next_past cA ad block ties lines pmn row next past) := hD
  refine lv_if_eq (tgt := 19) hx hb dX5_fill_9 (by decide) (fun c2 => ?_) (fun c2 => ?_)
  · have h := e_t c2 h
    refine lv_iconst (v := (-1)) hx hb dX5_fill_19 (by decide) ?_
    obtain rfl := e_s h
    exact hret hP hS rfl dX5_fill_20
  · have h := e_f c2 h
    refine lv_iload_n hx hb dX5_fill_12 rfl (lv_at hl 3 rfl) ?_
    obtain ⟨q3, eq3, h⟩ := e_b h
    refine xs_i (As := [.int x3]) (rest := []) ⟨hx, hb, hml, hown, hts⟩ hl.1 (kX5_isValue l D cA   x3  _ eq3) (va_cwS 1 hts gX5_fill_X5_isValue rfl rfl rfl (by decide +kernel) ⟨Nat.le_of_ble_eq_true rfl, Nat.le_of_ble_eq_true rfl⟩) rfl hK hP hD hS hA [] rfl (by decide +kernel) rfl (Nat.le_of_ble_eq_true rfl) dX5_fill_13 ⟨Nat.zero_le _, Nat.zero_le _⟩ (fun H locs hP hD hS hnq3 => ?_)
    have hP : va_P D vwCl (wD_row_next_past cA ad block ties lines pmn row next past) H := hP
    have hD : va_D A (wD_row_next_past cA ad block ties lines pmn row next past) := hD
    refine lv_if_ne (tgt := 21) hx hb dX5_fill_16 (by decide) (fun c4 => ?_) (fun c4 => ?_)
    · have h := e_t c4 h
      refine lv_aload_n hx hb dX5_fill_21 rfl (lv_at hl 0 rfl) ?_
      refine va_get (D := D) (ci := 5) (v := .ref (ad 10)) (C := RX5) (T := TX5) (N := 12) hx hb hts iX5 hown hK hP 0 rfl rfl 3 (Nat.le_of_ble_eq_true rfl) f30 (fun _ h9 => h9) rfl dX5_fill_22 ?_
      refine lv_aload_n hx hb dX5_fill_25 rfl (lv_at hl 0 rfl) ?_
      refine va_get (D := D) (ci := 5) (v := .ref (ad 7)) (C := RX5) (T := TX5) (N := 12) hx hb hts iX5 hown hK hP 0 rfl rfl 2 (Nat.le_of_ble_eq_true rfl) f26 (fun _ h9 => h9) rfl dX5_fill_26 ?_
      obtain ⟨q5, eq5, h⟩ := e_b h
      refine xv_v (As := [.ref (ad 7)]) (rest := []) (ci := 2) (b := ad 10) ⟨hx, hb, hml, hown, hts⟩ hl.1 (kX2_take l D cA (fun i => ad (10 + i)) (fun i => ad (7 + i)) next row   _ eq5) (cwV 1 hts gX5_fill_X2_take rfl rfl rfl (by decide +kernel) ⟨Nat.le_of_ble_eq_true rfl, Nat.le_of_ble_eq_true rfl⟩) rfl hK hP hD hS hA 4 rfl rfl rfl [4, 5, 6, 1, 2, 3] rfl (by decide +kernel) rfl (Nat.le_of_ble_eq_true rfl) dX5_fill_29 ⟨Nat.zero_le _, Nat.zero_le _⟩ (fun H locs hP hD hS => ?_)
      have hP : va_P D vwCl (wD_row_next_past cA ad block ties lines pmn row q5 past) H := hP
      have hD : va_D A (wD_row_next_past cA ad block ties lines pmn row q5 past) := hD
      refine lv_iload_n hx hb dX5_fill_32 rfl (lv_at hl 1 rfl) ?_
      refine lv_istore (lv' := [(4, .int x1), (0, .ref (ad 0)), (1, .int x1), (2, .int x2), (3, .int x3)]) hx hb dX5_fill_33 hl (by decide) rfl (fun ls hl => ?_)
      have hL35 : ∀ (n : Nat) (x2 : Int32) (x3 : Int32) (x4 : Int32) (block : Int32) (ties : Int32) (lines : Int32) (pmn : Int32) (row : RowT) (next : RowT) (past : PasT) (z6 : RowT) (ls : Array Slot) (H : Heap) (locs : List Loc), lv_has ls 5 [(0, .ref (ad 0)), (2, .int x2), (3, .int x3), (4, .int x4)] → va_P D vwCl (wD_row_next_past cA ad block ties lines pmn row next past) H → va_D A (wD_row_next_past cA ad block ties lines pmn row next past) → va_S A s.heap H locs → mX5_fill_L35 x2 x3 n x4 next = some z6 → (∀ (ls : Array Slot) (H : Heap) (locs : List Loc), lv_has ls 5 [(0, .ref (ad 0))] → va_P D vwCl (wD_row_next_past cA ad block ties lines pmn row z6 past) H → va_D A (wD_row_next_past cA ad block ties lines pmn row z6 past) → va_S A s.heap H locs → W p l e (headSpec wsX5_fill { frames := 5, cells := 0, slots := 0, locals := 119 }).room s m args below meth c H locs 0 0 Q (F0 m 58 ls [])) → W p l e (headSpec wsX5_fill { frames := 5, cells := 0, slots := 0, locals := 119 }).room s m args below meth c H locs 0 0 Q (F0 m 35 ls []) := by
        intro n
        induction n with
        | zero => intro x2 x3 x4 block ties lines pmn row next past z6 ls H locs hl hP hD hS h hk35; exact e_n h
        | succ n ih35 =>
          intro x2 x3 x4 block ties lines pmn row next past z6 ls H locs hl hP hD hS h hk35
          rw [mX5_fill_L35.eq_2] at h
          refine lv_iload hx hb dX5_fill_35 (lv_at hl 3 rfl) ?_
          refine lv_iload_n hx hb dX5_fill_37 rfl (lv_at hl 1 rfl) ?_
          refine lv_icmp_gt (tgt := 58) hx hb dX5_fill_38 (by decide) (fun c7 => ?_) (fun c7 => ?_)
          · have h := e_t c7 h
            obtain rfl := e_s h
            exact hk35 _ _ _ (lv_sub hl [0] rfl) hP hD hS
          · have h := e_f c7 h
            refine lv_aload_n hx hb dX5_fill_41 rfl (lv_at hl 0 rfl) ?_
            refine va_get (D := D) (ci := 5) (v := .ref (ad 10)) (C := RX5) (T := TX5) (N := 12) hx hb hts iX5 hown hK hP 0 rfl rfl 3 (Nat.le_of_ble_eq_true rfl) f30 (fun _ h9 => h9) rfl dX5_fill_42 ?_
            refine va_get (D := D) (ci := 2) (v := .ref (ad 11)) (C := RX2) (T := TX2) (N := 3) hx hb hts iX2 hown hK hP 4 rfl rfl 0 (Nat.le_of_ble_eq_true rfl) f106 (fun _ h9 => h9) rfl dX5_fill_45 ?_
            refine lv_iload hx hb dX5_fill_48 (lv_at hl 3 rfl) ?_
            refine lv_iload_n hx hb dX5_fill_50 rfl (lv_at hl 2 rfl) ?_
            obtain ⟨a8, ea8, na8, h⟩ := e_wr h
            refine xa_iast hx hb hK hP hD hS 5 rfl na8 ea8 dX5_fill_51 (fun H locs hP hD hS => ?_)
            have hP : va_P D vwCl (wD_row_next_past cA ad block ties lines pmn row (a8, next.2.1, next.2.2) past) H := hP
            have hD : va_D A (wD_row_next_past cA ad block ties lines pmn row (a8, next.2.1, next.2.2) past) := hD
            refine lv_iinc (v := (x4 + 1)) (lv' := [(4, .int (x4 + 1)), (0, .ref (ad 0)), (2, .int x2), (3, .int x3)]) hx hb dX5_fill_52 hl (k := 3) rfl rfl (by decide) rfl (fun ls hl => ?_)
            refine lv_goto (tgt := 35) hx hb dX5_fill_55 (by decide) ?_
            exact ih35 x2 x3 (x4 + 1) block ties lines pmn row (a8, next.2.1, next.2.2) past z6 _ _ _ (lv_sub hl [1, 2, 3, 0] rfl) hP hD hS h hk35
      obtain ⟨z9, ez9, h⟩ := e_b h
      refine hL35 FU x2 x3 x1 block ties lines pmn row q5 past z9 _ _ _ (lv_sub hl [1, 3, 4, 0] rfl) hP hD hS ez9 (fun ls H locs hl hP hD hS => ?_)
      refine lv_aload_n hx hb dX5_fill_58 rfl (lv_at hl 0 rfl) ?_
      obtain ⟨q10, eq10, h⟩ := e_b h
      refine xv_i0 (As := []) (rest := []) (ci := 5) (b := ad 0) ⟨hx, hb, hml, hown, hts⟩ hl.1 (kX5_settle l D cA ad block ties lines pmn row z9 past   _ eq10) (cwV 0 hts gX5_fill_X5_settle rfl rfl rfl (by decide +kernel) ⟨Nat.le_of_ble_eq_true rfl, Nat.le_of_ble_eq_true rfl⟩) rfl hK hP hD hS hA 0 rfl rfl rfl rfl (Nat.le_of_ble_eq_true rfl) dX5_fill_59 ⟨Nat.zero_le _, Nat.zero_le _⟩ (fun H locs hP hD hS hnq10 => ?_)
      have hP : va_P D vwCl (wD_row_next_past cA ad block ties lines q10.2.1 q10.2.2.1 z9 q10.2.2.2) H := hP
      have hD : va_D A (wD_row_next_past cA ad block ties lines q10.2.1 q10.2.2.1 z9 q10.2.2.2) := hD
      obtain rfl := e_s h
      exact hret hP hS rfl dX5_fill_62
    · have h := e_f (not_not_intro c4) h
      refine lv_iconst (v := (-1)) hx hb dX5_fill_19 (by decide) ?_
      obtain rfl := e_s h
      exact hret hP hS rfl dX5_fill_20
set_option maxHeartbeats 4000000 in
set_option maxRecDepth 100000 in
theorem kX5_swap (l : Launch) (D : va_G) (cA : Nat → ClassId) (ad : Nat → Nat) (block : Int32) (ties : Int32) (lines : Int32) (pmn : Int32) (row : RowT) (next : RowT) (past : PasT) (x1 : Int32) (x2 : Int32) (q : Int32 × Int32 × RowT × RowT × PasT) (h : mX5_swap block pmn row next past x1 x2 = some q) : MI l yX5_swap wsX5_swap { frames := 5, cells := 0, slots := 0, locals := 119 } D cA .boolean [.ref (ad 0), .int x1, .int x2] (wD_row_next_past cA ad block ties lines pmn row next past) (wD_row_next_past cA ad block ties lines q.2.1 q.2.2.1 q.2.2.2.1 q.2.2.2.2) q.1 := by
  refine MI.of (cc := cX5_swap) (maxL := 3) (by decide +kernel) rfl rfl rfl (Nat.le_of_ble_eq_true rfl) ?_
  intro p e s m args below meth c A ls Q hx hb hml hts hown hK hP hD hA hS hl hret
  have hl : lv_has ls 3 [(0, .ref (ad 0)), (1, .int x1), (2, .int x2)] := hl
  have f26 := hts (.fieldLink RX5 26 "ModeDesk" "row" "LModeDesk$Row;") (by decide +kernel)
  have f30 := hts (.fieldLink RX5 30 "ModeDesk" "next" "LModeDesk$Row;") (by decide +kernel)
  have iX5 : ∀ w ∈ wsX50, w ∈ wsX5_swap := by decide +kernel
  unfold mX5_swap at h
  refine lv_aload_n hx hb dX5_swap_0 rfl (lv_at hl 0 rfl) ?_
  refine va_get (D := D) (ci := 5) (v := .ref (ad 7)) (C := RX5) (T := TX5) (N := 12) hx hb hts iX5 hown hK hP 0 rfl rfl 2 (Nat.le_of_ble_eq_true rfl) f26 (fun _ h9 => h9) rfl dX5_swap_1 ?_
  refine lv_iload_n hx hb dX5_swap_4 rfl (lv_at hl 1 rfl) ?_
  obtain ⟨q1, eq1, h⟩ := e_b h
  refine xv_i (As := [.int x1]) (rest := []) (ci := 2) (b := ad 7) ⟨hx, hb, hml, hown, hts⟩ hl.1 (kX2_has l D cA (fun i => ad (7 + i)) row x1  _ eq1) (cwV 1 hts gX5_swap_X2_has rfl rfl rfl (by decide +kernel) ⟨Nat.le_of_ble_eq_true rfl, Nat.le_of_ble_eq_true rfl⟩) rfl hK hP hD hS hA 1 rfl rfl rfl [1, 2, 3] rfl (by decide +kernel) rfl (Nat.le_of_ble_eq_true rfl) dX5_swap_5 ⟨Nat.zero_le _, Nat.zero_le _⟩ (fun H locs hP hD hS hnq1 => ?_)
  have hP : va_P D vwCl (wD_row_next_past cA ad block ties lines pmn row next past) H := hP
  have hD : va_D A (wD_row_next_past cA ad block ties lines pmn row next past) := hD
  refine lv_if_eq (tgt := 27) hx hb dX5_swap_8 (by decide) (fun c2 => ?_) (fun c2 => ?_)
  · have h := e_t c2 h
    refine lv_iconst (v := 0) hx hb dX5_swap_27 (by decide) ?_
    obtain rfl := e_s h
    exact hret hP hS (show narrow .boolean (.int 0) = .int 0 from rfl) dX5_swap_28
  · have h := e_f c2 h
    refine lv_aload_n hx hb dX5_swap_11 rfl (lv_at hl 0 rfl) ?_
    refine va_get (D := D) (ci := 5) (v := .ref (ad 7)) (C := RX5) (T := TX5) (N := 12) hx hb hts iX5 hown hK hP 0 rfl rfl 2 (Nat.le_of_ble_eq_true rfl) f26 (fun _ h9 => h9) rfl dX5_swap_12 ?_
    refine lv_iload_n hx hb dX5_swap_15 rfl (lv_at hl 2 rfl) ?_
    obtain ⟨q3, eq3, h⟩ := e_b h
    refine xv_i (As := [.int x2]) (rest := []) (ci := 2) (b := ad 7) ⟨hx, hb, hml, hown, hts⟩ hl.1 (kX2_has l D cA (fun i => ad (7 + i)) row x2  _ eq3) (cwV 1 hts gX5_swap_X2_has rfl rfl rfl (by decide +kernel) ⟨Nat.le_of_ble_eq_true rfl, Nat.le_of_ble_eq_true rfl⟩) rfl hK hP hD hS hA 1 rfl rfl rfl [1, 2, 3] rfl (by decide +kernel) rfl (Nat.le_of_ble_eq_true rfl) dX5_swap_16 ⟨Nat.zero_le _, Nat.zero_le _⟩ (fun H locs hP hD hS hnq3 => ?_)
    have hP : va_P D vwCl (wD_row_next_past cA ad block ties lines pmn row next past) H := hP
    have hD : va_D A (wD_row_next_past cA ad block ties lines pmn row next past) := hD
    refine lv_if_eq (tgt := 27) hx hb dX5_swap_19 (by decide) (fun c4 => ?_) (fun c4 => ?_)
    · have h := e_t c4 h
      refine lv_iconst (v := 0) hx hb dX5_swap_27 (by decide) ?_
      obtain rfl := e_s h
      exact hret hP hS (show narrow .boolean (.int 0) = .int 0 from rfl) dX5_swap_28
    · have h := e_f c4 h
      refine lv_iload_n hx hb dX5_swap_22 rfl (lv_at hl 1 rfl) ?_
      refine lv_iload_n hx hb dX5_swap_23 rfl (lv_at hl 2 rfl) ?_
      refine lv_icmp_ne (tgt := 29) hx hb dX5_swap_24 (by decide) (fun c5 => ?_) (fun c5 => ?_)
      · have h := e_t c5 h
        refine lv_aload_n hx hb dX5_swap_29 rfl (lv_at hl 0 rfl) ?_
        refine va_get (D := D) (ci := 5) (v := .ref (ad 10)) (C := RX5) (T := TX5) (N := 12) hx hb hts iX5 hown hK hP 0 rfl rfl 3 (Nat.le_of_ble_eq_true rfl) f30 (fun _ h9 => h9) rfl dX5_swap_30 ?_
        refine lv_aload_n hx hb dX5_swap_33 rfl (lv_at hl 0 rfl) ?_
        refine va_get (D := D) (ci := 5) (v := .ref (ad 7)) (C := RX5) (T := TX5) (N := 12) hx hb hts iX5 hown hK hP 0 rfl rfl 2 (Nat.le_of_ble_eq_true rfl) f26 (fun _ h9 => h9) rfl dX5_swap_34 ?_
        obtain ⟨q6, eq6, h⟩ := e_b h
        refine xv_v (As := [.ref (ad 7)]) (rest := []) (ci := 2) (b := ad 10) ⟨hx, hb, hml, hown, hts⟩ hl.1 (kX2_take l D cA (fun i => ad (10 + i)) (fun i => ad (7 + i)) next row   _ eq6) (cwV 1 hts gX5_swap_X2_take rfl rfl rfl (by decide +kernel) ⟨Nat.le_of_ble_eq_true rfl, Nat.le_of_ble_eq_true rfl⟩) rfl hK hP hD hS hA 4 rfl rfl rfl [4, 5, 6, 1, 2, 3] rfl (by decide +kernel) rfl (Nat.le_of_ble_eq_true rfl) dX5_swap_37 ⟨Nat.zero_le _, Nat.zero_le _⟩ (fun H locs hP hD hS => ?_)
        have hP : va_P D vwCl (wD_row_next_past cA ad block ties lines pmn row q6 past) H := hP
        have hD : va_D A (wD_row_next_past cA ad block ties lines pmn row q6 past) := hD
        refine lv_aload_n hx hb dX5_swap_40 rfl (lv_at hl 0 rfl) ?_
        refine va_get (D := D) (ci := 5) (v := .ref (ad 10)) (C := RX5) (T := TX5) (N := 12) hx hb hts iX5 hown hK hP 0 rfl rfl 3 (Nat.le_of_ble_eq_true rfl) f30 (fun _ h9 => h9) rfl dX5_swap_41 ?_
        refine lv_iload_n hx hb dX5_swap_44 rfl (lv_at hl 1 rfl) ?_
        refine lv_iload_n hx hb dX5_swap_45 rfl (lv_at hl 2 rfl) ?_
        obtain ⟨q7, eq7, h⟩ := e_b h
        refine xv_v (As := [.int x1, .int x2]) (rest := []) (ci := 2) (b := ad 10) ⟨hx, hb, hml, hown, hts⟩ hl.1 (kX2_exchange l D cA (fun i => ad (10 + i)) q6 x1 x2  _ eq7) (cwV 2 hts gX5_swap_X2_exchange rfl rfl rfl (by decide +kernel) ⟨Nat.le_of_ble_eq_true rfl, Nat.le_of_ble_eq_true rfl⟩) rfl hK hP hD hS hA 4 rfl rfl rfl [4, 5, 6] rfl (by decide +kernel) rfl (Nat.le_of_ble_eq_true rfl) dX5_swap_46 ⟨Nat.zero_le _, Nat.zero_le _⟩ (fun H locs hP hD hS => ?_)
        have hP : va_P D vwCl (wD_row_next_past cA ad block ties lines pmn row q7 past) H := hP
        have hD : va_D A (wD_row_next_past cA ad block ties lines pmn row q7 past) := hD
        refine lv_aload_n hx hb dX5_swap_49 rfl (lv_at hl 0 rfl) ?_
        obtain ⟨q8, eq8, h⟩ := e_b h
        refine xv_i0 (As := []) (rest := []) (ci := 5) (b := ad 0) ⟨hx, hb, hml, hown, hts⟩ hl.1 (kX5_settle l D cA ad block ties lines pmn row q7 past   _ eq8) (cwV 0 hts gX5_swap_X5_settle rfl rfl rfl (by decide +kernel) ⟨Nat.le_of_ble_eq_true rfl, Nat.le_of_ble_eq_true rfl⟩) rfl hK hP hD hS hA 0 rfl rfl rfl rfl (Nat.le_of_ble_eq_true rfl) dX5_swap_50 ⟨Nat.zero_le _, Nat.zero_le _⟩ (fun H locs hP hD hS hnq8 => ?_)
        have hP : va_P D vwCl (wD_row_next_past cA ad block ties lines q8.2.1 q8.2.2.1 q7 q8.2.2.2) H := hP
        have hD : va_D A (wD_row_next_past cA ad block ties lines q8.2.1 q8.2.2.1 q7 q8.2.2.2) := hD
        refine lv_pop hx hb dX5_swap_53 rfl ?_
        refine lv_iconst (v := 1) hx hb dX5_swap_54 (by decide) ?_
        obtain rfl := e_s h
        exact hret hP hS (show narrow .boolean (.int 1) = .int 1 from rfl) dX5_swap_55
      · have h := e_f (not_not_intro c5) h
        refine lv_iconst (v := 0) hx hb dX5_swap_27 (by decide) ?_
        obtain rfl := e_s h
        exact hret hP hS (show narrow .boolean (.int 0) = .int 0 from rfl) dX5_swap_28
set_option maxHeartbeats 4000000 in
set_option maxRecDepth 100000 in
theorem kX5_flip (l : Launch) (D : va_G) (cA : Nat → ClassId) (ad : Nat → Nat) (block : Int32) (ties : Int32) (lines : Int32) (pmn : Int32) (row : RowT) (next : RowT) (past : PasT) (x1 : Int32) (x2 : Int32) (q : Int32 × Int32 × RowT × RowT × PasT) (h : mX5_flip block pmn row next past x1 x2 = some q) : MI l yX5_flip wsX5_flip { frames := 5, cells := 0, slots := 0, locals := 119 } D cA .int [.ref (ad 0), .int x1, .int x2] (wD_row_next_past cA ad block ties lines pmn row next past) (wD_row_next_past cA ad block ties lines q.2.1 q.2.2.1 q.2.2.2.1 q.2.2.2.2) q.1 := by
  refine MI.of (cc := cX5_flip) (maxL := 3) (by decide +kernel) rfl rfl rfl (Nat.le_of_ble_eq_true rfl) ?_
  intro p e s m args below meth c A ls Q hx hb hml hts hown hK hP hD hA hS hl hret
  have hl : lv_has ls 3 [(0, .ref (ad 0)), (1, .int x1), (2, .int x2)] := hl
  have f26 := hts (.fieldLink RX5 26 "ModeDesk" "row" "LModeDesk$Row;") (by decide +kernel)
  have f30 := hts (.fieldLink RX5 30 "ModeDesk" "next" "LModeDesk$Row;") (by decide +kernel)
  have iX5 : ∀ w ∈ wsX50, w ∈ wsX5_flip := by decide +kernel
  unfold mX5_flip at h
  refine lv_aload_n hx hb dX5_flip_0 rfl (lv_at hl 0 rfl) ?_
  refine va_get (D := D) (ci := 5) (v := .ref (ad 7)) (C := RX5) (T := TX5) (N := 12) hx hb hts iX5 hown hK hP 0 rfl rfl 2 (Nat.le_of_ble_eq_true rfl) f26 (fun _ h9 => h9) rfl dX5_flip_1 ?_
  refine lv_iload_n hx hb dX5_flip_4 rfl (lv_at hl 1 rfl) ?_
  refine lv_iload_n hx hb dX5_flip_5 rfl (lv_at hl 2 rfl) ?_
  obtain ⟨q1, eq1, h⟩ := e_b h
  refine xv_i (As := [.int x1, .int x2]) (rest := []) (ci := 2) (b := ad 7) ⟨hx, hb, hml, hown, hts⟩ hl.1 (kX2_hasSpan l D cA (fun i => ad (7 + i)) row x1 x2  _ eq1) (cwV 2 hts gX5_flip_X2_hasSpan rfl rfl rfl (by decide +kernel) ⟨Nat.le_of_ble_eq_true rfl, Nat.le_of_ble_eq_true rfl⟩) rfl hK hP hD hS hA 1 rfl rfl rfl [1, 2, 3] rfl (by decide +kernel) rfl (Nat.le_of_ble_eq_true rfl) dX5_flip_6 ⟨Nat.zero_le _, Nat.zero_le _⟩ (fun H locs hP hD hS hnq1 => ?_)
  have hP : va_P D vwCl (wD_row_next_past cA ad block ties lines pmn row next past) H := hP
  have hD : va_D A (wD_row_next_past cA ad block ties lines pmn row next past) := hD
  refine lv_if_ne (tgt := 14) hx hb dX5_flip_9 (by decide) (fun c2 => ?_) (fun c2 => ?_)
  · have h := e_t c2 h
    refine lv_aload_n hx hb dX5_flip_14 rfl (lv_at hl 0 rfl) ?_
    refine va_get (D := D) (ci := 5) (v := .ref (ad 10)) (C := RX5) (T := TX5) (N := 12) hx hb hts iX5 hown hK hP 0 rfl rfl 3 (Nat.le_of_ble_eq_true rfl) f30 (fun _ h9 => h9) rfl dX5_flip_15 ?_
    refine lv_aload_n hx hb dX5_flip_18 rfl (lv_at hl 0 rfl) ?_
    refine va_get (D := D) (ci := 5) (v := .ref (ad 7)) (C := RX5) (T := TX5) (N := 12) hx hb hts iX5 hown hK hP 0 rfl rfl 2 (Nat.le_of_ble_eq_true rfl) f26 (fun _ h9 => h9) rfl dX5_flip_19 ?_
    obtain ⟨q3, eq3, h⟩ := e_b h
    refine xv_v (As := [.ref (ad 7)]) (rest := []) (ci := 2) (b := ad 10) ⟨hx, hb, hml, hown, hts⟩ hl.1 (kX2_take l D cA (fun i => ad (10 + i)) (fun i => ad (7 + i)) next row   _ eq3) (cwV 1 hts gX5_flip_X2_take rfl rfl rfl (by decide +kernel) ⟨Nat.le_of_ble_eq_true rfl, Nat.le_of_ble_eq_true rfl⟩) rfl hK hP hD hS hA 4 rfl rfl rfl [4, 5, 6, 1, 2, 3] rfl (by decide +kernel) rfl (Nat.le_of_ble_eq_true rfl) dX5_flip_22 ⟨Nat.zero_le _, Nat.zero_le _⟩ (fun H locs hP hD hS => ?_)
    have hP : va_P D vwCl (wD_row_next_past cA ad block ties lines pmn row q3 past) H := hP
    have hD : va_D A (wD_row_next_past cA ad block ties lines pmn row q3 past) := hD
    refine lv_aload_n hx hb dX5_flip_25 rfl (lv_at hl 0 rfl) ?_
    refine va_get (D := D) (ci := 5) (v := .ref (ad 10)) (C := RX5) (T := TX5) (N := 12) hx hb hts iX5 hown hK hP 0 rfl rfl 3 (Nat.le_of_ble_eq_true rfl) f30 (fun _ h9 => h9) rfl dX5_flip_26 ?_
    refine lv_iload_n hx hb dX5_flip_29 rfl (lv_at hl 1 rfl) ?_
    refine lv_iload_n hx hb dX5_flip_30 rfl (lv_at hl 2 rfl) ?_
    obtain ⟨q4, eq4, h⟩ := e_b h
    refine xv_v (As := [.int x1, .int x2]) (rest := []) (ci := 2) (b := ad 10) ⟨hx, hb, hml, hown, hts⟩ hl.1 (kX2_turn l D cA (fun i => ad (10 + i)) q3 x1 x2  _ eq4) (cwV 2 hts gX5_flip_X2_turn rfl rfl rfl (by decide +kernel) ⟨Nat.le_of_ble_eq_true rfl, Nat.le_of_ble_eq_true rfl⟩) rfl hK hP hD hS hA 4 rfl rfl rfl [4, 5, 6] rfl (by decide +kernel) rfl (Nat.le_of_ble_eq_true rfl) dX5_flip_31 ⟨Nat.zero_le _, Nat.zero_le _⟩ (fun H locs hP hD hS => ?_)
    have hP : va_P D vwCl (wD_row_next_past cA ad block ties lines pmn row q4 past) H := hP
    have hD : va_D A (wD_row_next_past cA ad block ties lines pmn row q4 past) := hD
    refine lv_aload_n hx hb dX5_flip_34 rfl (lv_at hl 0 rfl) ?_
    obtain ⟨q5, eq5, h⟩ := e_b h
    refine xv_i0 (As := []) (rest := []) (ci := 5) (b := ad 0) ⟨hx, hb, hml, hown, hts⟩ hl.1 (kX5_settle l D cA ad block ties lines pmn row q4 past   _ eq5) (cwV 0 hts gX5_flip_X5_settle rfl rfl rfl (by decide +kernel) ⟨Nat.le_of_ble_eq_true rfl, Nat.le_of_ble_eq_true rfl⟩) rfl hK hP hD hS hA 0 rfl rfl rfl rfl (Nat.le_of_ble_eq_true rfl) dX5_flip_35 ⟨Nat.zero_le _, Nat.zero_le _⟩ (fun H locs hP hD hS hnq5 => ?_)
    have hP : va_P D vwCl (wD_row_next_past cA ad block ties lines q5.2.1 q5.2.2.1 q4 q5.2.2.2) H := hP
    have hD : va_D A (wD_row_next_past cA ad block ties lines q5.2.1 q5.2.2.1 q4 q5.2.2.2) := hD
    obtain rfl := e_s h
    exact hret hP hS rfl dX5_flip_38
  · have h := e_f (not_not_intro c2) h
    refine lv_iconst (v := (-1)) hx hb dX5_flip_12 (by decide) ?_
    obtain rfl := e_s h
    exact hret hP hS rfl dX5_flip_13
set_option maxHeartbeats 4000000 in
set_option maxRecDepth 100000 in
theorem kX5_shift (l : Launch) (D : va_G) (cA : Nat → ClassId) (ad : Nat → Nat) (block : Int32) (ties : Int32) (lines : Int32) (pmn : Int32) (row : RowT) (next : RowT) (past : PasT) (x1 : Int32) (x2 : Int32) (x3 : Int32) (q : Int32 × Int32 × RowT × RowT × PasT) (h : mX5_shift block pmn row next past x1 x2 x3 = some q) : MI l yX5_shift wsX5_shift { frames := 5, cells := 0, slots := 0, locals := 119 } D cA .int [.ref (ad 0), .int x1, .int x2, .int x3] (wD_row_next_past cA ad block ties lines pmn row next past) (wD_row_next_past cA ad block ties lines q.2.1 q.2.2.1 q.2.2.2.1 q.2.2.2.2) q.1 := by
  refine MI.of (cc := cX5_shift) (maxL := 4) (by decide +kernel) rfl rfl rfl (Nat.le_of_ble_eq_true rfl) ?_
  intro p e s m args below meth c A ls Q hx hb hml hts hown hK hP hD hA hS hl hret
  have hl : lv_has ls 4 [(0, .ref (ad 0)), (1, .int x1), (2, .int x2), (3, .int x3)] := hl
  have f26 := hts (.fieldLink RX5 26 "ModeDesk" "row" "LModeDesk$Row;") (by decide +kernel)
  have f30 := hts (.fieldLink RX5 30 "ModeDesk" "next" "LModeDesk$Row;") (by decide +kernel)
  have iX5 : ∀ w ∈ wsX50, w ∈ wsX5_shift := by decide +kernel
  unfold mX5_shift at h
  refine lv_aload_n hx hb dX5_shift_0 rfl (lv_at hl 0 rfl) ?_
  refine va_get (D := D) (ci := 5) (v := .ref (ad 7)) (C := RX5) (T := TX5) (N := 12) hx hb hts iX5 hown hK hP 0 rfl rfl 2 (Nat.le_of_ble_eq_true rfl) f26 (fun _ h9 => h9) rfl dX5_shift_1 ?_
  refine lv_iload_n hx hb dX5_shift_4 rfl (lv_at hl 1 rfl) ?_
  refine lv_iload_n hx hb dX5_shift_5 rfl (lv_at hl 2 rfl) ?_
  obtain ⟨q1, eq1, h⟩ := e_b h
  refine xv_i (As := [.int x1, .int x2]) (rest := []) (ci := 2) (b := ad 7) ⟨hx, hb, hml, hown, hts⟩ hl.1 (kX2_hasSpan l D cA (fun i => ad (7 + i)) row x1 x2  _ eq1) (cwV 2 hts gX5_shift_X2_hasSpan rfl rfl rfl (by decide +kernel) ⟨Nat.le_of_ble_eq_true rfl, Nat.le_of_ble_eq_true rfl⟩) rfl hK hP hD hS hA 1 rfl rfl rfl [1, 2, 3] rfl (by decide +kernel) rfl (Nat.le_of_ble_eq_true rfl) dX5_shift_6 ⟨Nat.zero_le _, Nat.zero_le _⟩ (fun H locs hP hD hS hnq1 => ?_)
  have hP : va_P D vwCl (wD_row_next_past cA ad block ties lines pmn row next past) H := hP
  have hD : va_D A (wD_row_next_past cA ad block ties lines pmn row next past) := hD
  refine lv_if_eq (tgt := 25) hx hb dX5_shift_9 (by decide) (fun c2 => ?_) (fun c2 => ?_)
  · have h := e_t c2 h
    refine lv_iconst (v := (-1)) hx hb dX5_shift_25 (by decide) ?_
    obtain rfl := e_s h
    exact hret hP hS rfl dX5_shift_26
  · have h := e_f c2 h
    refine lv_iload_n hx hb dX5_shift_12 rfl (lv_at hl 3 rfl) ?_
    refine lv_if_lt (tgt := 25) hx hb dX5_shift_13 (by decide) (fun c3 => ?_) (fun c3 => ?_)
    · have h := e_t c3 h
      refine lv_iconst (v := (-1)) hx hb dX5_shift_25 (by decide) ?_
      obtain rfl := e_s h
      exact hret hP hS rfl dX5_shift_26
    · have h := e_f c3 h
      refine lv_iload_n hx hb dX5_shift_16 rfl (lv_at hl 3 rfl) ?_
      refine lv_iload_n hx hb dX5_shift_17 rfl (lv_at hl 2 rfl) ?_
      refine lv_iload_n hx hb dX5_shift_18 rfl (lv_at hl 1 rfl) ?_
      refine lv_isub hx hb dX5_shift_19 ?_
      refine lv_iconst (v := 1) hx hb dX5_shift_20 (by decide) ?_
      refine lv_iadd hx hb dX5_shift_21 ?_
      refine lv_icmp_le (tgt := 27) hx hb dX5_shift_22 (by decide) (fun c4 => ?_) (fun c4 => ?_)
      · have h := e_t c4 h
        refine lv_aload_n hx hb dX5_shift_27 rfl (lv_at hl 0 rfl) ?_
        refine va_get (D := D) (ci := 5) (v := .ref (ad 10)) (C := RX5) (T := TX5) (N := 12) hx hb hts iX5 hown hK hP 0 rfl rfl 3 (Nat.le_of_ble_eq_true rfl) f30 (fun _ h9 => h9) rfl dX5_shift_28 ?_
        refine lv_aload_n hx hb dX5_shift_31 rfl (lv_at hl 0 rfl) ?_
        refine va_get (D := D) (ci := 5) (v := .ref (ad 7)) (C := RX5) (T := TX5) (N := 12) hx hb hts iX5 hown hK hP 0 rfl rfl 2 (Nat.le_of_ble_eq_true rfl) f26 (fun _ h9 => h9) rfl dX5_shift_32 ?_
        obtain ⟨q5, eq5, h⟩ := e_b h
        refine xv_v (As := [.ref (ad 7)]) (rest := []) (ci := 2) (b := ad 10) ⟨hx, hb, hml, hown, hts⟩ hl.1 (kX2_take l D cA (fun i => ad (10 + i)) (fun i => ad (7 + i)) next row   _ eq5) (cwV 1 hts gX5_shift_X2_take rfl rfl rfl (by decide +kernel) ⟨Nat.le_of_ble_eq_true rfl, Nat.le_of_ble_eq_true rfl⟩) rfl hK hP hD hS hA 4 rfl rfl rfl [4, 5, 6, 1, 2, 3] rfl (by decide +kernel) rfl (Nat.le_of_ble_eq_true rfl) dX5_shift_35 ⟨Nat.zero_le _, Nat.zero_le _⟩ (fun H locs hP hD hS => ?_)
        have hP : va_P D vwCl (wD_row_next_past cA ad block ties lines pmn row q5 past) H := hP
        have hD : va_D A (wD_row_next_past cA ad block ties lines pmn row q5 past) := hD
        refine lv_aload_n hx hb dX5_shift_38 rfl (lv_at hl 0 rfl) ?_
        refine va_get (D := D) (ci := 5) (v := .ref (ad 10)) (C := RX5) (T := TX5) (N := 12) hx hb hts iX5 hown hK hP 0 rfl rfl 3 (Nat.le_of_ble_eq_true rfl) f30 (fun _ h9 => h9) rfl dX5_shift_39 ?_
        refine lv_iload_n hx hb dX5_shift_42 rfl (lv_at hl 1 rfl) ?_
        refine lv_iload_n hx hb dX5_shift_43 rfl (lv_at hl 2 rfl) ?_
        obtain ⟨q6, eq6, h⟩ := e_b h
        refine xv_v (As := [.int x1, .int x2]) (rest := []) (ci := 2) (b := ad 10) ⟨hx, hb, hml, hown, hts⟩ hl.1 (kX2_turn l D cA (fun i => ad (10 + i)) q5 x1 x2  _ eq6) (cwV 2 hts gX5_shift_X2_turn rfl rfl rfl (by decide +kernel) ⟨Nat.le_of_ble_eq_true rfl, Nat.le_of_ble_eq_true rfl⟩) rfl hK hP hD hS hA 4 rfl rfl rfl [4, 5, 6] rfl (by decide +kernel) rfl (Nat.le_of_ble_eq_true rfl) dX5_shift_44 ⟨Nat.zero_le _, Nat.zero_le _⟩ (fun H locs hP hD hS => ?_)
        have hP : va_P D vwCl (wD_row_next_past cA ad block ties lines pmn row q6 past) H := hP
        have hD : va_D A (wD_row_next_past cA ad block ties lines pmn row q6 past) := hD
        refine lv_aload_n hx hb dX5_shift_47 rfl (lv_at hl 0 rfl) ?_
        refine va_get (D := D) (ci := 5) (v := .ref (ad 10)) (C := RX5) (T := TX5) (N := 12) hx hb hts iX5 hown hK hP 0 rfl rfl 3 (Nat.le_of_ble_eq_true rfl) f30 (fun _ h9 => h9) rfl dX5_shift_48 ?_
        refine lv_iload_n hx hb dX5_shift_51 rfl (lv_at hl 1 rfl) ?_
        refine lv_iload_n hx hb dX5_shift_52 rfl (lv_at hl 1 rfl) ?_
        refine lv_iload_n hx hb dX5_shift_53 rfl (lv_at hl 3 rfl) ?_
        refine lv_iadd hx hb dX5_shift_54 ?_
        refine lv_iconst (v := 1) hx hb dX5_shift_55 (by decide) ?_
        refine lv_isub hx hb dX5_shift_56 ?_
        obtain ⟨q7, eq7, h⟩ := e_b h
        refine xv_v (As := [.int x1, .int ((x1 + x3) - 1)]) (rest := []) (ci := 2) (b := ad 10) ⟨hx, hb, hml, hown, hts⟩ hl.1 (kX2_turn l D cA (fun i => ad (10 + i)) q6 x1 ((x1 + x3) - 1)  _ eq7) (cwV 2 hts gX5_shift_X2_turn rfl rfl rfl (by decide +kernel) ⟨Nat.le_of_ble_eq_true rfl, Nat.le_of_ble_eq_true rfl⟩) rfl hK hP hD hS hA 4 rfl rfl rfl [4, 5, 6] rfl (by decide +kernel) rfl (Nat.le_of_ble_eq_true rfl) dX5_shift_57 ⟨Nat.zero_le _, Nat.zero_le _⟩ (fun H locs hP hD hS => ?_)
        have hP : va_P D vwCl (wD_row_next_past cA ad block ties lines pmn row q7 past) H := hP
        have hD : va_D A (wD_row_next_past cA ad block ties lines pmn row q7 past) := hD
        refine lv_aload_n hx hb dX5_shift_60 rfl (lv_at hl 0 rfl) ?_
        refine va_get (D := D) (ci := 5) (v := .ref (ad 10)) (C := RX5) (T := TX5) (N := 12) hx hb hts iX5 hown hK hP 0 rfl rfl 3 (Nat.le_of_ble_eq_true rfl) f30 (fun _ h9 => h9) rfl dX5_shift_61 ?_
        refine lv_iload_n hx hb dX5_shift_64 rfl (lv_at hl 1 rfl) ?_
        refine lv_iload_n hx hb dX5_shift_65 rfl (lv_at hl 3 rfl) ?_
        refine lv_iadd hx hb dX5_shift_66 ?_
        refine lv_iload_n hx hb dX5_shift_67 rfl (lv_at hl 2 rfl) ?_
        obtain ⟨q8, eq8, h⟩ := e_b h
        refine xv_v (As := [.int (x1 + x3), .int x2]) (rest := []) (ci := 2) (b := ad 10) ⟨hx, hb, hml, hown, hts⟩ hl.1 (kX2_turn l D cA (fun i => ad (10 + i)) q7 (x1 + x3) x2  _ eq8) (cwV 2 hts gX5_shift_X2_turn rfl rfl rfl (by decide +kernel) ⟨Nat.le_of_ble_eq_true rfl, Nat.le_of_ble_eq_true rfl⟩) rfl hK hP hD hS hA 4 rfl rfl rfl [4, 5, 6] rfl (by decide +kernel) rfl (Nat.le_of_ble_eq_true rfl) dX5_shift_68 ⟨Nat.zero_le _, Nat.zero_le _⟩ (fun H locs hP hD hS => ?_)
        have hP : va_P D vwCl (wD_row_next_past cA ad block ties lines pmn row q8 past) H := hP
        have hD : va_D A (wD_row_next_past cA ad block ties lines pmn row q8 past) := hD
        refine lv_aload_n hx hb dX5_shift_71 rfl (lv_at hl 0 rfl) ?_
        obtain ⟨q9, eq9, h⟩ := e_b h
        refine xv_i0 (As := []) (rest := []) (ci := 5) (b := ad 0) ⟨hx, hb, hml, hown, hts⟩ hl.1 (kX5_settle l D cA ad block ties lines pmn row q8 past   _ eq9) (cwV 0 hts gX5_shift_X5_settle rfl rfl rfl (by decide +kernel) ⟨Nat.le_of_ble_eq_true rfl, Nat.le_of_ble_eq_true rfl⟩) rfl hK hP hD hS hA 0 rfl rfl rfl rfl (Nat.le_of_ble_eq_true rfl) dX5_shift_72 ⟨Nat.zero_le _, Nat.zero_le _⟩ (fun H locs hP hD hS hnq9 => ?_)
        have hP : va_P D vwCl (wD_row_next_past cA ad block ties lines q9.2.1 q9.2.2.1 q8 q9.2.2.2) H := hP
        have hD : va_D A (wD_row_next_past cA ad block ties lines q9.2.1 q9.2.2.1 q8 q9.2.2.2) := hD
        obtain rfl := e_s h
        exact hret hP hS rfl dX5_shift_75
      · have h := e_f c4 h
        refine lv_iconst (v := (-1)) hx hb dX5_shift_25 (by decide) ?_
        obtain rfl := e_s h
        exact hret hP hS rfl dX5_shift_26
set_option maxHeartbeats 4000000 in
set_option maxRecDepth 100000 in
theorem kX5_replace (l : Launch) (D : va_G) (cA : Nat → ClassId) (ad : Nat → Nat) (block : Int32) (ties : Int32) (lines : Int32) (pmn : Int32) (row : RowT) (next : RowT) (past : PasT) (x1 : Int32) (x2 : Int32) (q : Int32 × Int32 × RowT × RowT × PasT) (h : mX5_replace block pmn row next past x1 x2 = some q) : MI l yX5_replace wsX5_replace { frames := 5, cells := 0, slots := 0, locals := 119 } D cA .int [.ref (ad 0), .int x1, .int x2] (wD_row_next_past cA ad block ties lines pmn row next past) (wD_row_next_past cA ad block ties lines q.2.1 q.2.2.1 q.2.2.2.1 q.2.2.2.2) q.1 := by
  refine MI.of (cc := cX5_replace) (maxL := 4) (by decide +kernel) rfl rfl rfl (Nat.le_of_ble_eq_true rfl) ?_
  intro p e s m args below meth c A ls Q hx hb hml hts hown hK hP hD hA hS hl hret
  have hl : lv_has ls 4 [(0, .ref (ad 0)), (1, .int x1), (2, .int x2)] := hl
  have f106 := hts (.fieldLink RX5 106 "ModeDesk$Row" "values" "[I") (by decide +kernel)
  have f135 := hts (.fieldLink RX5 135 "ModeDesk$Row" "size" "I") (by decide +kernel)
  have f26 := hts (.fieldLink RX5 26 "ModeDesk" "row" "LModeDesk$Row;") (by decide +kernel)
  have f30 := hts (.fieldLink RX5 30 "ModeDesk" "next" "LModeDesk$Row;") (by decide +kernel)
  have iX2 : ∀ w ∈ wsX20, w ∈ wsX5_replace := by decide +kernel
  have iX5 : ∀ w ∈ wsX50, w ∈ wsX5_replace := by decide +kernel
  unfold mX5_replace at h
  refine lv_iload_n hx hb dX5_replace_0 rfl (lv_at hl 1 rfl) ?_
  obtain ⟨q1, eq1, h⟩ := e_b h
  refine xs_i (As := [.int x1]) (rest := []) ⟨hx, hb, hml, hown, hts⟩ hl.1 (kX5_isValue l D cA   x1  _ eq1) (va_cwS 1 hts gX5_replace_X5_isValue rfl rfl rfl (by decide +kernel) ⟨Nat.le_of_ble_eq_true rfl, Nat.le_of_ble_eq_true rfl⟩) rfl hK hP hD hS hA [] rfl (by decide +kernel) rfl (Nat.le_of_ble_eq_true rfl) dX5_replace_1 ⟨Nat.zero_le _, Nat.zero_le _⟩ (fun H locs hP hD hS hnq1 => ?_)
  have hP : va_P D vwCl (wD_row_next_past cA ad block ties lines pmn row next past) H := hP
  have hD : va_D A (wD_row_next_past cA ad block ties lines pmn row next past) := hD
  refine lv_if_eq (tgt := 14) hx hb dX5_replace_4 (by decide) (fun c2 => ?_) (fun c2 => ?_)
  · have h := e_t c2 h
    refine lv_iconst (v := (-1)) hx hb dX5_replace_14 (by decide) ?_
    obtain rfl := e_s h
    exact hret hP hS rfl dX5_replace_15
  · have h := e_f c2 h
    refine lv_iload_n hx hb dX5_replace_7 rfl (lv_at hl 2 rfl) ?_
    obtain ⟨q3, eq3, h⟩ := e_b h
    refine xs_i (As := [.int x2]) (rest := []) ⟨hx, hb, hml, hown, hts⟩ hl.1 (kX5_isValue l D cA   x2  _ eq3) (va_cwS 1 hts gX5_replace_X5_isValue rfl rfl rfl (by decide +kernel) ⟨Nat.le_of_ble_eq_true rfl, Nat.le_of_ble_eq_true rfl⟩) rfl hK hP hD hS hA [] rfl (by decide +kernel) rfl (Nat.le_of_ble_eq_true rfl) dX5_replace_8 ⟨Nat.zero_le _, Nat.zero_le _⟩ (fun H locs hP hD hS hnq3 => ?_)
    have hP : va_P D vwCl (wD_row_next_past cA ad block ties lines pmn row next past) H := hP
    have hD : va_D A (wD_row_next_past cA ad block ties lines pmn row next past) := hD
    refine lv_if_ne (tgt := 16) hx hb dX5_replace_11 (by decide) (fun c4 => ?_) (fun c4 => ?_)
    · have h := e_t c4 h
      refine lv_aload_n hx hb dX5_replace_16 rfl (lv_at hl 0 rfl) ?_
      refine va_get (D := D) (ci := 5) (v := .ref (ad 10)) (C := RX5) (T := TX5) (N := 12) hx hb hts iX5 hown hK hP 0 rfl rfl 3 (Nat.le_of_ble_eq_true rfl) f30 (fun _ h9 => h9) rfl dX5_replace_17 ?_
      refine lv_aload_n hx hb dX5_replace_20 rfl (lv_at hl 0 rfl) ?_
      refine va_get (D := D) (ci := 5) (v := .ref (ad 7)) (C := RX5) (T := TX5) (N := 12) hx hb hts iX5 hown hK hP 0 rfl rfl 2 (Nat.le_of_ble_eq_true rfl) f26 (fun _ h9 => h9) rfl dX5_replace_21 ?_
      obtain ⟨q5, eq5, h⟩ := e_b h
      refine xv_v (As := [.ref (ad 7)]) (rest := []) (ci := 2) (b := ad 10) ⟨hx, hb, hml, hown, hts⟩ hl.1 (kX2_take l D cA (fun i => ad (10 + i)) (fun i => ad (7 + i)) next row   _ eq5) (cwV 1 hts gX5_replace_X2_take rfl rfl rfl (by decide +kernel) ⟨Nat.le_of_ble_eq_true rfl, Nat.le_of_ble_eq_true rfl⟩) rfl hK hP hD hS hA 4 rfl rfl rfl [4, 5, 6, 1, 2, 3] rfl (by decide +kernel) rfl (Nat.le_of_ble_eq_true rfl) dX5_replace_24 ⟨Nat.zero_le _, Nat.zero_le _⟩ (fun H locs hP hD hS => ?_)
      have hP : va_P D vwCl (wD_row_next_past cA ad block ties lines pmn row q5 past) H := hP
      have hD : va_D A (wD_row_next_past cA ad block ties lines pmn row q5 past) := hD
      refine lv_iconst (v := 0) hx hb dX5_replace_27 (by decide) ?_
      refine lv_istore_n (lv' := [(3, .int 0), (0, .ref (ad 0)), (1, .int x1), (2, .int x2)]) hx hb dX5_replace_28 rfl hl (by decide) rfl (fun ls hl => ?_)
      have hL29 : ∀ (n : Nat) (x1 : Int32) (x2 : Int32) (x3 : Int32) (block : Int32) (ties : Int32) (lines : Int32) (pmn : Int32) (row : RowT) (next : RowT) (past : PasT) (z6 : RowT) (ls : Array Slot) (H : Heap) (locs : List Loc), lv_has ls 4 [(0, .ref (ad 0)), (1, .int x1), (2, .int x2), (3, .int x3)] → va_P D vwCl (wD_row_next_past cA ad block ties lines pmn row next past) H → va_D A (wD_row_next_past cA ad block ties lines pmn row next past) → va_S A s.heap H locs → mX5_replace_L29 x1 x2 n x3 next = some z6 → (∀ (ls : Array Slot) (H : Heap) (locs : List Loc), lv_has ls 4 [(0, .ref (ad 0))] → va_P D vwCl (wD_row_next_past cA ad block ties lines pmn row z6 past) H → va_D A (wD_row_next_past cA ad block ties lines pmn row z6 past) → va_S A s.heap H locs → W p l e (headSpec wsX5_replace { frames := 5, cells := 0, slots := 0, locals := 119 }).room s m args below meth c H locs 0 0 Q (F0 m 69 ls [])) → W p l e (headSpec wsX5_replace { frames := 5, cells := 0, slots := 0, locals := 119 }).room s m args below meth c H locs 0 0 Q (F0 m 29 ls []) := by
        intro n
        induction n with
        | zero => intro x1 x2 x3 block ties lines pmn row next past z6 ls H locs hl hP hD hS h hk29; exact e_n h
        | succ n ih29 =>
          intro x1 x2 x3 block ties lines pmn row next past z6 ls H locs hl hP hD hS h hk29
          rw [mX5_replace_L29.eq_2] at h
          refine lv_iload_n hx hb dX5_replace_29 rfl (lv_at hl 3 rfl) ?_
          refine lv_aload_n hx hb dX5_replace_30 rfl (lv_at hl 0 rfl) ?_
          refine va_get (D := D) (ci := 5) (v := .ref (ad 10)) (C := RX5) (T := TX5) (N := 12) hx hb hts iX5 hown hK hP 0 rfl rfl 3 (Nat.le_of_ble_eq_true rfl) f30 (fun _ h9 => h9) rfl dX5_replace_31 ?_
          refine va_get (D := D) (ci := 2) (v := .int next.2.2) (C := RX2) (T := TX2) (N := 3) hx hb hts iX2 hown hK hP 4 rfl rfl 2 (Nat.le_of_ble_eq_true rfl) f135 (fun _ h9 => h9) rfl dX5_replace_34 ?_
          refine lv_icmp_ge (tgt := 69) hx hb dX5_replace_37 (by decide) (fun c7 => ?_) (fun c7 => ?_)
          · have h := e_t c7 h
            obtain rfl := e_s h
            exact hk29 _ _ _ (lv_sub hl [0] rfl) hP hD hS
          · have h := e_f c7 h
            refine lv_aload_n hx hb dX5_replace_40 rfl (lv_at hl 0 rfl) ?_
            refine va_get (D := D) (ci := 5) (v := .ref (ad 10)) (C := RX5) (T := TX5) (N := 12) hx hb hts iX5 hown hK hP 0 rfl rfl 3 (Nat.le_of_ble_eq_true rfl) f30 (fun _ h9 => h9) rfl dX5_replace_41 ?_
            refine va_get (D := D) (ci := 2) (v := .ref (ad 11)) (C := RX2) (T := TX2) (N := 3) hx hb hts iX2 hown hK hP 4 rfl rfl 0 (Nat.le_of_ble_eq_true rfl) f106 (fun _ h9 => h9) rfl dX5_replace_44 ?_
            refine lv_iload_n hx hb dX5_replace_47 rfl (lv_at hl 3 rfl) ?_
            obtain ⟨v8, ev8, nv8, h⟩ := e_rd h
            refine xa_iald hx hb hK hP 5 rfl nv8 ev8 dX5_replace_48 ?_
            refine lv_iload_n hx hb dX5_replace_49 rfl (lv_at hl 1 rfl) ?_
            refine lv_icmp_ne (tgt := 63) hx hb dX5_replace_50 (by decide) (fun c9 => ?_) (fun c9 => ?_)
            · have h := e_t c9 h
              refine lv_iinc (v := (x3 + 1)) (lv' := [(3, .int (x3 + 1)), (0, .ref (ad 0)), (1, .int x1), (2, .int x2)]) hx hb dX5_replace_63 hl (k := 3) rfl rfl (by decide) rfl (fun ls hl => ?_)
              refine lv_goto (tgt := 29) hx hb dX5_replace_66 (by decide) ?_
              exact ih29 x1 x2 (x3 + 1) block ties lines pmn row next past z6 _ _ _ (lv_sub hl [1, 2, 3, 0] rfl) hP hD hS h hk29
            · have h := e_f (not_not_intro c9) h
              refine lv_aload_n hx hb dX5_replace_53 rfl (lv_at hl 0 rfl) ?_
              refine va_get (D := D) (ci := 5) (v := .ref (ad 10)) (C := RX5) (T := TX5) (N := 12) hx hb hts iX5 hown hK hP 0 rfl rfl 3 (Nat.le_of_ble_eq_true rfl) f30 (fun _ h9 => h9) rfl dX5_replace_54 ?_
              refine va_get (D := D) (ci := 2) (v := .ref (ad 11)) (C := RX2) (T := TX2) (N := 3) hx hb hts iX2 hown hK hP 4 rfl rfl 0 (Nat.le_of_ble_eq_true rfl) f106 (fun _ h9 => h9) rfl dX5_replace_57 ?_
              refine lv_iload_n hx hb dX5_replace_60 rfl (lv_at hl 3 rfl) ?_
              refine lv_iload_n hx hb dX5_replace_61 rfl (lv_at hl 2 rfl) ?_
              obtain ⟨a10, ea10, na10, h⟩ := e_wr h
              refine xa_iast hx hb hK hP hD hS 5 rfl na10 ea10 dX5_replace_62 (fun H locs hP hD hS => ?_)
              have hP : va_P D vwCl (wD_row_next_past cA ad block ties lines pmn row (a10, next.2.1, next.2.2) past) H := hP
              have hD : va_D A (wD_row_next_past cA ad block ties lines pmn row (a10, next.2.1, next.2.2) past) := hD
              refine lv_iinc (v := (x3 + 1)) (lv' := [(3, .int (x3 + 1)), (0, .ref (ad 0)), (1, .int x1), (2, .int x2)]) hx hb dX5_replace_63 hl (k := 3) rfl rfl (by decide) rfl (fun ls hl => ?_)
              refine lv_goto (tgt := 29) hx hb dX5_replace_66 (by decide) ?_
              exact ih29 x1 x2 (x3 + 1) block ties lines pmn row (a10, next.2.1, next.2.2) past z6 _ _ _ (lv_sub hl [1, 2, 3, 0] rfl) hP hD hS h hk29
      obtain ⟨z11, ez11, h⟩ := e_b h
      refine hL29 FU x1 x2 0 block ties lines pmn row q5 past z11 _ _ _ (lv_sub hl [1, 2, 3, 0] rfl) hP hD hS ez11 (fun ls H locs hl hP hD hS => ?_)
      refine lv_aload_n hx hb dX5_replace_69 rfl (lv_at hl 0 rfl) ?_
      obtain ⟨q12, eq12, h⟩ := e_b h
      refine xv_i0 (As := []) (rest := []) (ci := 5) (b := ad 0) ⟨hx, hb, hml, hown, hts⟩ hl.1 (kX5_settle l D cA ad block ties lines pmn row z11 past   _ eq12) (cwV 0 hts gX5_replace_X5_settle rfl rfl rfl (by decide +kernel) ⟨Nat.le_of_ble_eq_true rfl, Nat.le_of_ble_eq_true rfl⟩) rfl hK hP hD hS hA 0 rfl rfl rfl rfl (Nat.le_of_ble_eq_true rfl) dX5_replace_70 ⟨Nat.zero_le _, Nat.zero_le _⟩ (fun H locs hP hD hS hnq12 => ?_)
      have hP : va_P D vwCl (wD_row_next_past cA ad block ties lines q12.2.1 q12.2.2.1 z11 q12.2.2.2) H := hP
      have hD : va_D A (wD_row_next_past cA ad block ties lines q12.2.1 q12.2.2.1 z11 q12.2.2.2) := hD
      obtain rfl := e_s h
      exact hret hP hS rfl dX5_replace_73
    · have h := e_f (not_not_intro c4) h
      refine lv_iconst (v := (-1)) hx hb dX5_replace_14 (by decide) ?_
      obtain rfl := e_s h
      exact hret hP hS rfl dX5_replace_15
set_option maxHeartbeats 4000000 in
set_option maxRecDepth 100000 in
theorem kX5_sort (l : Launch) (D : va_G) (cA : Nat → ClassId) (ad : Nat → Nat) (block : Int32) (ties : Int32) (lines : Int32) (pmn : Int32) (row : RowT) (next : RowT) (past : PasT) (x1 : Int32) (x2 : Int32) (x3 : Int32) (q : Int32 × Int32 × RowT × RowT × PasT) (h : mX5_sort block pmn row next past x1 x2 x3 = some q) : MI l yX5_sort wsX5_sort { frames := 5, cells := 0, slots := 0, locals := 119 } D cA .int [.ref (ad 0), .int x1, .int x2, .int x3] (wD_row_next_past cA ad block ties lines pmn row next past) (wD_row_next_past cA ad block ties lines q.2.1 q.2.2.1 q.2.2.2.1 q.2.2.2.2) q.1 := by
  refine MI.of (cc := cX5_sort) (maxL := 4) (by decide +kernel) rfl rfl rfl (Nat.le_of_ble_eq_true rfl) ?_
  intro p e s m args below meth c A ls Q hx hb hml hts hown hK hP hD hA hS hl hret
  have hl : lv_has ls 4 [(0, .ref (ad 0)), (1, .int x1), (2, .int x2), (3, .int x3)] := hl
  have f26 := hts (.fieldLink RX5 26 "ModeDesk" "row" "LModeDesk$Row;") (by decide +kernel)
  have f30 := hts (.fieldLink RX5 30 "ModeDesk" "next" "LModeDesk$Row;") (by decide +kernel)
  have iX5 : ∀ w ∈ wsX50, w ∈ wsX5_sort := by decide +kernel
  unfold mX5_sort at h
  refine lv_aload_n hx hb dX5_sort_0 rfl (lv_at hl 0 rfl) ?_
  refine va_get (D := D) (ci := 5) (v := .ref (ad 7)) (C := RX5) (T := TX5) (N := 12) hx hb hts iX5 hown hK hP 0 rfl rfl 2 (Nat.le_of_ble_eq_true rfl) f26 (fun _ h9 => h9) rfl dX5_sort_1 ?_
  refine lv_iload_n hx hb dX5_sort_4 rfl (lv_at hl 1 rfl) ?_
  refine lv_iload_n hx hb dX5_sort_5 rfl (lv_at hl 2 rfl) ?_
  obtain ⟨q1, eq1, h⟩ := e_b h
  refine xv_i (As := [.int x1, .int x2]) (rest := []) (ci := 2) (b := ad 7) ⟨hx, hb, hml, hown, hts⟩ hl.1 (kX2_hasSpan l D cA (fun i => ad (7 + i)) row x1 x2  _ eq1) (cwV 2 hts gX5_sort_X2_hasSpan rfl rfl rfl (by decide +kernel) ⟨Nat.le_of_ble_eq_true rfl, Nat.le_of_ble_eq_true rfl⟩) rfl hK hP hD hS hA 1 rfl rfl rfl [1, 2, 3] rfl (by decide +kernel) rfl (Nat.le_of_ble_eq_true rfl) dX5_sort_6 ⟨Nat.zero_le _, Nat.zero_le _⟩ (fun H locs hP hD hS hnq1 => ?_)
  have hP : va_P D vwCl (wD_row_next_past cA ad block ties lines pmn row next past) H := hP
  have hD : va_D A (wD_row_next_past cA ad block ties lines pmn row next past) := hD
  refine lv_if_ne (tgt := 14) hx hb dX5_sort_9 (by decide) (fun c2 => ?_) (fun c2 => ?_)
  · have h := e_t c2 h
    refine lv_aload_n hx hb dX5_sort_14 rfl (lv_at hl 0 rfl) ?_
    refine va_get (D := D) (ci := 5) (v := .ref (ad 10)) (C := RX5) (T := TX5) (N := 12) hx hb hts iX5 hown hK hP 0 rfl rfl 3 (Nat.le_of_ble_eq_true rfl) f30 (fun _ h9 => h9) rfl dX5_sort_15 ?_
    refine lv_aload_n hx hb dX5_sort_18 rfl (lv_at hl 0 rfl) ?_
    refine va_get (D := D) (ci := 5) (v := .ref (ad 7)) (C := RX5) (T := TX5) (N := 12) hx hb hts iX5 hown hK hP 0 rfl rfl 2 (Nat.le_of_ble_eq_true rfl) f26 (fun _ h9 => h9) rfl dX5_sort_19 ?_
    obtain ⟨q3, eq3, h⟩ := e_b h
    refine xv_v (As := [.ref (ad 7)]) (rest := []) (ci := 2) (b := ad 10) ⟨hx, hb, hml, hown, hts⟩ hl.1 (kX2_take l D cA (fun i => ad (10 + i)) (fun i => ad (7 + i)) next row   _ eq3) (cwV 1 hts gX5_sort_X2_take rfl rfl rfl (by decide +kernel) ⟨Nat.le_of_ble_eq_true rfl, Nat.le_of_ble_eq_true rfl⟩) rfl hK hP hD hS hA 4 rfl rfl rfl [4, 5, 6, 1, 2, 3] rfl (by decide +kernel) rfl (Nat.le_of_ble_eq_true rfl) dX5_sort_22 ⟨Nat.zero_le _, Nat.zero_le _⟩ (fun H locs hP hD hS => ?_)
    have hP : va_P D vwCl (wD_row_next_past cA ad block ties lines pmn row q3 past) H := hP
    have hD : va_D A (wD_row_next_past cA ad block ties lines pmn row q3 past) := hD
    refine lv_aload_n hx hb dX5_sort_25 rfl (lv_at hl 0 rfl) ?_
    refine va_get (D := D) (ci := 5) (v := .ref (ad 10)) (C := RX5) (T := TX5) (N := 12) hx hb hts iX5 hown hK hP 0 rfl rfl 3 (Nat.le_of_ble_eq_true rfl) f30 (fun _ h9 => h9) rfl dX5_sort_26 ?_
    refine lv_iload_n hx hb dX5_sort_29 rfl (lv_at hl 1 rfl) ?_
    refine lv_iload_n hx hb dX5_sort_30 rfl (lv_at hl 2 rfl) ?_
    refine lv_iload_n hx hb dX5_sort_31 rfl (lv_at hl 3 rfl) ?_
    obtain ⟨q4, eq4, h⟩ := e_b h
    refine xv_v (As := [.int x1, .int x2, .int x3]) (rest := []) (ci := 2) (b := ad 10) ⟨hx, hb, hml, hown, hts⟩ hl.1 (kX2_order l D cA (fun i => ad (10 + i)) q3 x1 x2 x3  _ eq4) (cwV 3 hts gX5_sort_X2_order rfl rfl rfl (by decide +kernel) ⟨Nat.le_of_ble_eq_true rfl, Nat.le_of_ble_eq_true rfl⟩) rfl hK hP hD hS hA 4 rfl rfl rfl [4, 5, 6] rfl (by decide +kernel) rfl (Nat.le_of_ble_eq_true rfl) dX5_sort_32 ⟨Nat.zero_le _, Nat.zero_le _⟩ (fun H locs hP hD hS => ?_)
    have hP : va_P D vwCl (wD_row_next_past cA ad block ties lines pmn row q4 past) H := hP
    have hD : va_D A (wD_row_next_past cA ad block ties lines pmn row q4 past) := hD
    refine lv_aload_n hx hb dX5_sort_35 rfl (lv_at hl 0 rfl) ?_
    obtain ⟨q5, eq5, h⟩ := e_b h
    refine xv_i0 (As := []) (rest := []) (ci := 5) (b := ad 0) ⟨hx, hb, hml, hown, hts⟩ hl.1 (kX5_settle l D cA ad block ties lines pmn row q4 past   _ eq5) (cwV 0 hts gX5_sort_X5_settle rfl rfl rfl (by decide +kernel) ⟨Nat.le_of_ble_eq_true rfl, Nat.le_of_ble_eq_true rfl⟩) rfl hK hP hD hS hA 0 rfl rfl rfl rfl (Nat.le_of_ble_eq_true rfl) dX5_sort_36 ⟨Nat.zero_le _, Nat.zero_le _⟩ (fun H locs hP hD hS hnq5 => ?_)
    have hP : va_P D vwCl (wD_row_next_past cA ad block ties lines q5.2.1 q5.2.2.1 q4 q5.2.2.2) H := hP
    have hD : va_D A (wD_row_next_past cA ad block ties lines q5.2.1 q5.2.2.1 q4 q5.2.2.2) := hD
    obtain rfl := e_s h
    exact hret hP hS rfl dX5_sort_39
  · have h := e_f (not_not_intro c2) h
    refine lv_iconst (v := (-1)) hx hb dX5_sort_12 (by decide) ?_
    obtain rfl := e_s h
    exact hret hP hS rfl dX5_sort_13
set_option maxHeartbeats 4000000 in
set_option maxRecDepth 100000 in
theorem kX5_refreshed (l : Launch) (D : va_G) (cA : Nat → ClassId) (ad : Nat → Nat) (block : Int32) (ties : Int32) (lines : Int32) (pmn : Int32)  (q : Int32) (h : mX5_refreshed pmn  = some q) : MI l yX5_refreshed wsX5_refreshed { frames := 0, cells := 0, slots := 0, locals := 0 } D cA .int [.ref (ad 0)] (wD_0 cA ad block ties lines pmn) (wD_0 cA ad block ties lines pmn) q := by
  refine MI.of (cc := cX5_refreshed) (maxL := 1) (by decide +kernel) rfl rfl rfl (Nat.le_of_ble_eq_true rfl) ?_
  intro p e s m args below meth c A ls Q hx hb hml hts hown hK hP hD hA hS hl hret
  have hl : lv_has ls 1 [(0, .ref (ad 0))] := hl
  have f64 := hts (.fieldLink RX5 64 "ModeDesk" "pairsMadeNew" "I") (by decide +kernel)
  have iX5 : ∀ w ∈ wsX50, w ∈ wsX5_refreshed := by decide +kernel
  unfold mX5_refreshed at h
  refine lv_aload_n hx hb dX5_refreshed_0 rfl (lv_at hl 0 rfl) ?_
  refine va_get (D := D) (ci := 5) (v := .int pmn) (C := RX5) (T := TX5) (N := 12) hx hb hts iX5 hown hK hP 0 rfl rfl 11 (Nat.le_of_ble_eq_true rfl) f64 (fun _ h9 => h9) rfl dX5_refreshed_1 ?_
  obtain rfl := e_s h
  exact hret hP hS rfl dX5_refreshed_4
set_option maxHeartbeats 4000000 in
set_option maxRecDepth 100000 in
theorem kX5_undo (l : Launch) (D : va_G) (cA : Nat → ClassId) (ad : Nat → Nat) (block : Int32) (ties : Int32) (lines : Int32) (pmn : Int32) (row : RowT) (past : PasT)  (q : Int32 × Int32 × RowT × PasT) (h : mX5_undo block pmn row past  = some q) : MI l yX5_undo wsX5_undo { frames := 4, cells := 0, slots := 0, locals := 97 } D cA .int [.ref (ad 0)] (wD_row_past cA ad block ties lines pmn row past) (wD_row_past cA ad block ties lines q.2.1 q.2.2.1 q.2.2.2) q.1 := by
  refine MI.of (cc := cX5_undo) (maxL := 2) (by decide +kernel) rfl rfl rfl (Nat.le_of_ble_eq_true rfl) ?_
  intro p e s m args below meth c A ls Q hx hb hml hts hown hK hP hD hA hS hl hret
  have hl : lv_has ls 2 [(0, .ref (ad 0))] := hl
  have f26 := hts (.fieldLink RX5 26 "ModeDesk" "row" "LModeDesk$Row;") (by decide +kernel)
  have f36 := hts (.fieldLink RX5 36 "ModeDesk" "past" "LModeDesk$Past;") (by decide +kernel)
  have f64 := hts (.fieldLink RX5 64 "ModeDesk" "pairsMadeNew" "I") (by decide +kernel)
  have f86 := hts (.fieldLink RX5 86 "ModeDesk$Past" "held" "I") (by decide +kernel)
  have iX0 : ∀ w ∈ wsX00, w ∈ wsX5_undo := by decide +kernel
  have iX5 : ∀ w ∈ wsX50, w ∈ wsX5_undo := by decide +kernel
  unfold mX5_undo at h
  refine lv_aload_n hx hb dX5_undo_0 rfl (lv_at hl 0 rfl) ?_
  refine va_get (D := D) (ci := 5) (v := .ref (ad 13)) (C := RX5) (T := TX5) (N := 12) hx hb hts iX5 hown hK hP 0 rfl rfl 4 (Nat.le_of_ble_eq_true rfl) f36 (fun _ h9 => h9) rfl dX5_undo_1 ?_
  refine va_get (D := D) (ci := 0) (v := .int past.2.1) (C := RX0) (T := TX0) (N := 3) hx hb hts iX0 hown hK hP 4 rfl rfl 1 (Nat.le_of_ble_eq_true rfl) f86 (fun _ h9 => h9) rfl dX5_undo_4 ?_
  refine lv_if_ne (tgt := 12) hx hb dX5_undo_7 (by decide) (fun c1 => ?_) (fun c1 => ?_)
  · have h := e_t c1 h
    refine lv_aload_n hx hb dX5_undo_12 rfl (lv_at hl 0 rfl) ?_
    refine va_get (D := D) (ci := 5) (v := .ref (ad 13)) (C := RX5) (T := TX5) (N := 12) hx hb hts iX5 hown hK hP 0 rfl rfl 4 (Nat.le_of_ble_eq_true rfl) f36 (fun _ h9 => h9) rfl dX5_undo_13 ?_
    refine lv_iconst (v := 1) hx hb dX5_undo_16 (by decide) ?_
    obtain ⟨q2, eq2, h⟩ := e_b h
    refine xv_r (As := [.int 1]) (rest := []) (ci := 0) (b := ad 13) ⟨hx, hb, hml, hown, hts⟩ hl.1 (kX0_ago l D cA (fun i => ad (13 + i)) past 1  _ eq2) (cwV 1 hts gX5_undo_X0_ago rfl rfl rfl (by decide +kernel) ⟨Nat.le_of_ble_eq_true rfl, Nat.le_of_ble_eq_true rfl⟩) rfl hK hP hD hS hA 4 rfl rfl rfl [4, 5, 6, 7, 8, 9, 10, 11, 12, 13, 14, 15, 16, 17, 18, 19, 20, 21, 22, 23, 24, 25, 26, 27, 28, 29, 30, 31, 32, 33, 34, 35, 36, 37, 38, 39, 40, 41] rfl (by decide +kernel) rfl (Nat.le_of_ble_eq_true rfl) dX5_undo_17 ⟨Nat.zero_le _, Nat.zero_le _⟩ (fun H locs hP hD hS => ?_)
    have hP : va_P D vwCl (wD_row_past cA ad block ties lines pmn row past) H := hP
    have hD : va_D A (wD_row_past cA ad block ties lines pmn row past) := hD
    obtain hjq2 := k12 (mX0_ago_lt eq2)
    rcases hjq2 with rfl | hjq2
    · refine lv_astore_n (lv' := [(1, .ref (ad 15)), (0, .ref (ad 0))]) hx hb dX5_undo_20 rfl hl (by decide) rfl (fun ls hl => ?_)
      refine lv_aload_n hx hb dX5_undo_21 rfl (lv_at hl 1 rfl) ?_
      refine lv_aload_n hx hb dX5_undo_22 rfl (lv_at hl 1 rfl) ?_
      refine lv_aload_n hx hb dX5_undo_23 rfl (lv_at hl 1 rfl) ?_
      refine va_get (D := D) (ci := 5) (v := .ref (ad 7)) (C := RX5) (T := TX5) (N := 12) hx hb hts iX5 hown hK hP 0 rfl rfl 2 (Nat.le_of_ble_eq_true rfl) f26 (fun _ h9 => h9) rfl dX5_undo_24 ?_
      refine lv_aload_n hx hb dX5_undo_27 rfl (lv_at hl 0 rfl) ?_
      obtain ⟨q3, eq3, h⟩ := e_b h
      refine xv_i (As := [.ref (ad 7), .ref (ad 15)]) (rest := [.ref (ad 0)]) (ci := 5) (b := ad 0) ⟨hx, hb, hml, hown, hts⟩ hl.1 (kX5_pairsTouched l D cA ad (fun i => ad (7 + i)) (fun i => ad (15 + i)) block ties lines pmn row (past.1 0)   _ eq3) (cwV 2 hts gX5_undo_X5_pairsTouched rfl rfl rfl (by decide +kernel) ⟨Nat.le_of_ble_eq_true rfl, Nat.le_of_ble_eq_true rfl⟩) rfl hK hP hD hS hA 0 rfl rfl rfl [0, 1, 2, 3, 6, 7, 8] rfl (by decide +kernel) rfl (Nat.le_of_ble_eq_true rfl) dX5_undo_28 ⟨Nat.zero_le _, Nat.zero_le _⟩ (fun H locs hP hD hS hnq3 => ?_)
      have hP : va_P D vwCl (wD_row_past cA ad block ties lines pmn row past) H := hP
      have hD : va_D A (wD_row_past cA ad block ties lines pmn row past) := hD
      refine va_put (D := D) (ci := 5) (v := .int q3) (ty := .int) (C := RX5) (T := TX5) (N := 12) hx hb hts iX5 tyX5 tyX5_ok nmX5 hown hK hP hD hS 0 rfl rfl 11 (Nat.le_of_ble_eq_true rfl) f64 (fun _ h9 => h9) rfl (tyX5_ok 11 (Nat.le_of_ble_eq_true rfl)) rfl rfl (Nat.le_of_ble_eq_true rfl) dX5_undo_31 (fun H locs hP hD hS => ?_)
      have hP : va_P D vwCl (wD_row_past cA ad block ties lines q3 row past) H := hP
      have hD : va_D A (wD_row_past cA ad block ties lines q3 row past) := hD
      refine lv_aload_n hx hb dX5_undo_34 rfl (lv_at hl 1 rfl) ?_
      refine va_get (D := D) (ci := 5) (v := .ref (ad 7)) (C := RX5) (T := TX5) (N := 12) hx hb hts iX5 hown hK hP 0 rfl rfl 2 (Nat.le_of_ble_eq_true rfl) f26 (fun _ h9 => h9) rfl dX5_undo_35 ?_
      refine lv_aload_n hx hb dX5_undo_38 rfl (lv_at hl 0 rfl) ?_
      obtain ⟨q4, eq4, h⟩ := e_b h
      refine xv_v (As := [.ref (ad 15)]) (rest := []) (ci := 2) (b := ad 7) ⟨hx, hb, hml, hown, hts⟩ hl.1 (kX2_take l D cA (fun i => ad (7 + i)) (fun i => ad (15 + i)) row (past.1 0)   _ eq4) (cwV 1 hts gX5_undo_X2_take rfl rfl rfl (by decide +kernel) ⟨Nat.le_of_ble_eq_true rfl, Nat.le_of_ble_eq_true rfl⟩) rfl hK hP hD hS hA 1 rfl rfl rfl [1, 2, 3, 6, 7, 8] rfl (by decide +kernel) rfl (Nat.le_of_ble_eq_true rfl) dX5_undo_39 ⟨Nat.zero_le _, Nat.zero_le _⟩ (fun H locs hP hD hS => ?_)
      have hP : va_P D vwCl (wD_row_past cA ad block ties lines q3 q4 past) H := hP
      have hD : va_D A (wD_row_past cA ad block ties lines q3 q4 past) := hD
      refine lv_aload_n hx hb dX5_undo_42 rfl (lv_at hl 1 rfl) ?_
      refine va_get (D := D) (ci := 5) (v := .ref (ad 13)) (C := RX5) (T := TX5) (N := 12) hx hb hts iX5 hown hK hP 0 rfl rfl 4 (Nat.le_of_ble_eq_true rfl) f36 (fun _ h9 => h9) rfl dX5_undo_43 ?_
      obtain ⟨q5, eq5, h⟩ := e_b h
      refine xv_v (As := []) (rest := []) (ci := 0) (b := ad 13) ⟨hx, hb, hml, hown, hts⟩ hl.1 (kX0_dropLatest l D cA (fun i => ad (13 + i)) past   _ eq5) (cwV 0 hts gX5_undo_X0_dropLatest rfl rfl rfl (by decide +kernel) ⟨Nat.le_of_ble_eq_true rfl, Nat.le_of_ble_eq_true rfl⟩) rfl hK hP hD hS hA 4 rfl rfl rfl [4, 5, 6, 7, 8, 9, 10, 11, 12, 13, 14, 15, 16, 17, 18, 19, 20, 21, 22, 23, 24, 25, 26, 27, 28, 29, 30, 31, 32, 33, 34, 35, 36, 37, 38, 39, 40, 41] rfl (by decide +kernel) rfl (Nat.le_of_ble_eq_true rfl) dX5_undo_46 ⟨Nat.zero_le _, Nat.zero_le _⟩ (fun H locs hP hD hS => ?_)
      have hP : va_P D vwCl (wD_row_past cA ad block ties lines q3 q4 q5) H := hP
      have hD : va_D A (wD_row_past cA ad block ties lines q3 q4 q5) := hD
      refine lv_aload_n hx hb dX5_undo_49 rfl (lv_at hl 1 rfl) ?_
      refine va_get (D := D) (ci := 5) (v := .ref (ad 13)) (C := RX5) (T := TX5) (N := 12) hx hb hts iX5 hown hK hP 0 rfl rfl 4 (Nat.le_of_ble_eq_true rfl) f36 (fun _ h9 => h9) rfl dX5_undo_50 ?_
      refine va_get (D := D) (ci := 0) (v := .int q5.2.1) (C := RX0) (T := TX0) (N := 3) hx hb hts iX0 hown hK hP 4 rfl rfl 1 (Nat.le_of_ble_eq_true rfl) f86 (fun _ h9 => h9) rfl dX5_undo_53 ?_
      obtain rfl := e_s h
      exact hret hP hS rfl dX5_undo_56
    rcases hjq2 with rfl | hjq2
    · refine lv_astore_n (lv' := [(1, .ref (ad 18)), (0, .ref (ad 0))]) hx hb dX5_undo_20 rfl hl (by decide) rfl (fun ls hl => ?_)
      refine lv_aload_n hx hb dX5_undo_21 rfl (lv_at hl 1 rfl) ?_
      refine lv_aload_n hx hb dX5_undo_22 rfl (lv_at hl 1 rfl) ?_
      refine lv_aload_n hx hb dX5_undo_23 rfl (lv_at hl 1 rfl) ?_
      refine va_get (D := D) (ci := 5) (v := .ref (ad 7)) (C := RX5) (T := TX5) (N := 12) hx hb hts iX5 hown hK hP 0 rfl rfl 2 (Nat.le_of_ble_eq_true rfl) f26 (fun _ h9 => h9) rfl dX5_undo_24 ?_
      refine lv_aload_n hx hb dX5_undo_27 rfl (lv_at hl 0 rfl) ?_
      obtain ⟨q3, eq3, h⟩ := e_b h
      refine xv_i (As := [.ref (ad 7), .ref (ad 18)]) (rest := [.ref (ad 0)]) (ci := 5) (b := ad 0) ⟨hx, hb, hml, hown, hts⟩ hl.1 (kX5_pairsTouched l D cA ad (fun i => ad (7 + i)) (fun i => ad (18 + i)) block ties lines pmn row (past.1 1)   _ eq3) (cwV 2 hts gX5_undo_X5_pairsTouched rfl rfl rfl (by decide +kernel) ⟨Nat.le_of_ble_eq_true rfl, Nat.le_of_ble_eq_true rfl⟩) rfl hK hP hD hS hA 0 rfl rfl rfl [0, 1, 2, 3, 9, 10, 11] rfl (by decide +kernel) rfl (Nat.le_of_ble_eq_true rfl) dX5_undo_28 ⟨Nat.zero_le _, Nat.zero_le _⟩ (fun H locs hP hD hS hnq3 => ?_)
      have hP : va_P D vwCl (wD_row_past cA ad block ties lines pmn row past) H := hP
      have hD : va_D A (wD_row_past cA ad block ties lines pmn row past) := hD
      refine va_put (D := D) (ci := 5) (v := .int q3) (ty := .int) (C := RX5) (T := TX5) (N := 12) hx hb hts iX5 tyX5 tyX5_ok nmX5 hown hK hP hD hS 0 rfl rfl 11 (Nat.le_of_ble_eq_true rfl) f64 (fun _ h9 => h9) rfl (tyX5_ok 11 (Nat.le_of_ble_eq_true rfl)) rfl rfl (Nat.le_of_ble_eq_true rfl) dX5_undo_31 (fun H locs hP hD hS => ?_)
      have hP : va_P D vwCl (wD_row_past cA ad block ties lines q3 row past) H := hP
      have hD : va_D A (wD_row_past cA ad block ties lines q3 row past) := hD
      refine lv_aload_n hx hb dX5_undo_34 rfl (lv_at hl 1 rfl) ?_
      refine va_get (D := D) (ci := 5) (v := .ref (ad 7)) (C := RX5) (T := TX5) (N := 12) hx hb hts iX5 hown hK hP 0 rfl rfl 2 (Nat.le_of_ble_eq_true rfl) f26 (fun _ h9 => h9) rfl dX5_undo_35 ?_
      refine lv_aload_n hx hb dX5_undo_38 rfl (lv_at hl 0 rfl) ?_
      obtain ⟨q4, eq4, h⟩ := e_b h
      refine xv_v (As := [.ref (ad 18)]) (rest := []) (ci := 2) (b := ad 7) ⟨hx, hb, hml, hown, hts⟩ hl.1 (kX2_take l D cA (fun i => ad (7 + i)) (fun i => ad (18 + i)) row (past.1 1)   _ eq4) (cwV 1 hts gX5_undo_X2_take rfl rfl rfl (by decide +kernel) ⟨Nat.le_of_ble_eq_true rfl, Nat.le_of_ble_eq_true rfl⟩) rfl hK hP hD hS hA 1 rfl rfl rfl [1, 2, 3, 9, 10, 11] rfl (by decide +kernel) rfl (Nat.le_of_ble_eq_true rfl) dX5_undo_39 ⟨Nat.zero_le _, Nat.zero_le _⟩ (fun H locs hP hD hS => ?_)
      have hP : va_P D vwCl (wD_row_past cA ad block ties lines q3 q4 past) H := hP
      have hD : va_D A (wD_row_past cA ad block ties lines q3 q4 past) := hD
      refine lv_aload_n hx hb dX5_undo_42 rfl (lv_at hl 1 rfl) ?_
      refine va_get (D := D) (ci := 5) (v := .ref (ad 13)) (C := RX5) (T := TX5) (N := 12) hx hb hts iX5 hown hK hP 0 rfl rfl 4 (Nat.le_of_ble_eq_true rfl) f36 (fun _ h9 => h9) rfl dX5_undo_43 ?_
      obtain ⟨q5, eq5, h⟩ := e_b h
      refine xv_v (As := []) (rest := []) (ci := 0) (b := ad 13) ⟨hx, hb, hml, hown, hts⟩ hl.1 (kX0_dropLatest l D cA (fun i => ad (13 + i)) past   _ eq5) (cwV 0 hts gX5_undo_X0_dropLatest rfl rfl rfl (by decide +kernel) ⟨Nat.le_of_ble_eq_true rfl, Nat.le_of_ble_eq_true rfl⟩) rfl hK hP hD hS hA 4 rfl rfl rfl [4, 5, 6, 7, 8, 9, 10, 11, 12, 13, 14, 15, 16, 17, 18, 19, 20, 21, 22, 23, 24, 25, 26, 27, 28, 29, 30, 31, 32, 33, 34, 35, 36, 37, 38, 39, 40, 41] rfl (by decide +kernel) rfl (Nat.le_of_ble_eq_true rfl) dX5_undo_46 ⟨Nat.zero_le _, Nat.zero_le _⟩ (fun H locs hP hD hS => ?_)
      have hP : va_P D vwCl (wD_row_past cA ad block ties lines q3 q4 q5) H := hP
      have hD : va_D A (wD_row_past cA ad block ties lines q3 q4 q5) := hD
      refine lv_aload_n hx hb dX5_undo_49 rfl (lv_at hl 1 rfl) ?_
      refine va_get (D := D) (ci := 5) (v := .ref (ad 13)) (C := RX5) (T := TX5) (N := 12) hx hb hts iX5 hown hK hP 0 rfl rfl 4 (Nat.le_of_ble_eq_true rfl) f36 (fun _ h9 => h9) rfl dX5_undo_50 ?_
      refine va_get (D := D) (ci := 0) (v := .int q5.2.1) (C := RX0) (T := TX0) (N := 3) hx hb hts iX0 hown hK hP 4 rfl rfl 1 (Nat.le_of_ble_eq_true rfl) f86 (fun _ h9 => h9) rfl dX5_undo_53 ?_
      obtain rfl := e_s h
      exact hret hP hS rfl dX5_undo_56
    rcases hjq2 with rfl | hjq2
    · refine lv_astore_n (lv' := [(1, .ref (ad 21)), (0, .ref (ad 0))]) hx hb dX5_undo_20 rfl hl (by decide) rfl (fun ls hl => ?_)
      refine lv_aload_n hx hb dX5_undo_21 rfl (lv_at hl 1 rfl) ?_
      refine lv_aload_n hx hb dX5_undo_22 rfl (lv_at hl 1 rfl) ?_
      refine lv_aload_n hx hb dX5_undo_23 rfl (lv_at hl 1 rfl) ?_
      refine va_get (D := D) (ci := 5) (v := .ref (ad 7)) (C := RX5) (T := TX5) (N := 12) hx hb hts iX5 hown hK hP 0 rfl rfl 2 (Nat.le_of_ble_eq_true rfl) f26 (fun _ h9 => h9) rfl dX5_undo_24 ?_
      refine lv_aload_n hx hb dX5_undo_27 rfl (lv_at hl 0 rfl) ?_
      obtain ⟨q3, eq3, h⟩ := e_b h
      refine xv_i (As := [.ref (ad 7), .ref (ad 21)]) (rest := [.ref (ad 0)]) (ci := 5) (b := ad 0) ⟨hx, hb, hml, hown, hts⟩ hl.1 (kX5_pairsTouched l D cA ad (fun i => ad (7 + i)) (fun i => ad (21 + i)) block ties lines pmn row (past.1 2)   _ eq3) (cwV 2 hts gX5_undo_X5_pairsTouched rfl rfl rfl (by decide +kernel) ⟨Nat.le_of_ble_eq_true rfl, Nat.le_of_ble_eq_true rfl⟩) rfl hK hP hD hS hA 0 rfl rfl rfl [0, 1, 2, 3, 12, 13, 14] rfl (by decide +kernel) rfl (Nat.le_of_ble_eq_true rfl) dX5_undo_28 ⟨Nat.zero_le _, Nat.zero_le _⟩ (fun H locs hP hD hS hnq3 => ?_)
      have hP : va_P D vwCl (wD_row_past cA ad block ties lines pmn row past) H := hP
      have hD : va_D A (wD_row_past cA ad block ties lines pmn row past) := hD
      refine va_put (D := D) (ci := 5) (v := .int q3) (ty := .int) (C := RX5) (T := TX5) (N := 12) hx hb hts iX5 tyX5 tyX5_ok nmX5 hown hK hP hD hS 0 rfl rfl 11 (Nat.le_of_ble_eq_true rfl) f64 (fun _ h9 => h9) rfl (tyX5_ok 11 (Nat.le_of_ble_eq_true rfl)) rfl rfl (Nat.le_of_ble_eq_true rfl) dX5_undo_31 (fun H locs hP hD hS => ?_)
      have hP : va_P D vwCl (wD_row_past cA ad block ties lines q3 row past) H := hP
      have hD : va_D A (wD_row_past cA ad block ties lines q3 row past) := hD
      refine lv_aload_n hx hb dX5_undo_34 rfl (lv_at hl 1 rfl) ?_
      refine va_get (D := D) (ci := 5) (v := .ref (ad 7)) (C := RX5) (T := TX5) (N := 12) hx hb hts iX5 hown hK hP 0 rfl rfl 2 (Nat.le_of_ble_eq_true rfl) f26 (fun _ h9 => h9) rfl dX5_undo_35 ?_
      refine lv_aload_n hx hb dX5_undo_38 rfl (lv_at hl 0 rfl) ?_
      obtain ⟨q4, eq4, h⟩ := e_b h
      refine xv_v (As := [.ref (ad 21)]) (rest := []) (ci := 2) (b := ad 7) ⟨hx, hb, hml, hown, hts⟩ hl.1 (kX2_take l D cA (fun i => ad (7 + i)) (fun i => ad (21 + i)) row (past.1 2)   _ eq4) (cwV 1 hts gX5_undo_X2_take rfl rfl rfl (by decide +kernel) ⟨Nat.le_of_ble_eq_true rfl, Nat.le_of_ble_eq_true rfl⟩) rfl hK hP hD hS hA 1 rfl rfl rfl [1, 2, 3, 12, 13, 14] rfl (by decide +kernel) rfl (Nat.le_of_ble_eq_true rfl) dX5_undo_39 ⟨Nat.zero_le _, Nat.zero_le _⟩ (fun H locs hP hD hS => ?_)
      have hP : va_P D vwCl (wD_row_past cA ad block ties lines q3 q4 past) H := hP
      have hD : va_D A (wD_row_past cA ad block ties lines q3 q4 past) := hD
      refine lv_aload_n hx hb dX5_undo_42 rfl (lv_at hl 1 rfl) ?_
      refine va_get (D := D) (ci := 5) (v := .ref (ad 13)) (C := RX5) (T := TX5) (N := 12) hx hb hts iX5 hown hK hP 0 rfl rfl 4 (Nat.le_of_ble_eq_true rfl) f36 (fun _ h9 => h9) rfl dX5_undo_43 ?_
      obtain ⟨q5, eq5, h⟩ := e_b h
      refine xv_v (As := []) (rest := []) (ci := 0) (b := ad 13) ⟨hx, hb, hml, hown, hts⟩ hl.1 (kX0_dropLatest l D cA (fun i => ad (13 + i)) past   _ eq5) (cwV 0 hts gX5_undo_X0_dropLatest rfl rfl rfl (by decide +kernel) ⟨Nat.le_of_ble_eq_true rfl, Nat.le_of_ble_eq_true rfl⟩) rfl hK hP hD hS hA 4 rfl rfl rfl [4, 5, 6, 7, 8, 9, 10, 11, 12, 13, 14, 15, 16, 17, 18, 19, 20, 21, 22, 23, 24, 25, 26, 27, 28, 29, 30, 31, 32, 33, 34, 35, 36, 37, 38, 39, 40, 41] rfl (by decide +kernel) rfl (Nat.le_of_ble_eq_true rfl) dX5_undo_46 ⟨Nat.zero_le _, Nat.zero_le _⟩ (fun H locs hP hD hS => ?_)
      have hP : va_P D vwCl (wD_row_past cA ad block ties lines q3 q4 q5) H := hP
      have hD : va_D A (wD_row_past cA ad block ties lines q3 q4 q5) := hD
      refine lv_aload_n hx hb dX5_undo_49 rfl (lv_at hl 1 rfl) ?_
      refine va_get (D := D) (ci := 5) (v := .ref (ad 13)) (C := RX5) (T := TX5) (N := 12) hx hb hts iX5 hown hK hP 0 rfl rfl 4 (Nat.le_of_ble_eq_true rfl) f36 (fun _ h9 => h9) rfl dX5_undo_50 ?_
      refine va_get (D := D) (ci := 0) (v := .int q5.2.1) (C := RX0) (T := TX0) (N := 3) hx hb hts iX0 hown hK hP 4 rfl rfl 1 (Nat.le_of_ble_eq_true rfl) f86 (fun _ h9 => h9) rfl dX5_undo_53 ?_
      obtain rfl := e_s h
      exact hret hP hS rfl dX5_undo_56
    rcases hjq2 with rfl | hjq2
    · refine lv_astore_n (lv' := [(1, .ref (ad 24)), (0, .ref (ad 0))]) hx hb dX5_undo_20 rfl hl (by decide) rfl (fun ls hl => ?_)
      refine lv_aload_n hx hb dX5_undo_21 rfl (lv_at hl 1 rfl) ?_
      refine lv_aload_n hx hb dX5_undo_22 rfl (lv_at hl 1 rfl) ?_
      refine lv_aload_n hx hb dX5_undo_23 rfl (lv_at hl 1 rfl) ?_
      refine va_get (D := D) (ci := 5) (v := .ref (ad 7)) (C := RX5) (T := TX5) (N := 12) hx hb hts iX5 hown hK hP 0 rfl rfl 2 (Nat.le_of_ble_eq_true rfl) f26 (fun _ h9 => h9) rfl dX5_undo_24 ?_
      refine lv_aload_n hx hb dX5_undo_27 rfl (lv_at hl 0 rfl) ?_
      obtain ⟨q3, eq3, h⟩ := e_b h
      refine xv_i (As := [.ref (ad 7), .ref (ad 24)]) (rest := [.ref (ad 0)]) (ci := 5) (b := ad 0) ⟨hx, hb, hml, hown, hts⟩ hl.1 (kX5_pairsTouched l D cA ad (fun i => ad (7 + i)) (fun i => ad (24 + i)) block ties lines pmn row (past.1 3)   _ eq3) (cwV 2 hts gX5_undo_X5_pairsTouched rfl rfl rfl (by decide +kernel) ⟨Nat.le_of_ble_eq_true rfl, Nat.le_of_ble_eq_true rfl⟩) rfl hK hP hD hS hA 0 rfl rfl rfl [0, 1, 2, 3, 15, 16, 17] rfl (by decide +kernel) rfl (Nat.le_of_ble_eq_true rfl) dX5_undo_28 ⟨Nat.zero_le _, Nat.zero_le _⟩ (fun H locs hP hD hS hnq3 => ?_)
      have hP : va_P D vwCl (wD_row_past cA ad block ties lines pmn row past) H := hP
      have hD : va_D A (wD_row_past cA ad block ties lines pmn row past) := hD
      refine va_put (D := D) (ci := 5) (v := .int q3) (ty := .int) (C := RX5) (T := TX5) (N := 12) hx hb hts iX5 tyX5 tyX5_ok nmX5 hown hK hP hD hS 0 rfl rfl 11 (Nat.le_of_ble_eq_true rfl) f64 (fun _ h9 => h9) rfl (tyX5_ok 11 (Nat.le_of_ble_eq_true rfl)) rfl rfl (Nat.le_of_ble_eq_true rfl) dX5_undo_31 (fun H locs hP hD hS => ?_)
      have hP : va_P D vwCl (wD_row_past cA ad block ties lines q3 row past) H := hP
      have hD : va_D A (wD_row_past cA ad block ties lines q3 row past) := hD
      refine lv_aload_n hx hb dX5_undo_34 rfl (lv_at hl 1 rfl) ?_
      refine va_get (D := D) (ci := 5) (v := .ref (ad 7)) (C := RX5) (T := TX5) (N := 12) hx hb hts iX5 hown hK hP 0 rfl rfl 2 (Nat.le_of_ble_eq_true rfl) f26 (fun _ h9 => h9) rfl dX5_undo_35 ?_
      refine lv_aload_n hx hb dX5_undo_38 rfl (lv_at hl 0 rfl) ?_
      obtain ⟨q4, eq4, h⟩ := e_b h
      refine xv_v (As := [.ref (ad 24)]) (rest := []) (ci := 2) (b := ad 7) ⟨hx, hb, hml, hown, hts⟩ hl.1 (kX2_take l D cA (fun i => ad (7 + i)) (fun i => ad (24 + i)) row (past.1 3)   _ eq4) (cwV 1 hts gX5_undo_X2_take rfl rfl rfl (by decide +kernel) ⟨Nat.le_of_ble_eq_true rfl, Nat.le_of_ble_eq_true rfl⟩) rfl hK hP hD hS hA 1 rfl rfl rfl [1, 2, 3, 15, 16, 17] rfl (by decide +kernel) rfl (Nat.le_of_ble_eq_true rfl) dX5_undo_39 ⟨Nat.zero_le _, Nat.zero_le _⟩ (fun H locs hP hD hS => ?_)
      have hP : va_P D vwCl (wD_row_past cA ad block ties lines q3 q4 past) H := hP
      have hD : va_D A (wD_row_past cA ad block ties lines q3 q4 past) := hD
      refine lv_aload_n hx hb dX5_undo_42 rfl (lv_at hl 1 rfl) ?_
      refine va_get (D := D) (ci := 5) (v := .ref (ad 13)) (C := RX5) (T := TX5) (N := 12) hx hb hts iX5 hown hK hP 0 rfl rfl 4 (Nat.le_of_ble_eq_true rfl) f36 (fun _ h9 => h9) rfl dX5_undo_43 ?_
      obtain ⟨q5, eq5, h⟩ := e_b h
      refine xv_v (As := []) (rest := []) (ci := 0) (b := ad 13) ⟨hx, hb, hml, hown, hts⟩ hl.1 (kX0_dropLatest l D cA (fun i => ad (13 + i)) past   _ eq5) (cwV 0 hts gX5_undo_X0_dropLatest rfl rfl rfl (by decide +kernel) ⟨Nat.le_of_ble_eq_true rfl, Nat.le_of_ble_eq_true rfl⟩) rfl hK hP hD hS hA 4 rfl rfl rfl [4, 5, 6, 7, 8, 9, 10, 11, 12, 13, 14, 15, 16, 17, 18, 19, 20, 21, 22, 23, 24, 25, 26, 27, 28, 29, 30, 31, 32, 33, 34, 35, 36, 37, 38, 39, 40, 41] rfl (by decide +kernel) rfl (Nat.le_of_ble_eq_true rfl) dX5_undo_46 ⟨Nat.zero_le _, Nat.zero_le _⟩ (fun H locs hP hD hS => ?_)
      have hP : va_P D vwCl (wD_row_past cA ad block ties lines q3 q4 q5) H := hP
      have hD : va_D A (wD_row_past cA ad block ties lines q3 q4 q5) := hD
      refine lv_aload_n hx hb dX5_undo_49 rfl (lv_at hl 1 rfl) ?_
      refine va_get (D := D) (ci := 5) (v := .ref (ad 13)) (C := RX5) (T := TX5) (N := 12) hx hb hts iX5 hown hK hP 0 rfl rfl 4 (Nat.le_of_ble_eq_true rfl) f36 (fun _ h9 => h9) rfl dX5_undo_50 ?_
      refine va_get (D := D) (ci := 0) (v := .int q5.2.1) (C := RX0) (T := TX0) (N := 3) hx hb hts iX0 hown hK hP 4 rfl rfl 1 (Nat.le_of_ble_eq_true rfl) f86 (fun _ h9 => h9) rfl dX5_undo_53 ?_
      obtain rfl := e_s h
      exact hret hP hS rfl dX5_undo_56
    rcases hjq2 with rfl | hjq2
    · refine lv_astore_n (lv' := [(1, .ref (ad 27)), (0, .ref (ad 0))]) hx hb dX5_undo_20 rfl hl (by decide) rfl (fun ls hl => ?_)
      refine lv_aload_n hx hb dX5_undo_21 rfl (lv_at hl 1 rfl) ?_
      refine lv_aload_n hx hb dX5_undo_22 rfl (lv_at hl 1 rfl) ?_
      refine lv_aload_n hx hb dX5_undo_23 rfl (lv_at hl 1 rfl) ?_
      refine va_get (D := D) (ci := 5) (v := .ref (ad 7)) (C := RX5) (T := TX5) (N := 12) hx hb hts iX5 hown hK hP 0 rfl rfl 2 (Nat.le_of_ble_eq_true rfl) f26 (fun _ h9 => h9) rfl dX5_undo_24 ?_
      refine lv_aload_n hx hb dX5_undo_27 rfl (lv_at hl 0 rfl) ?_
      obtain ⟨q3, eq3, h⟩ := e_b h
      refine xv_i (As := [.ref (ad 7), .ref (ad 27)]) (rest := [.ref (ad 0)]) (ci := 5) (b := ad 0) ⟨hx, hb, hml, hown, hts⟩ hl.1 (kX5_pairsTouched l D cA ad (fun i => ad (7 + i)) (fun i => ad (27 + i)) block ties lines pmn row (past.1 4)   _ eq3) (cwV 2 hts gX5_undo_X5_pairsTouched rfl rfl rfl (by decide +kernel) ⟨Nat.le_of_ble_eq_true rfl, Nat.le_of_ble_eq_true rfl⟩) rfl hK hP hD hS hA 0 rfl rfl rfl [0, 1, 2, 3, 18, 19, 20] rfl (by decide +kernel) rfl (Nat.le_of_ble_eq_true rfl) dX5_undo_28 ⟨Nat.zero_le _, Nat.zero_le _⟩ (fun H locs hP hD hS hnq3 => ?_)
      have hP : va_P D vwCl (wD_row_past cA ad block ties lines pmn row past) H := hP
      have hD : va_D A (wD_row_past cA ad block ties lines pmn row past) := hD
      refine va_put (D := D) (ci := 5) (v := .int q3) (ty := .int) (C := RX5) (T := TX5) (N := 12) hx hb hts iX5 tyX5 tyX5_ok nmX5 hown hK hP hD hS 0 rfl rfl 11 (Nat.le_of_ble_eq_true rfl) f64 (fun _ h9 => h9) rfl (tyX5_ok 11 (Nat.le_of_ble_eq_true rfl)) rfl rfl (Nat.le_of_ble_eq_true rfl) dX5_undo_31 (fun H locs hP hD hS => ?_)
      have hP : va_P D vwCl (wD_row_past cA ad block ties lines q3 row past) H := hP
      have hD : va_D A (wD_row_past cA ad block ties lines q3 row past) := hD
      refine lv_aload_n hx hb dX5_undo_34 rfl (lv_at hl 1 rfl) ?_
      refine va_get (D := D) (ci := 5) (v := .ref (ad 7)) (C := RX5) (T := TX5) (N := 12) hx hb hts iX5 hown hK hP 0 rfl rfl 2 (Nat.le_of_ble_eq_true rfl) f26 (fun _ h9 => h9) rfl dX5_undo_35 ?_
      refine lv_aload_n hx hb dX5_undo_38 rfl (lv_at hl 0 rfl) ?_
      obtain ⟨q4, eq4, h⟩ := e_b h
      refine xv_v (As := [.ref (ad 27)]) (rest := []) (ci := 2) (b := ad 7) ⟨hx, hb, hml, hown, hts⟩ hl.1 (kX2_take l D cA (fun i => ad (7 + i)) (fun i => ad (27 + i)) row (past.1 4)   _ eq4) (cwV 1 hts gX5_undo_X2_take rfl rfl rfl (by decide +kernel) ⟨Nat.le_of_ble_eq_true rfl, Nat.le_of_ble_eq_true rfl⟩) rfl hK hP hD hS hA 1 rfl rfl rfl [1, 2, 3, 18, 19, 20] rfl (by decide +kernel) rfl (Nat.le_of_ble_eq_true rfl) dX5_undo_39 ⟨Nat.zero_le _, Nat.zero_le _⟩ (fun H locs hP hD hS => ?_)
      have hP : va_P D vwCl (wD_row_past cA ad block ties lines q3 q4 past) H := hP
      have hD : va_D A (wD_row_past cA ad block ties lines q3 q4 past) := hD
      refine lv_aload_n hx hb dX5_undo_42 rfl (lv_at hl 1 rfl) ?_
      refine va_get (D := D) (ci := 5) (v := .ref (ad 13)) (C := RX5) (T := TX5) (N := 12) hx hb hts iX5 hown hK hP 0 rfl rfl 4 (Nat.le_of_ble_eq_true rfl) f36 (fun _ h9 => h9) rfl dX5_undo_43 ?_
      obtain ⟨q5, eq5, h⟩ := e_b h
      refine xv_v (As := []) (rest := []) (ci := 0) (b := ad 13) ⟨hx, hb, hml, hown, hts⟩ hl.1 (kX0_dropLatest l D cA (fun i => ad (13 + i)) past   _ eq5) (cwV 0 hts gX5_undo_X0_dropLatest rfl rfl rfl (by decide +kernel) ⟨Nat.le_of_ble_eq_true rfl, Nat.le_of_ble_eq_true rfl⟩) rfl hK hP hD hS hA 4 rfl rfl rfl [4, 5, 6, 7, 8, 9, 10, 11, 12, 13, 14, 15, 16, 17, 18, 19, 20, 21, 22, 23, 24, 25, 26, 27, 28, 29, 30, 31, 32, 33, 34, 35, 36, 37, 38, 39, 40, 41] rfl (by decide +kernel) rfl (Nat.le_of_ble_eq_true rfl) dX5_undo_46 ⟨Nat.zero_le _, Nat.zero_le _⟩ (fun H locs hP hD hS => ?_)
      have hP : va_P D vwCl (wD_row_past cA ad block ties lines q3 q4 q5) H := hP
      have hD : va_D A (wD_row_past cA ad block ties lines q3 q4 q5) := hD
      refine lv_aload_n hx hb dX5_undo_49 rfl (lv_at hl 1 rfl) ?_
      refine va_get (D := D) (ci := 5) (v := .ref (ad 13)) (C := RX5) (T := TX5) (N := 12) hx hb hts iX5 hown hK hP 0 rfl rfl 4 (Nat.le_of_ble_eq_true rfl) f36 (fun _ h9 => h9) rfl dX5_undo_50 ?_
      refine va_get (D := D) (ci := 0) (v := .int q5.2.1) (C := RX0) (T := TX0) (N := 3) hx hb hts iX0 hown hK hP 4 rfl rfl 1 (Nat.le_of_ble_eq_true rfl) f86 (fun _ h9 => h9) rfl dX5_undo_53 ?_
      obtain rfl := e_s h
      exact hret hP hS rfl dX5_undo_56
    rcases hjq2 with rfl | hjq2
    · refine lv_astore_n (lv' := [(1, .ref (ad 30)), (0, .ref (ad 0))]) hx hb dX5_undo_20 rfl hl (by decide) rfl (fun ls hl => ?_)
      refine lv_aload_n hx hb dX5_undo_21 rfl (lv_at hl 1 rfl) ?_
      refine lv_aload_n hx hb dX5_undo_22 rfl (lv_at hl 1 rfl) ?_
      refine lv_aload_n hx hb dX5_undo_23 rfl (lv_at hl 1 rfl) ?_
      refine va_get (D := D) (ci := 5) (v := .ref (ad 7)) (C := RX5) (T := TX5) (N := 12) hx hb hts iX5 hown hK hP 0 rfl rfl 2 (Nat.le_of_ble_eq_true rfl) f26 (fun _ h9 => h9) rfl dX5_undo_24 ?_
      refine lv_aload_n hx hb dX5_undo_27 rfl (lv_at hl 0 rfl) ?_
      obtain ⟨q3, eq3, h⟩ := e_b h
      refine xv_i (As := [.ref (ad 7), .ref (ad 30)]) (rest := [.ref (ad 0)]) (ci := 5) (b := ad 0) ⟨hx, hb, hml, hown, hts⟩ hl.1 (kX5_pairsTouched l D cA ad (fun i => ad (7 + i)) (fun i => ad (30 + i)) block ties lines pmn row (past.1 5)   _ eq3) (cwV 2 hts gX5_undo_X5_pairsTouched rfl rfl rfl (by decide +kernel) ⟨Nat.le_of_ble_eq_true rfl, Nat.le_of_ble_eq_true rfl⟩) rfl hK hP hD hS hA 0 rfl rfl rfl [0, 1, 2, 3, 21, 22, 23] rfl (by decide +kernel) rfl (Nat.le_of_ble_eq_true rfl) dX5_undo_28 ⟨Nat.zero_le _, Nat.zero_le _⟩ (fun H locs hP hD hS hnq3 => ?_)
      have hP : va_P D vwCl (wD_row_past cA ad block ties lines pmn row past) H := hP
      have hD : va_D A (wD_row_past cA ad block ties lines pmn row past) := hD
      refine va_put (D := D) (ci := 5) (v := .int q3) (ty := .int) (C := RX5) (T := TX5) (N := 12) hx hb hts iX5 tyX5 tyX5_ok nmX5 hown hK hP hD hS 0 rfl rfl 11 (Nat.le_of_ble_eq_true rfl) f64 (fun _ h9 => h9) rfl (tyX5_ok 11 (Nat.le_of_ble_eq_true rfl)) rfl rfl (Nat.le_of_ble_eq_true rfl) dX5_undo_31 (fun H locs hP hD hS => ?_)
      have hP : va_P D vwCl (wD_row_past cA ad block ties lines q3 row past) H := hP
      have hD : va_D A (wD_row_past cA ad block ties lines q3 row past) := hD
      refine lv_aload_n hx hb dX5_undo_34 rfl (lv_at hl 1 rfl) ?_
      refine va_get (D := D) (ci := 5) (v := .ref (ad 7)) (C := RX5) (T := TX5) (N := 12) hx hb hts iX5 hown hK hP 0 rfl rfl 2 (Nat.le_of_ble_eq_true rfl) f26 (fun _ h9 => h9) rfl dX5_undo_35 ?_
      refine lv_aload_n hx hb dX5_undo_38 rfl (lv_at hl 0 rfl) ?_
      obtain ⟨q4, eq4, h⟩ := e_b h
      refine xv_v (As := [.ref (ad 30)]) (rest := []) (ci := 2) (b := ad 7) ⟨hx, hb, hml, hown, hts⟩ hl.1 (kX2_take l D cA (fun i => ad (7 + i)) (fun i => ad (30 + i)) row (past.1 5)   _ eq4) (cwV 1 hts gX5_undo_X2_take rfl rfl rfl (by decide +kernel) ⟨Nat.le_of_ble_eq_true rfl, Nat.le_of_ble_eq_true rfl⟩) rfl hK hP hD hS hA 1 rfl rfl rfl [1, 2, 3, 21, 22, 23] rfl (by decide +kernel) rfl (Nat.le_of_ble_eq_true rfl) dX5_undo_39 ⟨Nat.zero_le _, Nat.zero_le _⟩ (fun H locs hP hD hS => ?_)
      have hP : va_P D vwCl (wD_row_past cA ad block ties lines q3 q4 past) H := hP
      have hD : va_D A (wD_row_past cA ad block ties lines q3 q4 past) := hD
      refine lv_aload_n hx hb dX5_undo_42 rfl (lv_at hl 1 rfl) ?_
      refine va_get (D := D) (ci := 5) (v := .ref (ad 13)) (C := RX5) (T := TX5) (N := 12) hx hb hts iX5 hown hK hP 0 rfl rfl 4 (Nat.le_of_ble_eq_true rfl) f36 (fun _ h9 => h9) rfl dX5_undo_43 ?_
      obtain ⟨q5, eq5, h⟩ := e_b h
      refine xv_v (As := []) (rest := []) (ci := 0) (b := ad 13) ⟨hx, hb, hml, hown, hts⟩ hl.1 (kX0_dropLatest l D cA (fun i => ad (13 + i)) past   _ eq5) (cwV 0 hts gX5_undo_X0_dropLatest rfl rfl rfl (by decide +kernel) ⟨Nat.le_of_ble_eq_true rfl, Nat.le_of_ble_eq_true rfl⟩) rfl hK hP hD hS hA 4 rfl rfl rfl [4, 5, 6, 7, 8, 9, 10, 11, 12, 13, 14, 15, 16, 17, 18, 19, 20, 21, 22, 23, 24, 25, 26, 27, 28, 29, 30, 31, 32, 33, 34, 35, 36, 37, 38, 39, 40, 41] rfl (by decide +kernel) rfl (Nat.le_of_ble_eq_true rfl) dX5_undo_46 ⟨Nat.zero_le _, Nat.zero_le _⟩ (fun H locs hP hD hS => ?_)
      have hP : va_P D vwCl (wD_row_past cA ad block ties lines q3 q4 q5) H := hP
      have hD : va_D A (wD_row_past cA ad block ties lines q3 q4 q5) := hD
      refine lv_aload_n hx hb dX5_undo_49 rfl (lv_at hl 1 rfl) ?_
      refine va_get (D := D) (ci := 5) (v := .ref (ad 13)) (C := RX5) (T := TX5) (N := 12) hx hb hts iX5 hown hK hP 0 rfl rfl 4 (Nat.le_of_ble_eq_true rfl) f36 (fun _ h9 => h9) rfl dX5_undo_50 ?_
      refine va_get (D := D) (ci := 0) (v := .int q5.2.1) (C := RX0) (T := TX0) (N := 3) hx hb hts iX0 hown hK hP 4 rfl rfl 1 (Nat.le_of_ble_eq_true rfl) f86 (fun _ h9 => h9) rfl dX5_undo_53 ?_
      obtain rfl := e_s h
      exact hret hP hS rfl dX5_undo_56
    rcases hjq2 with rfl | hjq2
    · refine lv_astore_n (lv' := [(1, .ref (ad 33)), (0, .ref (ad 0))]) hx hb dX5_undo_20 rfl hl (by decide) rfl (fun ls hl => ?_)
      refine lv_aload_n hx hb dX5_undo_21 rfl (lv_at hl 1 rfl) ?_
      refine lv_aload_n hx hb dX5_undo_22 rfl (lv_at hl 1 rfl) ?_
      refine lv_aload_n hx hb dX5_undo_23 rfl (lv_at hl 1 rfl) ?_
      refine va_get (D := D) (ci := 5) (v := .ref (ad 7)) (C := RX5) (T := TX5) (N := 12) hx hb hts iX5 hown hK hP 0 rfl rfl 2 (Nat.le_of_ble_eq_true rfl) f26 (fun _ h9 => h9) rfl dX5_undo_24 ?_
      refine lv_aload_n hx hb dX5_undo_27 rfl (lv_at hl 0 rfl) ?_
      obtain ⟨q3, eq3, h⟩ := e_b h
      refine xv_i (As := [.ref (ad 7), .ref (ad 33)]) (rest := [.ref (ad 0)]) (ci := 5) (b := ad 0) ⟨hx, hb, hml, hown, hts⟩ hl.1 (kX5_pairsTouched l D cA ad (fun i => ad (7 + i)) (fun i => ad (33 + i)) block ties lines pmn row (past.1 6)   _ eq3) (cwV 2 hts gX5_undo_X5_pairsTouched rfl rfl rfl (by decide +kernel) ⟨Nat.le_of_ble_eq_true rfl, Nat.le_of_ble_eq_true rfl⟩) rfl hK hP hD hS hA 0 rfl rfl rfl [0, 1, 2, 3, 24, 25, 26] rfl (by decide +kernel) rfl (Nat.le_of_ble_eq_true rfl) dX5_undo_28 ⟨Nat.zero_le _, Nat.zero_le _⟩ (fun H locs hP hD hS hnq3 => ?_)
      have hP : va_P D vwCl (wD_row_past cA ad block ties lines pmn row past) H := hP
      have hD : va_D A (wD_row_past cA ad block ties lines pmn row past) := hD
      refine va_put (D := D) (ci := 5) (v := .int q3) (ty := .int) (C := RX5) (T := TX5) (N := 12) hx hb hts iX5 tyX5 tyX5_ok nmX5 hown hK hP hD hS 0 rfl rfl 11 (Nat.le_of_ble_eq_true rfl) f64 (fun _ h9 => h9) rfl (tyX5_ok 11 (Nat.le_of_ble_eq_true rfl)) rfl rfl (Nat.le_of_ble_eq_true rfl) dX5_undo_31 (fun H locs hP hD hS => ?_)
      have hP : va_P D vwCl (wD_row_past cA ad block ties lines q3 row past) H := hP
      have hD : va_D A (wD_row_past cA ad block ties lines q3 row past) := hD
      refine lv_aload_n hx hb dX5_undo_34 rfl (lv_at hl 1 rfl) ?_
      refine va_get (D := D) (ci := 5) (v := .ref (ad 7)) (C := RX5) (T := TX5) (N := 12) hx hb hts iX5 hown hK hP 0 rfl rfl 2 (Nat.le_of_ble_eq_true rfl) f26 (fun _ h9 => h9) rfl dX5_undo_35 ?_
      refine lv_aload_n hx hb dX5_undo_38 rfl (lv_at hl 0 rfl) ?_
      obtain ⟨q4, eq4, h⟩ := e_b h
      refine xv_v (As := [.ref (ad 33)]) (rest := []) (ci := 2) (b := ad 7) ⟨hx, hb, hml, hown, hts⟩ hl.1 (kX2_take l D cA (fun i => ad (7 + i)) (fun i => ad (33 + i)) row (past.1 6)   _ eq4) (cwV 1 hts gX5_undo_X2_take rfl rfl rfl (by decide +kernel) ⟨Nat.le_of_ble_eq_true rfl, Nat.le_of_ble_eq_true rfl⟩) rfl hK hP hD hS hA 1 rfl rfl rfl [1, 2, 3, 24, 25, 26] rfl (by decide +kernel) rfl (Nat.le_of_ble_eq_true rfl) dX5_undo_39 ⟨Nat.zero_le _, Nat.zero_le _⟩ (fun H locs hP hD hS => ?_)
      have hP : va_P D vwCl (wD_row_past cA ad block ties lines q3 q4 past) H := hP
      have hD : va_D A (wD_row_past cA ad block ties lines q3 q4 past) := hD
      refine lv_aload_n hx hb dX5_undo_42 rfl (lv_at hl 1 rfl) ?_
      refine va_get (D := D) (ci := 5) (v := .ref (ad 13)) (C := RX5) (T := TX5) (N := 12) hx hb hts iX5 hown hK hP 0 rfl rfl 4 (Nat.le_of_ble_eq_true rfl) f36 (fun _ h9 => h9) rfl dX5_undo_43 ?_
      obtain ⟨q5, eq5, h⟩ := e_b h
      refine xv_v (As := []) (rest := []) (ci := 0) (b := ad 13) ⟨hx, hb, hml, hown, hts⟩ hl.1 (kX0_dropLatest l D cA (fun i => ad (13 + i)) past   _ eq5) (cwV 0 hts gX5_undo_X0_dropLatest rfl rfl rfl (by decide +kernel) ⟨Nat.le_of_ble_eq_true rfl, Nat.le_of_ble_eq_true rfl⟩) rfl hK hP hD hS hA 4 rfl rfl rfl [4, 5, 6, 7, 8, 9, 10, 11, 12, 13, 14, 15, 16, 17, 18, 19, 20, 21, 22, 23, 24, 25, 26, 27, 28, 29, 30, 31, 32, 33, 34, 35, 36, 37, 38, 39, 40, 41] rfl (by decide +kernel) rfl (Nat.le_of_ble_eq_true rfl) dX5_undo_46 ⟨Nat.zero_le _, Nat.zero_le _⟩ (fun H locs hP hD hS => ?_)
      have hP : va_P D vwCl (wD_row_past cA ad block ties lines q3 q4 q5) H := hP
      have hD : va_D A (wD_row_past cA ad block ties lines q3 q4 q5) := hD
      refine lv_aload_n hx hb dX5_undo_49 rfl (lv_at hl 1 rfl) ?_
      refine va_get (D := D) (ci := 5) (v := .ref (ad 13)) (C := RX5) (T := TX5) (N := 12) hx hb hts iX5 hown hK hP 0 rfl rfl 4 (Nat.le_of_ble_eq_true rfl) f36 (fun _ h9 => h9) rfl dX5_undo_50 ?_
      refine va_get (D := D) (ci := 0) (v := .int q5.2.1) (C := RX0) (T := TX0) (N := 3) hx hb hts iX0 hown hK hP 4 rfl rfl 1 (Nat.le_of_ble_eq_true rfl) f86 (fun _ h9 => h9) rfl dX5_undo_53 ?_
      obtain rfl := e_s h
      exact hret hP hS rfl dX5_undo_56
    rcases hjq2 with rfl | hjq2
    · refine lv_astore_n (lv' := [(1, .ref (ad 36)), (0, .ref (ad 0))]) hx hb dX5_undo_20 rfl hl (by decide) rfl (fun ls hl => ?_)
      refine lv_aload_n hx hb dX5_undo_21 rfl (lv_at hl 1 rfl) ?_
      refine lv_aload_n hx hb dX5_undo_22 rfl (lv_at hl 1 rfl) ?_
      refine lv_aload_n hx hb dX5_undo_23 rfl (lv_at hl 1 rfl) ?_
      refine va_get (D := D) (ci := 5) (v := .ref (ad 7)) (C := RX5) (T := TX5) (N := 12) hx hb hts iX5 hown hK hP 0 rfl rfl 2 (Nat.le_of_ble_eq_true rfl) f26 (fun _ h9 => h9) rfl dX5_undo_24 ?_
      refine lv_aload_n hx hb dX5_undo_27 rfl (lv_at hl 0 rfl) ?_
      obtain ⟨q3, eq3, h⟩ := e_b h
      refine xv_i (As := [.ref (ad 7), .ref (ad 36)]) (rest := [.ref (ad 0)]) (ci := 5) (b := ad 0) ⟨hx, hb, hml, hown, hts⟩ hl.1 (kX5_pairsTouched l D cA ad (fun i => ad (7 + i)) (fun i => ad (36 + i)) block ties lines pmn row (past.1 7)   _ eq3) (cwV 2 hts gX5_undo_X5_pairsTouched rfl rfl rfl (by decide +kernel) ⟨Nat.le_of_ble_eq_true rfl, Nat.le_of_ble_eq_true rfl⟩) rfl hK hP hD hS hA 0 rfl rfl rfl [0, 1, 2, 3, 27, 28, 29] rfl (by decide +kernel) rfl (Nat.le_of_ble_eq_true rfl) dX5_undo_28 ⟨Nat.zero_le _, Nat.zero_le _⟩ (fun H locs hP hD hS hnq3 => ?_)
      have hP : va_P D vwCl (wD_row_past cA ad block ties lines pmn row past) H := hP
      have hD : va_D A (wD_row_past cA ad block ties lines pmn row past) := hD
      refine va_put (D := D) (ci := 5) (v := .int q3) (ty := .int) (C := RX5) (T := TX5) (N := 12) hx hb hts iX5 tyX5 tyX5_ok nmX5 hown hK hP hD hS 0 rfl rfl 11 (Nat.le_of_ble_eq_true rfl) f64 (fun _ h9 => h9) rfl (tyX5_ok 11 (Nat.le_of_ble_eq_true rfl)) rfl rfl (Nat.le_of_ble_eq_true rfl) dX5_undo_31 (fun H locs hP hD hS => ?_)
      have hP : va_P D vwCl (wD_row_past cA ad block ties lines q3 row past) H := hP
      have hD : va_D A (wD_row_past cA ad block ties lines q3 row past) := hD
      refine lv_aload_n hx hb dX5_undo_34 rfl (lv_at hl 1 rfl) ?_
      refine va_get (D := D) (ci := 5) (v := .ref (ad 7)) (C := RX5) (T := TX5) (N := 12) hx hb hts iX5 hown hK hP 0 rfl rfl 2 (Nat.le_of_ble_eq_true rfl) f26 (fun _ h9 => h9) rfl dX5_undo_35 ?_
      refine lv_aload_n hx hb dX5_undo_38 rfl (lv_at hl 0 rfl) ?_
      obtain ⟨q4, eq4, h⟩ := e_b h
      refine xv_v (As := [.ref (ad 36)]) (rest := []) (ci := 2) (b := ad 7) ⟨hx, hb, hml, hown, hts⟩ hl.1 (kX2_take l D cA (fun i => ad (7 + i)) (fun i => ad (36 + i)) row (past.1 7)   _ eq4) (cwV 1 hts gX5_undo_X2_take rfl rfl rfl (by decide +kernel) ⟨Nat.le_of_ble_eq_true rfl, Nat.le_of_ble_eq_true rfl⟩) rfl hK hP hD hS hA 1 rfl rfl rfl [1, 2, 3, 27, 28, 29] rfl (by decide +kernel) rfl (Nat.le_of_ble_eq_true rfl) dX5_undo_39 ⟨Nat.zero_le _, Nat.zero_le _⟩ (fun H locs hP hD hS => ?_)
      have hP : va_P D vwCl (wD_row_past cA ad block ties lines q3 q4 past) H := hP
      have hD : va_D A (wD_row_past cA ad block ties lines q3 q4 past) := hD
      refine lv_aload_n hx hb dX5_undo_42 rfl (lv_at hl 1 rfl) ?_
      refine va_get (D := D) (ci := 5) (v := .ref (ad 13)) (C := RX5) (T := TX5) (N := 12) hx hb hts iX5 hown hK hP 0 rfl rfl 4 (Nat.le_of_ble_eq_true rfl) f36 (fun _ h9 => h9) rfl dX5_undo_43 ?_
      obtain ⟨q5, eq5, h⟩ := e_b h
      refine xv_v (As := []) (rest := []) (ci := 0) (b := ad 13) ⟨hx, hb, hml, hown, hts⟩ hl.1 (kX0_dropLatest l D cA (fun i => ad (13 + i)) past   _ eq5) (cwV 0 hts gX5_undo_X0_dropLatest rfl rfl rfl (by decide +kernel) ⟨Nat.le_of_ble_eq_true rfl, Nat.le_of_ble_eq_true rfl⟩) rfl hK hP hD hS hA 4 rfl rfl rfl [4, 5, 6, 7, 8, 9, 10, 11, 12, 13, 14, 15, 16, 17, 18, 19, 20, 21, 22, 23, 24, 25, 26, 27, 28, 29, 30, 31, 32, 33, 34, 35, 36, 37, 38, 39, 40, 41] rfl (by decide +kernel) rfl (Nat.le_of_ble_eq_true rfl) dX5_undo_46 ⟨Nat.zero_le _, Nat.zero_le _⟩ (fun H locs hP hD hS => ?_)
      have hP : va_P D vwCl (wD_row_past cA ad block ties lines q3 q4 q5) H := hP
      have hD : va_D A (wD_row_past cA ad block ties lines q3 q4 q5) := hD
      refine lv_aload_n hx hb dX5_undo_49 rfl (lv_at hl 1 rfl) ?_
      refine va_get (D := D) (ci := 5) (v := .ref (ad 13)) (C := RX5) (T := TX5) (N := 12) hx hb hts iX5 hown hK hP 0 rfl rfl 4 (Nat.le_of_ble_eq_true rfl) f36 (fun _ h9 => h9) rfl dX5_undo_50 ?_
      refine va_get (D := D) (ci := 0) (v := .int q5.2.1) (C := RX0) (T := TX0) (N := 3) hx hb hts iX0 hown hK hP 4 rfl rfl 1 (Nat.le_of_ble_eq_true rfl) f86 (fun _ h9 => h9) rfl dX5_undo_53 ?_
      obtain rfl := e_s h
      exact hret hP hS rfl dX5_undo_56
    rcases hjq2 with rfl | hjq2
    · refine lv_astore_n (lv' := [(1, .ref (ad 39)), (0, .ref (ad 0))]) hx hb dX5_undo_20 rfl hl (by decide) rfl (fun ls hl => ?_)
      refine lv_aload_n hx hb dX5_undo_21 rfl (lv_at hl 1 rfl) ?_
      refine lv_aload_n hx hb dX5_undo_22 rfl (lv_at hl 1 rfl) ?_
      refine lv_aload_n hx hb dX5_undo_23 rfl (lv_at hl 1 rfl) ?_
      refine va_get (D := D) (ci := 5) (v := .ref (ad 7)) (C := RX5) (T := TX5) (N := 12) hx hb hts iX5 hown hK hP 0 rfl rfl 2 (Nat.le_of_ble_eq_true rfl) f26 (fun _ h9 => h9) rfl dX5_undo_24 ?_
      refine lv_aload_n hx hb dX5_undo_27 rfl (lv_at hl 0 rfl) ?_
      obtain ⟨q3, eq3, h⟩ := e_b h
      refine xv_i (As := [.ref (ad 7), .ref (ad 39)]) (rest := [.ref (ad 0)]) (ci := 5) (b := ad 0) ⟨hx, hb, hml, hown, hts⟩ hl.1 (kX5_pairsTouched l D cA ad (fun i => ad (7 + i)) (fun i => ad (39 + i)) block ties lines pmn row (past.1 8)   _ eq3) (cwV 2 hts gX5_undo_X5_pairsTouched rfl rfl rfl (by decide +kernel) ⟨Nat.le_of_ble_eq_true rfl, Nat.le_of_ble_eq_true rfl⟩) rfl hK hP hD hS hA 0 rfl rfl rfl [0, 1, 2, 3, 30, 31, 32] rfl (by decide +kernel) rfl (Nat.le_of_ble_eq_true rfl) dX5_undo_28 ⟨Nat.zero_le _, Nat.zero_le _⟩ (fun H locs hP hD hS hnq3 => ?_)
      have hP : va_P D vwCl (wD_row_past cA ad block ties lines pmn row past) H := hP
      have hD : va_D A (wD_row_past cA ad block ties lines pmn row past) := hD
      refine va_put (D := D) (ci := 5) (v := .int q3) (ty := .int) (C := RX5) (T := TX5) (N := 12) hx hb hts iX5 tyX5 tyX5_ok nmX5 hown hK hP hD hS 0 rfl rfl 11 (Nat.le_of_ble_eq_true rfl) f64 (fun _ h9 => h9) rfl (tyX5_ok 11 (Nat.le_of_ble_eq_true rfl)) rfl rfl (Nat.le_of_ble_eq_true rfl) dX5_undo_31 (fun H locs hP hD hS => ?_)
      have hP : va_P D vwCl (wD_row_past cA ad block ties lines q3 row past) H := hP
      have hD : va_D A (wD_row_past cA ad block ties lines q3 row past) := hD
      refine lv_aload_n hx hb dX5_undo_34 rfl (lv_at hl 1 rfl) ?_
      refine va_get (D := D) (ci := 5) (v := .ref (ad 7)) (C := RX5) (T := TX5) (N := 12) hx hb hts iX5 hown hK hP 0 rfl rfl 2 (Nat.le_of_ble_eq_true rfl) f26 (fun _ h9 => h9) rfl dX5_undo_35 ?_
      refine lv_aload_n hx hb dX5_undo_38 rfl (lv_at hl 0 rfl) ?_
      obtain ⟨q4, eq4, h⟩ := e_b h
      refine xv_v (As := [.ref (ad 39)]) (rest := []) (ci := 2) (b := ad 7) ⟨hx, hb, hml, hown, hts⟩ hl.1 (kX2_take l D cA (fun i => ad (7 + i)) (fun i => ad (39 + i)) row (past.1 8)   _ eq4) (cwV 1 hts gX5_undo_X2_take rfl rfl rfl (by decide +kernel) ⟨Nat.le_of_ble_eq_true rfl, Nat.le_of_ble_eq_true rfl⟩) rfl hK hP hD hS hA 1 rfl rfl rfl [1, 2, 3, 30, 31, 32] rfl (by decide +kernel) rfl (Nat.le_of_ble_eq_true rfl) dX5_undo_39 ⟨Nat.zero_le _, Nat.zero_le _⟩ (fun H locs hP hD hS => ?_)
      have hP : va_P D vwCl (wD_row_past cA ad block ties lines q3 q4 past) H := hP
      have hD : va_D A (wD_row_past cA ad block ties lines q3 q4 past) := hD
      refine lv_aload_n hx hb dX5_undo_42 rfl (lv_at hl 1 rfl) ?_
      refine va_get (D := D) (ci := 5) (v := .ref (ad 13)) (C := RX5) (T := TX5) (N := 12) hx hb hts iX5 hown hK hP 0 rfl rfl 4 (Nat.le_of_ble_eq_true rfl) f36 (fun _ h9 => h9) rfl dX5_undo_43 ?_
      obtain ⟨q5, eq5, h⟩ := e_b h
      refine xv_v (As := []) (rest := []) (ci := 0) (b := ad 13) ⟨hx, hb, hml, hown, hts⟩ hl.1 (kX0_dropLatest l D cA (fun i => ad (13 + i)) past   _ eq5) (cwV 0 hts gX5_undo_X0_dropLatest rfl rfl rfl (by decide +kernel) ⟨Nat.le_of_ble_eq_true rfl, Nat.le_of_ble_eq_true rfl⟩) rfl hK hP hD hS hA 4 rfl rfl rfl [4, 5, 6, 7, 8, 9, 10, 11, 12, 13, 14, 15, 16, 17, 18, 19, 20, 21, 22, 23, 24, 25, 26, 27, 28, 29, 30, 31, 32, 33, 34, 35, 36, 37, 38, 39, 40, 41] rfl (by decide +kernel) rfl (Nat.le_of_ble_eq_true rfl) dX5_undo_46 ⟨Nat.zero_le _, Nat.zero_le _⟩ (fun H locs hP hD hS => ?_)
      have hP : va_P D vwCl (wD_row_past cA ad block ties lines q3 q4 q5) H := hP
      have hD : va_D A (wD_row_past cA ad block ties lines q3 q4 q5) := hD
      refine lv_aload_n hx hb dX5_undo_49 rfl (lv_at hl 1 rfl) ?_
      refine va_get (D := D) (ci := 5) (v := .ref (ad 13)) (C := RX5) (T := TX5) (N := 12) hx hb hts iX5 hown hK hP 0 rfl rfl 4 (Nat.le_of_ble_eq_true rfl) f36 (fun _ h9 => h9) rfl dX5_undo_50 ?_
      refine va_get (D := D) (ci := 0) (v := .int q5.2.1) (C := RX0) (T := TX0) (N := 3) hx hb hts iX0 hown hK hP 4 rfl rfl 1 (Nat.le_of_ble_eq_true rfl) f86 (fun _ h9 => h9) rfl dX5_undo_53 ?_
      obtain rfl := e_s h
      exact hret hP hS rfl dX5_undo_56
    rcases hjq2 with rfl | hjq2
    · refine lv_astore_n (lv' := [(1, .ref (ad 42)), (0, .ref (ad 0))]) hx hb dX5_undo_20 rfl hl (by decide) rfl (fun ls hl => ?_)
      refine lv_aload_n hx hb dX5_undo_21 rfl (lv_at hl 1 rfl) ?_
      refine lv_aload_n hx hb dX5_undo_22 rfl (lv_at hl 1 rfl) ?_
      refine lv_aload_n hx hb dX5_undo_23 rfl (lv_at hl 1 rfl) ?_
      refine va_get (D := D) (ci := 5) (v := .ref (ad 7)) (C := RX5) (T := TX5) (N := 12) hx hb hts iX5 hown hK hP 0 rfl rfl 2 (Nat.le_of_ble_eq_true rfl) f26 (fun _ h9 => h9) rfl dX5_undo_24 ?_
      refine lv_aload_n hx hb dX5_undo_27 rfl (lv_at hl 0 rfl) ?_
      obtain ⟨q3, eq3, h⟩ := e_b h
      refine xv_i (As := [.ref (ad 7), .ref (ad 42)]) (rest := [.ref (ad 0)]) (ci := 5) (b := ad 0) ⟨hx, hb, hml, hown, hts⟩ hl.1 (kX5_pairsTouched l D cA ad (fun i => ad (7 + i)) (fun i => ad (42 + i)) block ties lines pmn row (past.1 9)   _ eq3) (cwV 2 hts gX5_undo_X5_pairsTouched rfl rfl rfl (by decide +kernel) ⟨Nat.le_of_ble_eq_true rfl, Nat.le_of_ble_eq_true rfl⟩) rfl hK hP hD hS hA 0 rfl rfl rfl [0, 1, 2, 3, 33, 34, 35] rfl (by decide +kernel) rfl (Nat.le_of_ble_eq_true rfl) dX5_undo_28 ⟨Nat.zero_le _, Nat.zero_le _⟩ (fun H locs hP hD hS hnq3 => ?_)
      have hP : va_P D vwCl (wD_row_past cA ad block ties lines pmn row past) H := hP
      have hD : va_D A (wD_row_past cA ad block ties lines pmn row past) := hD
      refine va_put (D := D) (ci := 5) (v := .int q3) (ty := .int) (C := RX5) (T := TX5) (N := 12) hx hb hts iX5 tyX5 tyX5_ok nmX5 hown hK hP hD hS 0 rfl rfl 11 (Nat.le_of_ble_eq_true rfl) f64 (fun _ h9 => h9) rfl (tyX5_ok 11 (Nat.le_of_ble_eq_true rfl)) rfl rfl (Nat.le_of_ble_eq_true rfl) dX5_undo_31 (fun H locs hP hD hS => ?_)
      have hP : va_P D vwCl (wD_row_past cA ad block ties lines q3 row past) H := hP
      have hD : va_D A (wD_row_past cA ad block ties lines q3 row past) := hD
      refine lv_aload_n hx hb dX5_undo_34 rfl (lv_at hl 1 rfl) ?_
      refine va_get (D := D) (ci := 5) (v := .ref (ad 7)) (C := RX5) (T := TX5) (N := 12) hx hb hts iX5 hown hK hP 0 rfl rfl 2 (Nat.le_of_ble_eq_true rfl) f26 (fun _ h9 => h9) rfl dX5_undo_35 ?_
      refine lv_aload_n hx hb dX5_undo_38 rfl (lv_at hl 0 rfl) ?_
      obtain ⟨q4, eq4, h⟩ := e_b h
      refine xv_v (As := [.ref (ad 42)]) (rest := []) (ci := 2) (b := ad 7) ⟨hx, hb, hml, hown, hts⟩ hl.1 (kX2_take l D cA (fun i => ad (7 + i)) (fun i => ad (42 + i)) row (past.1 9)   _ eq4) (cwV 1 hts gX5_undo_X2_take rfl rfl rfl (by decide +kernel) ⟨Nat.le_of_ble_eq_true rfl, Nat.le_of_ble_eq_true rfl⟩) rfl hK hP hD hS hA 1 rfl rfl rfl [1, 2, 3, 33, 34, 35] rfl (by decide +kernel) rfl (Nat.le_of_ble_eq_true rfl) dX5_undo_39 ⟨Nat.zero_le _, Nat.zero_le _⟩ (fun H locs hP hD hS => ?_)
      have hP : va_P D vwCl (wD_row_past cA ad block ties lines q3 q4 past) H := hP
      have hD : va_D A (wD_row_past cA ad block ties lines q3 q4 past) := hD
      refine lv_aload_n hx hb dX5_undo_42 rfl (lv_at hl 1 rfl) ?_
      refine va_get (D := D) (ci := 5) (v := .ref (ad 13)) (C := RX5) (T := TX5) (N := 12) hx hb hts iX5 hown hK hP 0 rfl rfl 4 (Nat.le_of_ble_eq_true rfl) f36 (fun _ h9 => h9) rfl dX5_undo_43 ?_
      obtain ⟨q5, eq5, h⟩ := e_b h
      refine xv_v (As := []) (rest := []) (ci := 0) (b := ad 13) ⟨hx, hb, hml, hown, hts⟩ hl.1 (kX0_dropLatest l D cA (fun i => ad (13 + i)) past   _ eq5) (cwV 0 hts gX5_undo_X0_dropLatest rfl rfl rfl (by decide +kernel) ⟨Nat.le_of_ble_eq_true rfl, Nat.le_of_ble_eq_true rfl⟩) rfl hK hP hD hS hA 4 rfl rfl rfl [4, 5, 6, 7, 8, 9, 10, 11, 12, 13, 14, 15, 16, 17, 18, 19, 20, 21, 22, 23, 24, 25, 26, 27, 28, 29, 30, 31, 32, 33, 34, 35, 36, 37, 38, 39, 40, 41] rfl (by decide +kernel) rfl (Nat.le_of_ble_eq_true rfl) dX5_undo_46 ⟨Nat.zero_le _, Nat.zero_le _⟩ (fun H locs hP hD hS => ?_)
      have hP : va_P D vwCl (wD_row_past cA ad block ties lines q3 q4 q5) H := hP
      have hD : va_D A (wD_row_past cA ad block ties lines q3 q4 q5) := hD
      refine lv_aload_n hx hb dX5_undo_49 rfl (lv_at hl 1 rfl) ?_
      refine va_get (D := D) (ci := 5) (v := .ref (ad 13)) (C := RX5) (T := TX5) (N := 12) hx hb hts iX5 hown hK hP 0 rfl rfl 4 (Nat.le_of_ble_eq_true rfl) f36 (fun _ h9 => h9) rfl dX5_undo_50 ?_
      refine va_get (D := D) (ci := 0) (v := .int q5.2.1) (C := RX0) (T := TX0) (N := 3) hx hb hts iX0 hown hK hP 4 rfl rfl 1 (Nat.le_of_ble_eq_true rfl) f86 (fun _ h9 => h9) rfl dX5_undo_53 ?_
      obtain rfl := e_s h
      exact hret hP hS rfl dX5_undo_56
    rcases hjq2 with rfl | hjq2
    · refine lv_astore_n (lv' := [(1, .ref (ad 45)), (0, .ref (ad 0))]) hx hb dX5_undo_20 rfl hl (by decide) rfl (fun ls hl => ?_)
      refine lv_aload_n hx hb dX5_undo_21 rfl (lv_at hl 1 rfl) ?_
      refine lv_aload_n hx hb dX5_undo_22 rfl (lv_at hl 1 rfl) ?_
      refine lv_aload_n hx hb dX5_undo_23 rfl (lv_at hl 1 rfl) ?_
      refine va_get (D := D) (ci := 5) (v := .ref (ad 7)) (C := RX5) (T := TX5) (N := 12) hx hb hts iX5 hown hK hP 0 rfl rfl 2 (Nat.le_of_ble_eq_true rfl) f26 (fun _ h9 => h9) rfl dX5_undo_24 ?_
      refine lv_aload_n hx hb dX5_undo_27 rfl (lv_at hl 0 rfl) ?_
      obtain ⟨q3, eq3, h⟩ := e_b h
      refine xv_i (As := [.ref (ad 7), .ref (ad 45)]) (rest := [.ref (ad 0)]) (ci := 5) (b := ad 0) ⟨hx, hb, hml, hown, hts⟩ hl.1 (kX5_pairsTouched l D cA ad (fun i => ad (7 + i)) (fun i => ad (45 + i)) block ties lines pmn row (past.1 10)   _ eq3) (cwV 2 hts gX5_undo_X5_pairsTouched rfl rfl rfl (by decide +kernel) ⟨Nat.le_of_ble_eq_true rfl, Nat.le_of_ble_eq_true rfl⟩) rfl hK hP hD hS hA 0 rfl rfl rfl [0, 1, 2, 3, 36, 37, 38] rfl (by decide +kernel) rfl (Nat.le_of_ble_eq_true rfl) dX5_undo_28 ⟨Nat.zero_le _, Nat.zero_le _⟩ (fun H locs hP hD hS hnq3 => ?_)
      have hP : va_P D vwCl (wD_row_past cA ad block ties lines pmn row past) H := hP
      have hD : va_D A (wD_row_past cA ad block ties lines pmn row past) := hD
      refine va_put (D := D) (ci := 5) (v := .int q3) (ty := .int) (C := RX5) (T := TX5) (N := 12) hx hb hts iX5 tyX5 tyX5_ok nmX5 hown hK hP hD hS 0 rfl rfl 11 (Nat.le_of_ble_eq_true rfl) f64 (fun _ h9 => h9) rfl (tyX5_ok 11 (Nat.le_of_ble_eq_true rfl)) rfl rfl (Nat.le_of_ble_eq_true rfl) dX5_undo_31 (fun H locs hP hD hS => ?_)
      have hP : va_P D vwCl (wD_row_past cA ad block ties lines q3 row past) H := hP
      have hD : va_D A (wD_row_past cA ad block ties lines q3 row past) := hD
      refine lv_aload_n hx hb dX5_undo_34 rfl (lv_at hl 1 rfl) ?_
      refine va_get (D := D) (ci := 5) (v := .ref (ad 7)) (C := RX5) (T := TX5) (N := 12) hx hb hts iX5 hown hK hP 0 rfl rfl 2 (Nat.le_of_ble_eq_true rfl) f26 (fun _ h9 => h9) rfl dX5_undo_35 ?_
      refine lv_aload_n hx hb dX5_undo_38 rfl (lv_at hl 0 rfl) ?_
      obtain ⟨q4, eq4, h⟩ := e_b h
      refine xv_v (As := [.ref (ad 45)]) (rest := []) (ci := 2) (b := ad 7) ⟨hx, hb, hml, hown, hts⟩ hl.1 (kX2_take l D cA (fun i => ad (7 + i)) (fun i => ad (45 + i)) row (past.1 10)   _ eq4) (cwV 1 hts gX5_undo_X2_take rfl rfl rfl (by decide +kernel) ⟨Nat.le_of_ble_eq_true rfl, Nat.le_of_ble_eq_true rfl⟩) rfl hK hP hD hS hA 1 rfl rfl rfl [1, 2, 3, 36, 37, 38] rfl (by decide +kernel) rfl (Nat.le_of_ble_eq_true rfl) dX5_undo_39 ⟨Nat.zero_le _, Nat.zero_le _⟩ (fun H locs hP hD hS => ?_)
      have hP : va_P D vwCl (wD_row_past cA ad block ties lines q3 q4 past) H := hP
      have hD : va_D A (wD_row_past cA ad block ties lines q3 q4 past) := hD
      refine lv_aload_n hx hb dX5_undo_42 rfl (lv_at hl 1 rfl) ?_
      refine va_get (D := D) (ci := 5) (v := .ref (ad 13)) (C := RX5) (T := TX5) (N := 12) hx hb hts iX5 hown hK hP 0 rfl rfl 4 (Nat.le_of_ble_eq_true rfl) f36 (fun _ h9 => h9) rfl dX5_undo_43 ?_
      obtain ⟨q5, eq5, h⟩ := e_b h
      refine xv_v (As := []) (rest := []) (ci := 0) (b := ad 13) ⟨hx, hb, hml, hown, hts⟩ hl.1 (kX0_dropLatest l D cA (fun i => ad (13 + i)) past   _ eq5) (cwV 0 hts gX5_undo_X0_dropLatest rfl rfl rfl (by decide +kernel) ⟨Nat.le_of_ble_eq_true rfl, Nat.le_of_ble_eq_true rfl⟩) rfl hK hP hD hS hA 4 rfl rfl rfl [4, 5, 6, 7, 8, 9, 10, 11, 12, 13, 14, 15, 16, 17, 18, 19, 20, 21, 22, 23, 24, 25, 26, 27, 28, 29, 30, 31, 32, 33, 34, 35, 36, 37, 38, 39, 40, 41] rfl (by decide +kernel) rfl (Nat.le_of_ble_eq_true rfl) dX5_undo_46 ⟨Nat.zero_le _, Nat.zero_le _⟩ (fun H locs hP hD hS => ?_)
      have hP : va_P D vwCl (wD_row_past cA ad block ties lines q3 q4 q5) H := hP
      have hD : va_D A (wD_row_past cA ad block ties lines q3 q4 q5) := hD
      refine lv_aload_n hx hb dX5_undo_49 rfl (lv_at hl 1 rfl) ?_
      refine va_get (D := D) (ci := 5) (v := .ref (ad 13)) (C := RX5) (T := TX5) (N := 12) hx hb hts iX5 hown hK hP 0 rfl rfl 4 (Nat.le_of_ble_eq_true rfl) f36 (fun _ h9 => h9) rfl dX5_undo_50 ?_
      refine va_get (D := D) (ci := 0) (v := .int q5.2.1) (C := RX0) (T := TX0) (N := 3) hx hb hts iX0 hown hK hP 4 rfl rfl 1 (Nat.le_of_ble_eq_true rfl) f86 (fun _ h9 => h9) rfl dX5_undo_53 ?_
      obtain rfl := e_s h
      exact hret hP hS rfl dX5_undo_56
    subst hjq2
    refine lv_astore_n (lv' := [(1, .ref (ad 48)), (0, .ref (ad 0))]) hx hb dX5_undo_20 rfl hl (by decide) rfl (fun ls hl => ?_)
    refine lv_aload_n hx hb dX5_undo_21 rfl (lv_at hl 1 rfl) ?_
    refine lv_aload_n hx hb dX5_undo_22 rfl (lv_at hl 1 rfl) ?_
    refine lv_aload_n hx hb dX5_undo_23 rfl (lv_at hl 1 rfl) ?_
    refine va_get (D := D) (ci := 5) (v := .ref (ad 7)) (C := RX5) (T := TX5) (N := 12) hx hb hts iX5 hown hK hP 0 rfl rfl 2 (Nat.le_of_ble_eq_true rfl) f26 (fun _ h9 => h9) rfl dX5_undo_24 ?_
    refine lv_aload_n hx hb dX5_undo_27 rfl (lv_at hl 0 rfl) ?_
    obtain ⟨q3, eq3, h⟩ := e_b h
    refine xv_i (As := [.ref (ad 7), .ref (ad 48)]) (rest := [.ref (ad 0)]) (ci := 5) (b := ad 0) ⟨hx, hb, hml, hown, hts⟩ hl.1 (kX5_pairsTouched l D cA ad (fun i => ad (7 + i)) (fun i => ad (48 + i)) block ties lines pmn row (past.1 11)   _ eq3) (cwV 2 hts gX5_undo_X5_pairsTouched rfl rfl rfl (by decide +kernel) ⟨Nat.le_of_ble_eq_true rfl, Nat.le_of_ble_eq_true rfl⟩) rfl hK hP hD hS hA 0 rfl rfl rfl [0, 1, 2, 3, 39, 40, 41] rfl (by decide +kernel) rfl (Nat.le_of_ble_eq_true rfl) dX5_undo_28 ⟨Nat.zero_le _, Nat.zero_le _⟩ (fun H locs hP hD hS hnq3 => ?_)
    have hP : va_P D vwCl (wD_row_past cA ad block ties lines pmn row past) H := hP
    have hD : va_D A (wD_row_past cA ad block ties lines pmn row past) := hD
    refine va_put (D := D) (ci := 5) (v := .int q3) (ty := .int) (C := RX5) (T := TX5) (N := 12) hx hb hts iX5 tyX5 tyX5_ok nmX5 hown hK hP hD hS 0 rfl rfl 11 (Nat.le_of_ble_eq_true rfl) f64 (fun _ h9 => h9) rfl (tyX5_ok 11 (Nat.le_of_ble_eq_true rfl)) rfl rfl (Nat.le_of_ble_eq_true rfl) dX5_undo_31 (fun H locs hP hD hS => ?_)
    have hP : va_P D vwCl (wD_row_past cA ad block ties lines q3 row past) H := hP
    have hD : va_D A (wD_row_past cA ad block ties lines q3 row past) := hD
    refine lv_aload_n hx hb dX5_undo_34 rfl (lv_at hl 1 rfl) ?_
    refine va_get (D := D) (ci := 5) (v := .ref (ad 7)) (C := RX5) (T := TX5) (N := 12) hx hb hts iX5 hown hK hP 0 rfl rfl 2 (Nat.le_of_ble_eq_true rfl) f26 (fun _ h9 => h9) rfl dX5_undo_35 ?_
    refine lv_aload_n hx hb dX5_undo_38 rfl (lv_at hl 0 rfl) ?_
    obtain ⟨q4, eq4, h⟩ := e_b h
    refine xv_v (As := [.ref (ad 48)]) (rest := []) (ci := 2) (b := ad 7) ⟨hx, hb, hml, hown, hts⟩ hl.1 (kX2_take l D cA (fun i => ad (7 + i)) (fun i => ad (48 + i)) row (past.1 11)   _ eq4) (cwV 1 hts gX5_undo_X2_take rfl rfl rfl (by decide +kernel) ⟨Nat.le_of_ble_eq_true rfl, Nat.le_of_ble_eq_true rfl⟩) rfl hK hP hD hS hA 1 rfl rfl rfl [1, 2, 3, 39, 40, 41] rfl (by decide +kernel) rfl (Nat.le_of_ble_eq_true rfl) dX5_undo_39 ⟨Nat.zero_le _, Nat.zero_le _⟩ (fun H locs hP hD hS => ?_)
    have hP : va_P D vwCl (wD_row_past cA ad block ties lines q3 q4 past) H := hP
    have hD : va_D A (wD_row_past cA ad block ties lines q3 q4 past) := hD
    refine lv_aload_n hx hb dX5_undo_42 rfl (lv_at hl 1 rfl) ?_
    refine va_get (D := D) (ci := 5) (v := .ref (ad 13)) (C := RX5) (T := TX5) (N := 12) hx hb hts iX5 hown hK hP 0 rfl rfl 4 (Nat.le_of_ble_eq_true rfl) f36 (fun _ h9 => h9) rfl dX5_undo_43 ?_
    obtain ⟨q5, eq5, h⟩ := e_b h
    refine xv_v (As := []) (rest := []) (ci := 0) (b := ad 13) ⟨hx, hb, hml, hown, hts⟩ hl.1 (kX0_dropLatest l D cA (fun i => ad (13 + i)) past   _ eq5) (cwV 0 hts gX5_undo_X0_dropLatest rfl rfl rfl (by decide +kernel) ⟨Nat.le_of_ble_eq_true rfl, Nat.le_of_ble_eq_true rfl⟩) rfl hK hP hD hS hA 4 rfl rfl rfl [4, 5, 6, 7, 8, 9, 10, 11, 12, 13, 14, 15, 16, 17, 18, 19, 20, 21, 22, 23, 24, 25, 26, 27, 28, 29, 30, 31, 32, 33, 34, 35, 36, 37, 38, 39, 40, 41] rfl (by decide +kernel) rfl (Nat.le_of_ble_eq_true rfl) dX5_undo_46 ⟨Nat.zero_le _, Nat.zero_le _⟩ (fun H locs hP hD hS => ?_)
    have hP : va_P D vwCl (wD_row_past cA ad block ties lines q3 q4 q5) H := hP
    have hD : va_D A (wD_row_past cA ad block ties lines q3 q4 q5) := hD
    refine lv_aload_n hx hb dX5_undo_49 rfl (lv_at hl 1 rfl) ?_
    refine va_get (D := D) (ci := 5) (v := .ref (ad 13)) (C := RX5) (T := TX5) (N := 12) hx hb hts iX5 hown hK hP 0 rfl rfl 4 (Nat.le_of_ble_eq_true rfl) f36 (fun _ h9 => h9) rfl dX5_undo_50 ?_
    refine va_get (D := D) (ci := 0) (v := .int q5.2.1) (C := RX0) (T := TX0) (N := 3) hx hb hts iX0 hown hK hP 4 rfl rfl 1 (Nat.le_of_ble_eq_true rfl) f86 (fun _ h9 => h9) rfl dX5_undo_53 ?_
    obtain rfl := e_s h
    exact hret hP hS rfl dX5_undo_56
  · have h := e_f (not_not_intro c1) h
    refine lv_iconst (v := (-1)) hx hb dX5_undo_10 (by decide) ?_
    obtain rfl := e_s h
    exact hret hP hS rfl dX5_undo_11

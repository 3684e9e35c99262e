set_option maxHeartbeats 4000000 in
set_option maxRecDepth 100000 in
theorem kX5_pair (l : Launch) (D : va_G) (cA : Nat → ClassId) (ad : Nat → Nat) (block : Int32) (ties : Int32) (lines : Int32) (pmn : Int32) (row : RowT) (tally : TalT) (x1 : Int32) (x2 : Int32) (x3 : Int32) (q : Int32 × TalT) (h : mX5_pair block ties row tally x1 x2 x3 = some q) : MI l yX5_pair wsX5_pair { frames := 3, cells := 0, slots := 0, locals := 66 } D cA .int [.ref (ad 0), .int x1, .int x2, .int x3] (wD_row_tally cA ad block ties lines pmn row tally) (wD_row_tally cA ad block ties lines pmn row q.2) q.1 := by
  refine MI.of (cc := cX5_pair) (maxL := 4) (by decide +kernel) rfl rfl rfl (Nat.le_of_ble_eq_true rfl) ?_
  intro p e s m args below meth c A ls Q hx hb hml hts hown hK hP hD hA hS hl hret
  have hl : lv_has ls 4 [(0, .ref (ad 0)), (1, .int x1), (2, .int x2), (3, .int x3)] := hl
  have f176 := hts (.fieldLink RX5 176 "ModeDesk$Tally" "best" "I") (by decide +kernel)
  have f26 := hts (.fieldLink RX5 26 "ModeDesk" "row" "LModeDesk$Row;") (by decide +kernel)
  have f43 := hts (.fieldLink RX5 43 "ModeDesk" "tally" "LModeDesk$Tally;") (by decide +kernel)
  have f54 := hts (.fieldLink RX5 54 "ModeDesk" "block" "I") (by decide +kernel)
  have iX3 : ∀ w ∈ wsX30, w ∈ wsX5_pair := by decide +kernel
  have iX5 : ∀ w ∈ wsX50, w ∈ wsX5_pair := by decide +kernel
  unfold mX5_pair at h
  refine lv_iload_n hx hb dX5_pair_0 rfl (lv_at hl 1 rfl) ?_
  refine lv_if_lt (tgt := 29) hx hb dX5_pair_1 (by decide) (fun c1 => ?_) (fun c1 => ?_)
  · have h := e_t c1 h
    refine lv_iconst (v := (-1)) hx hb dX5_pair_29 (by decide) ?_
    obtain rfl := e_s h
    exact hret hP hS rfl dX5_pair_30
  · have h := e_f c1 h
    refine lv_iload_n hx hb dX5_pair_4 rfl (lv_at hl 1 rfl) ?_
    refine lv_iload_n hx hb dX5_pair_5 rfl (lv_at hl 2 rfl) ?_
    refine lv_icmp_gt (tgt := 29) hx hb dX5_pair_6 (by decide) (fun c2 => ?_) (fun c2 => ?_)
    · have h := e_t c2 h
      refine lv_iconst (v := (-1)) hx hb dX5_pair_29 (by decide) ?_
      obtain rfl := e_s h
      exact hret hP hS rfl dX5_pair_30
    · have h := e_f c2 h
      refine lv_iload_n hx hb dX5_pair_9 rfl (lv_at hl 2 rfl) ?_
      refine lv_aload_n hx hb dX5_pair_10 rfl (lv_at hl 0 rfl) ?_
      refine lv_aload_n hx hb dX5_pair_11 rfl (lv_at hl 0 rfl) ?_
      refine va_get (D := D) (ci := 5) (v := .ref (ad 7)) (C := RX5) (T := TX5) (N := 12) hx hb hts iX5 hown hK hP 0 rfl rfl 2 (Nat.le_of_ble_eq_true rfl) f26 (fun _ h9 => h9) rfl dX5_pair_12 ?_
      obtain ⟨q3, eq3, h⟩ := e_b h
      refine xv_i (As := [.ref (ad 7)]) (rest := [.int x2]) (ci := 5) (b := ad 0) ⟨hx, hb, hml, hown, hts⟩ hl.1 (kX5_blocksOf l D cA ad (fun i => ad (7 + i)) block ties lines pmn row   _ eq3) (cwV 1 hts gX5_pair_X5_blocksOf rfl rfl rfl (by decide +kernel) ⟨Nat.le_of_ble_eq_true rfl, Nat.le_of_ble_eq_true rfl⟩) rfl hK hP hD hS hA 0 rfl rfl rfl [0, 1, 2, 3] rfl (by decide +kernel) rfl (Nat.le_of_ble_eq_true rfl) dX5_pair_15 ⟨Nat.zero_le _, Nat.zero_le _⟩ (fun H locs hP hD hS hnq3 => ?_)
      have hP : va_P D vwCl (wD_row_tally cA ad block ties lines pmn row tally) H := hP
      have hD : va_D A (wD_row_tally cA ad block ties lines pmn row tally) := hD
      refine lv_icmp_ge (tgt := 29) hx hb dX5_pair_18 (by decide) (fun c4 => ?_) (fun c4 => ?_)
      · have h := e_t c4 h
        refine lv_iconst (v := (-1)) hx hb dX5_pair_29 (by decide) ?_
        obtain rfl := e_s h
        exact hret hP hS rfl dX5_pair_30
      · have h := e_f c4 h
        refine lv_iload_n hx hb dX5_pair_21 rfl (lv_at hl 3 rfl) ?_
        refine lv_iconst (v := 2) hx hb dX5_pair_22 (by decide) ?_
        obtain ⟨q5, eq5, h⟩ := e_b h
        refine xs_i (As := [.int x3, .int 2]) (rest := []) ⟨hx, hb, hml, hown, hts⟩ hl.1 (kX5_isBelow l D cA   x3 2  _ eq5) (va_cwS 2 hts gX5_pair_X5_isBelow rfl rfl rfl (by decide +kernel) ⟨Nat.le_of_ble_eq_true rfl, Nat.le_of_ble_eq_true rfl⟩) rfl hK hP hD hS hA [] rfl (by decide +kernel) rfl (Nat.le_of_ble_eq_true rfl) dX5_pair_23 ⟨Nat.zero_le _, Nat.zero_le _⟩ (fun H locs hP hD hS hnq5 => ?_)
        have hP : va_P D vwCl (wD_row_tally cA ad block ties lines pmn row tally) H := hP
        have hD : va_D A (wD_row_tally cA ad block ties lines pmn row tally) := hD
        refine lv_if_ne (tgt := 31) hx hb dX5_pair_26 (by decide) (fun c6 => ?_) (fun c6 => ?_)
        · have h := e_t c6 h
          refine lv_aload_n hx hb dX5_pair_31 rfl (lv_at hl 0 rfl) ?_
          refine lv_iload_n hx hb dX5_pair_32 rfl (lv_at hl 1 rfl) ?_
          refine lv_aload_n hx hb dX5_pair_33 rfl (lv_at hl 0 rfl) ?_
          refine va_get (D := D) (ci := 5) (v := .int block) (C := RX5) (T := TX5) (N := 12) hx hb hts iX5 hown hK hP 0 rfl rfl 8 (Nat.le_of_ble_eq_true rfl) f54 (fun _ h9 => h9) rfl dX5_pair_34 ?_
          refine lv_imul hx hb dX5_pair_37 ?_
          refine lv_aload_n hx hb dX5_pair_38 rfl (lv_at hl 0 rfl) ?_
          refine lv_aload_n hx hb dX5_pair_39 rfl (lv_at hl 0 rfl) ?_
          refine va_get (D := D) (ci := 5) (v := .ref (ad 7)) (C := RX5) (T := TX5) (N := 12) hx hb hts iX5 hown hK hP 0 rfl rfl 2 (Nat.le_of_ble_eq_true rfl) f26 (fun _ h9 => h9) rfl dX5_pair_40 ?_
          refine lv_iload_n hx hb dX5_pair_43 rfl (lv_at hl 2 rfl) ?_
          obtain ⟨q7, eq7, h⟩ := e_b h
          refine xv_i (As := [.ref (ad 7), .int x2]) (rest := [.int (x1 * block), .ref (ad 0)]) (ci := 5) (b := ad 0) ⟨hx, hb, hml, hown, hts⟩ hl.1 (kX5_blockEnd l D cA ad (fun i => ad (7 + i)) block ties lines pmn row x2  _ eq7) (cwV 2 hts gX5_pair_X5_blockEnd rfl rfl rfl (by decide +kernel) ⟨Nat.le_of_ble_eq_true rfl, Nat.le_of_ble_eq_true rfl⟩) rfl hK hP hD hS hA 0 rfl rfl rfl [0, 1, 2, 3] rfl (by decide +kernel) rfl (Nat.le_of_ble_eq_true rfl) dX5_pair_44 ⟨Nat.zero_le _, Nat.zero_le _⟩ (fun H locs hP hD hS hnq7 => ?_)
          have hP : va_P D vwCl (wD_row_tally cA ad block ties lines pmn row tally) H := hP
          have hD : va_D A (wD_row_tally cA ad block ties lines pmn row tally) := hD
          refine lv_iconst (v := 1) hx hb dX5_pair_47 (by decide) ?_
          refine lv_isub hx hb dX5_pair_48 ?_
          obtain ⟨q8, eq8, h⟩ := e_b h
          refine xv_v0 (As := [.int (x1 * block), .int (q7 - 1)]) (rest := []) (ci := 5) (b := ad 0) ⟨hx, hb, hml, hown, hts⟩ hl.1 (kX5_tallySpan l D cA ad block ties lines pmn row tally (x1 * block) (q7 - 1)  _ eq8) (cwV 2 hts gX5_pair_X5_tallySpan rfl rfl rfl (by decide +kernel) ⟨Nat.le_of_ble_eq_true rfl, Nat.le_of_ble_eq_true rfl⟩) rfl hK hP hD hS hA 0 rfl rfl rfl rfl (Nat.le_of_ble_eq_true rfl) dX5_pair_49 ⟨Nat.zero_le _, Nat.zero_le _⟩ (fun H locs hP hD hS => ?_)
          have hP : va_P D vwCl (wD_row_tally cA ad block ties lines pmn row q8) H := hP
          have hD : va_D A (wD_row_tally cA ad block ties lines pmn row q8) := hD
          refine lv_aload_n hx hb dX5_pair_52 rfl (lv_at hl 0 rfl) ?_
          refine va_get (D := D) (ci := 5) (v := .ref (ad 51)) (C := RX5) (T := TX5) (N := 12) hx hb hts iX5 hown hK hP 0 rfl rfl 5 (Nat.le_of_ble_eq_true rfl) f43 (fun _ h9 => h9) rfl dX5_pair_53 ?_
          refine lv_aload_n hx hb dX5_pair_56 rfl (lv_at hl 0 rfl) ?_
          refine va_get (D := D) (ci := 5) (v := .ref (ad 51)) (C := RX5) (T := TX5) (N := 12) hx hb hts iX5 hown hK hP 0 rfl rfl 5 (Nat.le_of_ble_eq_true rfl) f43 (fun _ h9 => h9) rfl dX5_pair_57 ?_
          refine va_get (D := D) (ci := 3) (v := .int q8.2.2.2.2.2.2.1) (C := RX3) (T := TX3) (N := 8) hx hb hts iX3 hown hK hP 4 rfl rfl 6 (Nat.le_of_ble_eq_true rfl) f176 (fun _ h9 => h9) rfl dX5_pair_60 ?_
          refine lv_iload_n hx hb dX5_pair_63 rfl (lv_at hl 3 rfl) ?_
          refine lv_iconst (v := 0) hx hb dX5_pair_64 (by decide) ?_
          obtain ⟨q9, eq9, h⟩ := e_b h
          refine xv_i (As := [.int q8.2.2.2.2.2.2.1, .int x3, .int 0]) (rest := []) (ci := 3) (b := ad 51) ⟨hx, hb, hml, hown, hts⟩ hl.1 (kX3_told l D cA (fun i => ad (51 + i)) q8 q8.2.2.2.2.2.2.1 x3 0  _ eq9) (cwV 3 hts gX5_pair_X3_told rfl rfl rfl (by decide +kernel) ⟨Nat.le_of_ble_eq_true rfl, Nat.le_of_ble_eq_true rfl⟩) rfl hK hP hD hS hA 4 rfl rfl rfl [4, 5, 6, 7, 8] rfl (by decide +kernel) rfl (Nat.le_of_ble_eq_true rfl) dX5_pair_65 ⟨Nat.zero_le _, Nat.zero_le _⟩ (fun H locs hP hD hS hnq9 => ?_)
          have hP : va_P D vwCl (wD_row_tally cA ad block ties lines pmn row q8) H := hP
          have hD : va_D A (wD_row_tally cA ad block ties lines pmn row q8) := hD
          obtain rfl := e_s h
          exact hret hP hS rfl dX5_pair_68
        · have h := e_f (not_not_intro c6) h
          refine lv_iconst (v := (-1)) hx hb dX5_pair_29 (by decide) ?_
          obtain rfl := e_s h
          exact hret hP hS rfl dX5_pair_30
set_option maxHeartbeats 4000000 in
set_option maxRecDepth 100000 in
theorem kX5_modeOf (l : Launch) (D : va_G) (cA : Nat → ClassId) (ad : Nat → Nat) (block : Int32) (ties : Int32) (lines : Int32) (pmn : Int32) (row : RowT) (tally : TalT) (x1 : Int32) (x2 : Int32) (q : Int32 × TalT) (h : mX5_modeOf ties row tally x1 x2 = some q) : MI l yX5_modeOf wsX5_modeOf { frames := 3, cells := 0, slots := 0, locals := 66 } D cA .int [.ref (ad 0), .int x1, .int x2] (wD_row_tally cA ad block ties lines pmn row tally) (wD_row_tally cA ad block ties lines pmn row q.2) q.1 := by
  refine MI.of (cc := cX5_modeOf) (maxL := 3) (by decide +kernel) rfl rfl rfl (Nat.le_of_ble_eq_true rfl) ?_
  intro p e s m args below meth c A ls Q hx hb hml hts hown hK hP hD hA hS hl hret
  have hl : lv_has ls 3 [(0, .ref (ad 0)), (1, .int x1), (2, .int x2)] := hl
  have f176 := hts (.fieldLink RX5 176 "ModeDesk$Tally" "best" "I") (by decide +kernel)
  have f43 := hts (.fieldLink RX5 43 "ModeDesk" "tally" "LModeDesk$Tally;") (by decide +kernel)
  have iX3 : ∀ w ∈ wsX30, w ∈ wsX5_modeOf := by decide +kernel
  have iX5 : ∀ w ∈ wsX50, w ∈ wsX5_modeOf := by decide +kernel
  unfold mX5_modeOf at h
  refine lv_aload_n hx hb dX5_modeOf_0 rfl (lv_at hl 0 rfl) ?_
  refine lv_iload_n hx hb dX5_modeOf_1 rfl (lv_at hl 1 rfl) ?_
  refine lv_iload_n hx hb dX5_modeOf_2 rfl (lv_at hl 2 rfl) ?_
  obtain ⟨q1, eq1, h⟩ := e_b h
  refine xv_v0 (As := [.int x1, .int x2]) (rest := []) (ci := 5) (b := ad 0) ⟨hx, hb, hml, hown, hts⟩ hl.1 (kX5_tallySpan l D cA ad block ties lines pmn row tally x1 x2  _ eq1) (cwV 2 hts gX5_modeOf_X5_tallySpan rfl rfl rfl (by decide +kernel) ⟨Nat.le_of_ble_eq_true rfl, Nat.le_of_ble_eq_true rfl⟩) rfl hK hP hD hS hA 0 rfl rfl rfl rfl (Nat.le_of_ble_eq_true rfl) dX5_modeOf_3 ⟨Nat.zero_le _, Nat.zero_le _⟩ (fun H locs hP hD hS => ?_)
  have hP : va_P D vwCl (wD_row_tally cA ad block ties lines pmn row q1) H := hP
  have hD : va_D A (wD_row_tally cA ad block ties lines pmn row q1) := hD
  refine lv_aload_n hx hb dX5_modeOf_6 rfl (lv_at hl 0 rfl) ?_
  refine va_get (D := D) (ci := 5) (v := .ref (ad 51)) (C := RX5) (T := TX5) (N := 12) hx hb hts iX5 hown hK hP 0 rfl rfl 5 (Nat.le_of_ble_eq_true rfl) f43 (fun _ h9 => h9) rfl dX5_modeOf_7 ?_
  refine va_get (D := D) (ci := 3) (v := .int q1.2.2.2.2.2.2.1) (C := RX3) (T := TX3) (N := 8) hx hb hts iX3 hown hK hP 4 rfl rfl 6 (Nat.le_of_ble_eq_true rfl) f176 (fun _ h9 => h9) rfl dX5_modeOf_10 ?_
  obtain rfl := e_s h
  exact hret hP hS rfl dX5_modeOf_13
set_option maxHeartbeats 4000000 in
set_option maxRecDepth 100000 in
theorem kX5_markCandidates (l : Launch) (D : va_G) (cA : Nat → ClassId) (ad : Nat → Nat) (block : Int32) (ties : Int32) (lines : Int32) (pmn : Int32) (row : RowT) (tally : TalT) (aside : TalT) (x1 : Int32) (x2 : Int32) (q : TalT × TalT) (h : mX5_markCandidates block ties row tally aside x1 x2 = some q) : MV l yX5_markCandidates wsX5_markCandidates { frames := 4, cells := 0, slots := 0, locals := 88 } D cA [.ref (ad 0), .int x1, .int x2] (wD_row_tally_aside cA ad block ties lines pmn row tally aside) (wD_row_tally_aside cA ad block ties lines pmn row q.1 q.2) := by
  refine MV.of (cc := cX5_markCandidates) (maxL := 6) (by decide) rfl rfl rfl (Nat.le_of_ble_eq_true rfl) ?_
  intro p e s m args below meth c A ls Q hx hb hml hts hown hK hP hD hA hS hl hret
  have hl : lv_has ls 6 [(0, .ref (ad 0)), (1, .int x1), (2, .int x2)] := hl
  have f106 := hts (.fieldLink RX5 106 "ModeDesk$Row" "values" "[I") (by decide +kernel)
  have f135 := hts (.fieldLink RX5 135 "ModeDesk$Row" "size" "I") (by decide +kernel)
  have f26 := hts (.fieldLink RX5 26 "ModeDesk" "row" "LModeDesk$Row;") (by decide +kernel)
  have f47 := hts (.fieldLink RX5 47 "ModeDesk" "aside" "LModeDesk$Tally;") (by decide +kernel)
  have f54 := hts (.fieldLink RX5 54 "ModeDesk" "block" "I") (by decide +kernel)
  have f58 := hts (.fieldLink RX5 58 "ModeDesk" "ties" "I") (by decide +kernel)
  have iX2 : ∀ w ∈ wsX20, w ∈ wsX5_markCandidates := by decide +kernel
  have iX5 : ∀ w ∈ wsX50, w ∈ wsX5_markCandidates := by decide +kernel
  unfold mX5_markCandidates at h
  refine lv_iload_n hx hb dX5_markCandidates_0 rfl (lv_at hl 1 rfl) ?_
  refine lv_aload_n hx hb dX5_markCandidates_1 rfl (lv_at hl 0 rfl) ?_
  refine va_get (D := D) (ci := 5) (v := .int block) (C := RX5) (T := TX5) (N := 12) hx hb hts iX5 hown hK hP 0 rfl rfl 8 (Nat.le_of_ble_eq_true rfl) f54 (fun _ h9 => h9) rfl dX5_markCandidates_2 ?_
  refine lv_iadd hx hb dX5_markCandidates_5 ?_
  refine lv_iconst (v := 1) hx hb dX5_markCandidates_6 (by decide) ?_
  refine lv_isub hx hb dX5_markCandidates_7 ?_
  refine lv_aload_n hx hb dX5_markCandidates_8 rfl (lv_at hl 0 rfl) ?_
  refine va_get (D := D) (ci := 5) (v := .int block) (C := RX5) (T := TX5) (N := 12) hx hb hts iX5 hown hK hP 0 rfl rfl 8 (Nat.le_of_ble_eq_true rfl) f54 (fun _ h9 => h9) rfl dX5_markCandidates_9 ?_
  obtain ⟨v1, ev1, nv1, h⟩ := e_dv h
  refine xa_idiv hx hb dX5_markCandidates_12 nv1 ev1 ?_
  refine lv_aload_n hx hb dX5_markCandidates_13 rfl (lv_at hl 0 rfl) ?_
  refine va_get (D := D) (ci := 5) (v := .int block) (C := RX5) (T := TX5) (N := 12) hx hb hts iX5 hown hK hP 0 rfl rfl 8 (Nat.le_of_ble_eq_true rfl) f54 (fun _ h9 => h9) rfl dX5_markCandidates_14 ?_
  refine lv_imul hx hb dX5_markCandidates_17 ?_
  refine lv_istore_n (lv' := [(3, .int (v1 * block)), (0, .ref (ad 0)), (1, .int x1), (2, .int x2)]) hx hb dX5_markCandidates_18 rfl hl (by decide) rfl (fun ls hl => ?_)
  refine lv_iload_n hx hb dX5_markCandidates_19 rfl (lv_at hl 3 rfl) ?_
  refine lv_aload_n hx hb dX5_markCandidates_20 rfl (lv_at hl 1 rfl) ?_
  refine va_get (D := D) (ci := 5) (v := .ref (ad 7)) (C := RX5) (T := TX5) (N := 12) hx hb hts iX5 hown hK hP 0 rfl rfl 2 (Nat.le_of_ble_eq_true rfl) f26 (fun _ h9 => h9) rfl dX5_markCandidates_21 ?_
  refine va_get (D := D) (ci := 2) (v := .int row.2.2) (C := RX2) (T := TX2) (N := 3) hx hb hts iX2 hown hK hP 1 rfl rfl 2 (Nat.le_of_ble_eq_true rfl) f135 (fun _ h9 => h9) rfl dX5_markCandidates_24 ?_
  refine lv_iconst (v := 1) hx hb dX5_markCandidates_27 (by decide) ?_
  refine lv_isub hx hb dX5_markCandidates_28 ?_
  obtain ⟨z2, ez2, h⟩ := e_b h
  have hJ3 : ∀ (ls : Array Slot) (H : Heap) (locs : List Loc), lv_has ls 6 [(0, .ref (ad 0)), (1, .int x1), (2, .int x2), (3, .int (v1 * block))] → va_P D vwCl (wD_row_tally_aside cA ad block ties lines pmn row tally aside) H → va_D A (wD_row_tally_aside cA ad block ties lines pmn row tally aside) → va_S A s.heap H locs → W p l e (headSpec wsX5_markCandidates { frames := 4, cells := 0, slots := 0, locals := 88 }).room s m args below meth c H locs 0 0 Q (F0 m 55 ls [.int z2]) := by
    intro ls H locs hl hP hD hS
    refine lv_istore (lv' := [(4, .int z2), (0, .ref (ad 0)), (1, .int x1), (2, .int x2), (3, .int (v1 * block))]) hx hb dX5_markCandidates_55 hl (by decide) rfl (fun ls hl => ?_)
    refine lv_aload_n hx hb dX5_markCandidates_57 rfl (lv_at hl 1 rfl) ?_
    refine va_get (D := D) (ci := 5) (v := .ref (ad 56)) (C := RX5) (T := TX5) (N := 12) hx hb hts iX5 hown hK hP 0 rfl rfl 6 (Nat.le_of_ble_eq_true rfl) f47 (fun _ h9 => h9) rfl dX5_markCandidates_58 ?_
    refine lv_aload_n hx hb dX5_markCandidates_61 rfl (lv_at hl 1 rfl) ?_
    refine va_get (D := D) (ci := 5) (v := .int ties) (C := RX5) (T := TX5) (N := 12) hx hb hts iX5 hown hK hP 0 rfl rfl 9 (Nat.le_of_ble_eq_true rfl) f58 (fun _ h9 => h9) rfl dX5_markCandidates_62 ?_
    obtain ⟨q4, eq4, h⟩ := e_b h
    refine xv_v (As := [.int ties]) (rest := []) (ci := 3) (b := ad 56) ⟨hx, hb, hml, hown, hts⟩ hl.1 (kX3_begin l D cA (fun i => ad (56 + i)) aside ties  _ eq4) (cwV 1 hts gX5_markCandidates_X3_begin rfl rfl rfl (by decide +kernel) ⟨Nat.le_of_ble_eq_true rfl, Nat.le_of_ble_eq_true rfl⟩) rfl hK hP hD hS hA 9 rfl rfl rfl [9, 10, 11, 12, 13] rfl (by decide +kernel) rfl (Nat.le_of_ble_eq_true rfl) dX5_markCandidates_65 ⟨Nat.zero_le _, Nat.zero_le _⟩ (fun H locs hP hD hS => ?_)
    have hP : va_P D vwCl (wD_row_tally_aside cA ad block ties lines pmn row tally q4) H := hP
    have hD : va_D A (wD_row_tally_aside cA ad block ties lines pmn row tally q4) := hD
    refine lv_iload_n hx hb dX5_markCandidates_68 rfl (lv_at hl 4 rfl) ?_
    refine lv_iload hx hb dX5_markCandidates_69 (lv_at hl 0 rfl) ?_
    obtain ⟨z5, ez5, h⟩ := e_b h
    have hJ6 : ∀ (ls : Array Slot) (H : Heap) (locs : List Loc), lv_has ls 6 [(0, .ref (ad 0)), (1, .int x1), (2, .int x2), (3, .int (v1 * block)), (4, .int z2)] → va_P D vwCl (wD_row_tally_aside cA ad block ties lines pmn row z5.1 z5.2) H → va_D A (wD_row_tally_aside cA ad block ties lines pmn row z5.1 z5.2) → va_S A s.heap H locs → W p l e (headSpec wsX5_markCandidates { frames := 4, cells := 0, slots := 0, locals := 88 }).room s m args below meth c H locs 0 0 Q (F0 m 90 ls []) := by
      intro ls H locs hl hP hD hS
      refine lv_iload_n hx hb dX5_markCandidates_90 rfl (lv_at hl 1 rfl) ?_
      refine lv_istore (lv' := [(5, .int x1), (0, .ref (ad 0)), (1, .int x1), (2, .int x2), (3, .int (v1 * block)), (4, .int z2)]) hx hb dX5_markCandidates_91 hl (by decide) rfl (fun ls hl => ?_)
      have hL93 : ∀ (n : Nat) (x2 : Int32) (x3 : Int32) (x4 : Int32) (x5 : Int32) (block : Int32) (ties : Int32) (lines : Int32) (pmn : Int32) (row : RowT) (tally : TalT) (aside : TalT) (z7 : TalT) (ls : Array Slot) (H : Heap) (locs : List Loc), lv_has ls 6 [(0, .ref (ad 0)), (2, .int x2), (3, .int x3), (4, .int x4), (5, .int x5)] → va_P D vwCl (wD_row_tally_aside cA ad block ties lines pmn row tally aside) H → va_D A (wD_row_tally_aside cA ad block ties lines pmn row tally aside) → va_S A s.heap H locs → mX5_markCandidates_L93 row x2 x3 x4 n x5 aside = some z7 → (∀ (ls : Array Slot) (H : Heap) (locs : List Loc), lv_has ls 6 [] → va_P D vwCl (wD_row_tally_aside cA ad block ties lines pmn row tally z7) H → va_D A (wD_row_tally_aside cA ad block ties lines pmn row tally z7) → va_S A s.heap H locs → W p l e (headSpec wsX5_markCandidates { frames := 4, cells := 0, slots := 0, locals := 88 }).room s m args below meth c H locs 0 0 Q (F0 m 135 ls [])) → W p l e (headSpec wsX5_markCandidates { frames := 4, cells := 0, slots := 0, locals := 88 }).room s m args below meth c H locs 0 0 Q (F0 m 93 ls []) := by
        intro n
        induction n with
        | zero => intro x2 x3 x4 x5 block ties lines pmn row tally aside z7 ls H locs hl hP hD hS h hk93; exact e_n h
        | succ n ih93 =>
          intro x2 x3 x4 x5 block ties lines pmn row tally aside z7 ls H locs hl hP hD hS h hk93
          rw [mX5_markCandidates_L93.eq_2] at h
          refine lv_iload hx hb dX5_markCandidates_93 (lv_at hl 4 rfl) ?_
          refine lv_iload_n hx hb dX5_markCandidates_95 rfl (lv_at hl 1 rfl) ?_
          refine lv_icmp_gt (tgt := 135) hx hb dX5_markCandidates_96 (by decide) (fun c8 => ?_) (fun c8 => ?_)
          · have h := e_t c8 h
            obtain rfl := e_s h
            exact hk93 _ _ _ (lv_sub hl [] rfl) hP hD hS
          · have h := e_f c8 h
            refine lv_iload hx hb dX5_markCandidates_99 (lv_at hl 4 rfl) ?_
            refine lv_iload_n hx hb dX5_markCandidates_101 rfl (lv_at hl 2 rfl) ?_
            refine lv_icmp_lt (tgt := 112) hx hb dX5_markCandidates_102 (by decide) (fun c9 => ?_) (fun c9 => ?_)
            · have h := e_t c9 h
              refine lv_aload_n hx hb dX5_markCandidates_112 rfl (lv_at hl 0 rfl) ?_
              refine va_get (D := D) (ci := 5) (v := .ref (ad 56)) (C := RX5) (T := TX5) (N := 12) hx hb hts iX5 hown hK hP 0 rfl rfl 6 (Nat.le_of_ble_eq_true rfl) f47 (fun _ h9 => h9) rfl dX5_markCandidates_113 ?_
              refine lv_aload_n hx hb dX5_markCandidates_116 rfl (lv_at hl 0 rfl) ?_
              refine va_get (D := D) (ci := 5) (v := .ref (ad 7)) (C := RX5) (T := TX5) (N := 12) hx hb hts iX5 hown hK hP 0 rfl rfl 2 (Nat.le_of_ble_eq_true rfl) f26 (fun _ h9 => h9) rfl dX5_markCandidates_117 ?_
              refine va_get (D := D) (ci := 2) (v := .ref (ad 8)) (C := RX2) (T := TX2) (N := 3) hx hb hts iX2 hown hK hP 1 rfl rfl 0 (Nat.le_of_ble_eq_true rfl) f106 (fun _ h9 => h9) rfl dX5_markCandidates_120 ?_
              refine lv_iload hx hb dX5_markCandidates_123 (lv_at hl 4 rfl) ?_
              obtain ⟨v10, ev10, nv10, h⟩ := e_rd h
              refine xa_iald hx hb hK hP 2 rfl nv10 ev10 dX5_markCandidates_125 ?_
              obtain ⟨q11, eq11, h⟩ := e_b h
              refine xv_v (As := [.int v10]) (rest := []) (ci := 3) (b := ad 56) ⟨hx, hb, hml, hown, hts⟩ hl.1 (kX3_push l D cA (fun i => ad (56 + i)) aside v10  _ eq11) (cwV 1 hts gX5_markCandidates_X3_push rfl rfl rfl (by decide +kernel) ⟨Nat.le_of_ble_eq_true rfl, Nat.le_of_ble_eq_true rfl⟩) rfl hK hP hD hS hA 9 rfl rfl rfl [9, 10, 11, 12, 13] rfl (by decide +kernel) rfl (Nat.le_of_ble_eq_true rfl) dX5_markCandidates_126 ⟨Nat.zero_le _, Nat.zero_le _⟩ (fun H locs hP hD hS => ?_)
              have hP : va_P D vwCl (wD_row_tally_aside cA ad block ties lines pmn row tally q11) H := hP
              have hD : va_D A (wD_row_tally_aside cA ad block ties lines pmn row tally q11) := hD
              refine lv_iinc (v := (x5 + 1)) (lv' := [(5, .int (x5 + 1)), (0, .ref (ad 0)), (2, .int x2), (3, .int x3), (4, .int x4)]) hx hb dX5_markCandidates_129 hl (k := 4) rfl rfl (by decide) rfl (fun ls hl => ?_)
              refine lv_goto (tgt := 93) hx hb dX5_markCandidates_132 (by decide) ?_
              exact ih93 x2 x3 x4 (x5 + 1) block ties lines pmn row tally q11 z7 _ _ _ (lv_sub hl [1, 2, 3, 4, 0] rfl) hP hD hS h hk93
            · have h := e_f c9 h
              refine lv_iload hx hb dX5_markCandidates_105 (lv_at hl 4 rfl) ?_
              refine lv_iload hx hb dX5_markCandidates_107 (lv_at hl 3 rfl) ?_
              refine lv_icmp_lt (tgt := 129) hx hb dX5_markCandidates_109 (by decide) (fun c12 => ?_) (fun c12 => ?_)
              · have h := e_t c12 h
                refine lv_iinc (v := (x5 + 1)) (lv' := [(5, .int (x5 + 1)), (0, .ref (ad 0)), (2, .int x2), (3, .int x3), (4, .int x4)]) hx hb dX5_markCandidates_129 hl (k := 4) rfl rfl (by decide) rfl (fun ls hl => ?_)
                refine lv_goto (tgt := 93) hx hb dX5_markCandidates_132 (by decide) ?_
                exact ih93 x2 x3 x4 (x5 + 1) block ties lines pmn row tally aside z7 _ _ _ (lv_sub hl [1, 2, 3, 4, 0] rfl) hP hD hS h hk93
              · have h := e_f c12 h
                refine lv_aload_n hx hb dX5_markCandidates_112 rfl (lv_at hl 0 rfl) ?_
                refine va_get (D := D) (ci := 5) (v := .ref (ad 56)) (C := RX5) (T := TX5) (N := 12) hx hb hts iX5 hown hK hP 0 rfl rfl 6 (Nat.le_of_ble_eq_true rfl) f47 (fun _ h9 => h9) rfl dX5_markCandidates_113 ?_
                refine lv_aload_n hx hb dX5_markCandidates_116 rfl (lv_at hl 0 rfl) ?_
                refine va_get (D := D) (ci := 5) (v := .ref (ad 7)) (C := RX5) (T := TX5) (N := 12) hx hb hts iX5 hown hK hP 0 rfl rfl 2 (Nat.le_of_ble_eq_true rfl) f26 (fun _ h9 => h9) rfl dX5_markCandidates_117 ?_
                refine va_get (D := D) (ci := 2) (v := .ref (ad 8)) (C := RX2) (T := TX2) (N := 3) hx hb hts iX2 hown hK hP 1 rfl rfl 0 (Nat.le_of_ble_eq_true rfl) f106 (fun _ h9 => h9) rfl dX5_markCandidates_120 ?_
                refine lv_iload hx hb dX5_markCandidates_123 (lv_at hl 4 rfl) ?_
                obtain ⟨v13, ev13, nv13, h⟩ := e_rd h
                refine xa_iald hx hb hK hP 2 rfl nv13 ev13 dX5_markCandidates_125 ?_
                obtain ⟨q14, eq14, h⟩ := e_b h
                refine xv_v (As := [.int v13]) (rest := []) (ci := 3) (b := ad 56) ⟨hx, hb, hml, hown, hts⟩ hl.1 (kX3_push l D cA (fun i => ad (56 + i)) aside v13  _ eq14) (cwV 1 hts gX5_markCandidates_X3_push rfl rfl rfl (by decide +kernel) ⟨Nat.le_of_ble_eq_true rfl, Nat.le_of_ble_eq_true rfl⟩) rfl hK hP hD hS hA 9 rfl rfl rfl [9, 10, 11, 12, 13] rfl (by decide +kernel) rfl (Nat.le_of_ble_eq_true rfl) dX5_markCandidates_126 ⟨Nat.zero_le _, Nat.zero_le _⟩ (fun H locs hP hD hS => ?_)
                have hP : va_P D vwCl (wD_row_tally_aside cA ad block ties lines pmn row tally q14) H := hP
                have hD : va_D A (wD_row_tally_aside cA ad block ties lines pmn row tally q14) := hD
                refine lv_iinc (v := (x5 + 1)) (lv' := [(5, .int (x5 + 1)), (0, .ref (ad 0)), (2, .int x2), (3, .int x3), (4, .int x4)]) hx hb dX5_markCandidates_129 hl (k := 4) rfl rfl (by decide) rfl (fun ls hl => ?_)
                refine lv_goto (tgt := 93) hx hb dX5_markCandidates_132 (by decide) ?_
                exact ih93 x2 x3 x4 (x5 + 1) block ties lines pmn row tally q14 z7 _ _ _ (lv_sub hl [1, 2, 3, 4, 0] rfl) hP hD hS h hk93
      obtain ⟨z15, ez15, h⟩ := e_b h
      refine hL93 FU x2 (v1 * block) z2 x1 block ties lines pmn row z5.1 z5.2 z15 _ _ _ (lv_sub hl [1, 3, 4, 5, 0] rfl) hP hD hS ez15 (fun ls H locs hl hP hD hS => ?_)
      obtain rfl := e_s h
      exact hret hP hS dX5_markCandidates_135
    have h := ez5
    refine lv_icmp_ge (tgt := 90) hx hb dX5_markCandidates_71 (by decide) (fun c16 => ?_) (fun c16 => ?_)
    · have h := e_t c16 h
      obtain rfl := e_s h
      exact hJ6 _ _ _ (lv_sub hl [1, 2, 3, 4, 0] rfl) hP hD hS
    · have h := e_f c16 h
      refine lv_aload_n hx hb dX5_markCandidates_74 rfl (lv_at hl 1 rfl) ?_
      refine va_get (D := D) (ci := 5) (v := .ref (ad 56)) (C := RX5) (T := TX5) (N := 12) hx hb hts iX5 hown hK hP 0 rfl rfl 6 (Nat.le_of_ble_eq_true rfl) f47 (fun _ h9 => h9) rfl dX5_markCandidates_75 ?_
      refine lv_aload_n hx hb dX5_markCandidates_78 rfl (lv_at hl 1 rfl) ?_
      refine lv_iload_n hx hb dX5_markCandidates_79 rfl (lv_at hl 4 rfl) ?_
      refine lv_iload hx hb dX5_markCandidates_80 (lv_at hl 0 rfl) ?_
      refine lv_iconst (v := 1) hx hb dX5_markCandidates_82 (by decide) ?_
      refine lv_isub hx hb dX5_markCandidates_83 ?_
      obtain ⟨q17, eq17, h⟩ := e_b h
      refine xv_i (As := [.int (v1 * block), .int (z2 - 1)]) (rest := [.ref (ad 56)]) (ci := 5) (b := ad 0) ⟨hx, hb, hml, hown, hts⟩ hl.1 (kX5_modeOf l D cA ad block ties lines pmn row tally (v1 * block) (z2 - 1)  _ eq17) (cwV 2 hts gX5_markCandidates_X5_modeOf rfl rfl rfl (by decide +kernel) ⟨Nat.le_of_ble_eq_true rfl, Nat.le_of_ble_eq_true rfl⟩) rfl hK hP hD hS hA 0 rfl rfl rfl [0, 1, 2, 3, 4, 5, 6, 7, 8] rfl (by decide +kernel) rfl (Nat.le_of_ble_eq_true rfl) dX5_markCandidates_84 ⟨Nat.zero_le _, Nat.zero_le _⟩ (fun H locs hP hD hS hnq17 => ?_)
      have hP : va_P D vwCl (wD_row_tally_aside cA ad block ties lines pmn row q17.2 q4) H := hP
      have hD : va_D A (wD_row_tally_aside cA ad block ties lines pmn row q17.2 q4) := hD
      obtain ⟨q18, eq18, h⟩ := e_b h
      refine xv_v (As := [.int q17.1]) (rest := []) (ci := 3) (b := ad 56) ⟨hx, hb, hml, hown, hts⟩ hl.1 (kX3_push l D cA (fun i => ad (56 + i)) q4 q17.1  _ eq18) (cwV 1 hts gX5_markCandidates_X3_push rfl rfl rfl (by decide +kernel) ⟨Nat.le_of_ble_eq_true rfl, Nat.le_of_ble_eq_true rfl⟩) rfl hK hP hD hS hA 9 rfl rfl rfl [9, 10, 11, 12, 13] rfl (by decide +kernel) rfl (Nat.le_of_ble_eq_true rfl) dX5_markCandidates_87 ⟨Nat.zero_le _, Nat.zero_le _⟩ (fun H locs hP hD hS => ?_)
      have hP : va_P D vwCl (wD_row_tally_aside cA ad block ties lines pmn row q17.2 q18) H := hP
      have hD : va_D A (wD_row_tally_aside cA ad block ties lines pmn row q17.2 q18) := hD
      obtain rfl := e_s h
      exact hJ6 _ _ _ (lv_sub hl [1, 2, 3, 4, 0] rfl) hP hD hS
  have h := ez2
  refine lv_icmp_ne (tgt := 42) hx hb dX5_markCandidates_29 (by decide) (fun c19 => ?_) (fun c19 => ?_)
  · have h := e_t c19 h
    refine lv_iload_n hx hb dX5_markCandidates_42 rfl (lv_at hl 3 rfl) ?_
    refine lv_iconst (v := 1) hx hb dX5_markCandidates_43 (by decide) ?_
    refine lv_iadd hx hb dX5_markCandidates_44 ?_
    refine lv_aload_n hx hb dX5_markCandidates_45 rfl (lv_at hl 1 rfl) ?_
    refine va_get (D := D) (ci := 5) (v := .int block) (C := RX5) (T := TX5) (N := 12) hx hb hts iX5 hown hK hP 0 rfl rfl 8 (Nat.le_of_ble_eq_true rfl) f54 (fun _ h9 => h9) rfl dX5_markCandidates_46 ?_
    obtain ⟨v20, ev20, nv20, h⟩ := e_dv h
    refine xa_idiv hx hb dX5_markCandidates_49 nv20 ev20 ?_
    refine lv_aload_n hx hb dX5_markCandidates_50 rfl (lv_at hl 1 rfl) ?_
    refine va_get (D := D) (ci := 5) (v := .int block) (C := RX5) (T := TX5) (N := 12) hx hb hts iX5 hown hK hP 0 rfl rfl 8 (Nat.le_of_ble_eq_true rfl) f54 (fun _ h9 => h9) rfl dX5_markCandidates_51 ?_
    refine lv_imul hx hb dX5_markCandidates_54 ?_
    obtain rfl := e_s h
    exact hJ3 _ _ _ (lv_sub hl [1, 2, 3, 0] rfl) hP hD hS
  · have h := e_f (not_not_intro c19) h
    refine lv_aload_n hx hb dX5_markCandidates_32 rfl (lv_at hl 1 rfl) ?_
    refine va_get (D := D) (ci := 5) (v := .ref (ad 7)) (C := RX5) (T := TX5) (N := 12) hx hb hts iX5 hown hK hP 0 rfl rfl 2 (Nat.le_of_ble_eq_true rfl) f26 (fun _ h9 => h9) rfl dX5_markCandidates_33 ?_
    refine va_get (D := D) (ci := 2) (v := .int row.2.2) (C := RX2) (T := TX2) (N := 3) hx hb hts iX2 hown hK hP 1 rfl rfl 2 (Nat.le_of_ble_eq_true rfl) f135 (fun _ h9 => h9) rfl dX5_markCandidates_36 ?_
    refine lv_goto (tgt := 55) hx hb dX5_markCandidates_39 (by decide) ?_
    obtain rfl := e_s h
    exact hJ3 _ _ _ (lv_sub hl [1, 2, 3, 0] rfl) hP hD hS
set_option maxHeartbeats 4000000 in
set_option maxRecDepth 100000 in
theorem kX5_candidate (l : Launch) (D : va_G) (cA : Nat → ClassId) (ad : Nat → Nat) (block : Int32) (ties : Int32) (lines : Int32) (pmn : Int32) (row : RowT) (tally : TalT) (aside : TalT) (x1 : Int32) (x2 : Int32) (x3 : Int32) (q : Int32 × TalT × TalT) (h : mX5_candidate block ties row tally aside x1 x2 x3 = some q) : MI l yX5_candidate wsX5_candidate { frames := 5, cells := 0, slots := 0, locals := 113 } D cA .int [.ref (ad 0), .int x1, .int x2, .int x3] (wD_row_tally_aside cA ad block ties lines pmn row tally aside) (wD_row_tally_aside cA ad block ties lines pmn row q.2.1 q.2.2) q.1 := by
  refine MI.of (cc := cX5_candidate) (maxL := 6) (by decide +kernel) rfl rfl rfl (Nat.le_of_ble_eq_true rfl) ?_
  intro p e s m args below meth c A ls Q hx hb hml hts hown hK hP hD hA hS hl hret
  have hl : lv_has ls 6 [(0, .ref (ad 0)), (1, .int x1), (2, .int x2), (3, .int x3)] := hl
  have f182 := hts (.fieldLink RX5 182 "ModeDesk$Tally" "kinds" "I") (by decide +kernel)
  have f187 := hts (.fieldLink RX5 187 "ModeDesk$Tally" "kind" "[I") (by decide +kernel)
  have f190 := hts (.fieldLink RX5 190 "ModeDesk$Tally" "number" "[I") (by decide +kernel)
  have f26 := hts (.fieldLink RX5 26 "ModeDesk" "row" "LModeDesk$Row;") (by decide +kernel)
  have f43 := hts (.fieldLink RX5 43 "ModeDesk" "tally" "LModeDesk$Tally;") (by decide +kernel)
  have f47 := hts (.fieldLink RX5 47 "ModeDesk" "aside" "LModeDesk$Tally;") (by decide +kernel)
  have iX3 : ∀ w ∈ wsX30, w ∈ wsX5_candidate := by decide +kernel
  have iX5 : ∀ w ∈ wsX50, w ∈ wsX5_candidate := by decide +kernel
  unfold mX5_candidate at h
  refine lv_aload_n hx hb dX5_candidate_0 rfl (lv_at hl 0 rfl) ?_
  refine va_get (D := D) (ci := 5) (v := .ref (ad 7)) (C := RX5) (T := TX5) (N := 12) hx hb hts iX5 hown hK hP 0 rfl rfl 2 (Nat.le_of_ble_eq_true rfl) f26 (fun _ h9 => h9) rfl dX5_candidate_1 ?_
  refine lv_iload_n hx hb dX5_candidate_4 rfl (lv_at hl 1 rfl) ?_
  refine lv_iload_n hx hb dX5_candidate_5 rfl (lv_at hl 2 rfl) ?_
  obtain ⟨q1, eq1, h⟩ := e_b h
  refine xv_i (As := [.int x1, .int x2]) (rest := []) (ci := 2) (b := ad 7) ⟨hx, hb, hml, hown, hts⟩ hl.1 (kX2_hasSpan l D cA (fun i => ad (7 + i)) row x1 x2  _ eq1) (cwV 2 hts gX5_candidate_X2_hasSpan rfl rfl rfl (by decide +kernel) ⟨Nat.le_of_ble_eq_true rfl, Nat.le_of_ble_eq_true rfl⟩) rfl hK hP hD hS hA 1 rfl rfl rfl [1, 2, 3] rfl (by decide +kernel) rfl (Nat.le_of_ble_eq_true rfl) dX5_candidate_6 ⟨Nat.zero_le _, Nat.zero_le _⟩ (fun H locs hP hD hS hnq1 => ?_)
  have hP : va_P D vwCl (wD_row_tally_aside cA ad block ties lines pmn row tally aside) H := hP
  have hD : va_D A (wD_row_tally_aside cA ad block ties lines pmn row tally aside) := hD
  refine lv_if_eq (tgt := 17) hx hb dX5_candidate_9 (by decide) (fun c2 => ?_) (fun c2 => ?_)
  · have h := e_t c2 h
    refine lv_iconst (v := (-1)) hx hb dX5_candidate_17 (by decide) ?_
    obtain rfl := e_s h
    exact hret hP hS rfl dX5_candidate_18
  · have h := e_f c2 h
    refine lv_iload_n hx hb dX5_candidate_12 rfl (lv_at hl 3 rfl) ?_
    refine lv_iconst (v := (-1)) hx hb dX5_candidate_13 (by decide) ?_
    refine lv_icmp_ge (tgt := 19) hx hb dX5_candidate_14 (by decide) (fun c3 => ?_) (fun c3 => ?_)
    · have h := e_t c3 h
      refine lv_aload_n hx hb dX5_candidate_19 rfl (lv_at hl 0 rfl) ?_
      refine lv_iload_n hx hb dX5_candidate_20 rfl (lv_at hl 1 rfl) ?_
      refine lv_iload_n hx hb dX5_candidate_21 rfl (lv_at hl 2 rfl) ?_
      obtain ⟨q4, eq4, h⟩ := e_b h
      refine xv_v0 (As := [.int x1, .int x2]) (rest := []) (ci := 5) (b := ad 0) ⟨hx, hb, hml, hown, hts⟩ hl.1 (kX5_markCandidates l D cA ad block ties lines pmn row tally aside x1 x2  _ eq4) (cwV 2 hts gX5_candidate_X5_markCandidates rfl rfl rfl (by decide +kernel) ⟨Nat.le_of_ble_eq_true rfl, Nat.le_of_ble_eq_true rfl⟩) rfl hK hP hD hS hA 0 rfl rfl rfl rfl (Nat.le_of_ble_eq_true rfl) dX5_candidate_22 ⟨Nat.zero_le _, Nat.zero_le _⟩ (fun H locs hP hD hS => ?_)
      have hP : va_P D vwCl (wD_row_tally_aside cA ad block ties lines pmn row q4.1 q4.2) H := hP
      have hD : va_D A (wD_row_tally_aside cA ad block ties lines pmn row q4.1 q4.2) := hD
      refine lv_aload_n hx hb dX5_candidate_25 rfl (lv_at hl 0 rfl) ?_
      refine lv_iload_n hx hb dX5_candidate_26 rfl (lv_at hl 1 rfl) ?_
      refine lv_iload_n hx hb dX5_candidate_27 rfl (lv_at hl 2 rfl) ?_
      obtain ⟨q5, eq5, h⟩ := e_b h
      refine xv_v (As := [.int x1, .int x2]) (rest := []) (ci := 5) (b := ad 0) ⟨hx, hb, hml, hown, hts⟩ hl.1 (kX5_tallySpan l D cA ad block ties lines pmn row q4.1 x1 x2  _ eq5) (cwV 2 hts gX5_candidate_X5_tallySpan rfl rfl rfl (by decide +kernel) ⟨Nat.le_of_ble_eq_true rfl, Nat.le_of_ble_eq_true rfl⟩) rfl hK hP hD hS hA 0 rfl rfl rfl [0, 1, 2, 3, 4, 5, 6, 7, 8] rfl (by decide +kernel) rfl (Nat.le_of_ble_eq_true rfl) dX5_candidate_28 ⟨Nat.zero_le _, Nat.zero_le _⟩ (fun H locs hP hD hS => ?_)
      have hP : va_P D vwCl (wD_row_tally_aside cA ad block ties lines pmn row q5 q4.2) H := hP
      have hD : va_D A (wD_row_tally_aside cA ad block ties lines pmn row q5 q4.2) := hD
      refine lv_aload_n hx hb dX5_candidate_31 rfl (lv_at hl 0 rfl) ?_
      refine va_get (D := D) (ci := 5) (v := .ref (ad 51)) (C := RX5) (T := TX5) (N := 12) hx hb hts iX5 hown hK hP 0 rfl rfl 5 (Nat.le_of_ble_eq_true rfl) f43 (fun _ h9 => h9) rfl dX5_candidate_32 ?_
      obtain ⟨q6, eq6, h⟩ := e_b h
      refine xv_v (As := []) (rest := []) (ci := 3) (b := ad 51) ⟨hx, hb, hml, hown, hts⟩ hl.1 (kX3_order l D cA (fun i => ad (51 + i)) q5   _ eq6) (cwV 0 hts gX5_candidate_X3_order rfl rfl rfl (by decide +kernel) ⟨Nat.le_of_ble_eq_true rfl, Nat.le_of_ble_eq_true rfl⟩) rfl hK hP hD hS hA 4 rfl rfl rfl [4, 5, 6, 7, 8] rfl (by decide +kernel) rfl (Nat.le_of_ble_eq_true rfl) dX5_candidate_35 ⟨Nat.zero_le _, Nat.zero_le _⟩ (fun H locs hP hD hS => ?_)
      have hP : va_P D vwCl (wD_row_tally_aside cA ad block ties lines pmn row q6 q4.2) H := hP
      have hD : va_D A (wD_row_tally_aside cA ad block ties lines pmn row q6 q4.2) := hD
      refine lv_iconst (v := 0) hx hb dX5_candidate_38 (by decide) ?_
      refine lv_istore (lv' := [(4, .int 0), (0, .ref (ad 0)), (1, .int x1), (2, .int x2), (3, .int x3)]) hx hb dX5_candidate_39 hl (by decide) rfl (fun ls hl => ?_)
      refine lv_iconst (v := 0) hx hb dX5_candidate_41 (by decide) ?_
      refine lv_istore (lv' := [(5, .int 0), (4, .int 0), (0, .ref (ad 0)), (1, .int x1), (2, .int x2), (3, .int x3)]) hx hb dX5_candidate_42 hl (by decide) rfl (fun ls hl => ?_)
      have hL44 : ∀ (n : Nat) (x3 : Int32) (x4 : Int32) (x5 : Int32) (ls : Array Slot) (H : Heap) (locs : List Loc), lv_has ls 6 [(0, .ref (ad 0)), (3, .int x3), (4, .int x4), (5, .int x5)] → va_P D vwCl (wD_row_tally_aside cA ad block ties lines pmn row q6 q4.2) H → va_D A (wD_row_tally_aside cA ad block ties lines pmn row q6 q4.2) → va_S A s.heap H locs → mX5_candidate_L44 q6 q4.2 x3 n x4 x5 = some q → W p l e (headSpec wsX5_candidate { frames := 5, cells := 0, slots := 0, locals := 113 }).room s m args below meth c H locs 0 0 Q (F0 m 44 ls []) := by
        intro n
        induction n with
        | zero => intro x3 x4 x5 ls H locs hl hP hD hS h; exact e_n h
        | succ n ih44 =>
          intro x3 x4 x5 ls H locs hl hP hD hS h
          rw [mX5_candidate_L44.eq_2] at h
          refine lv_iload hx hb dX5_candidate_44 (lv_at hl 3 rfl) ?_
          refine lv_aload_n hx hb dX5_candidate_46 rfl (lv_at hl 0 rfl) ?_
          refine va_get (D := D) (ci := 5) (v := .ref (ad 51)) (C := RX5) (T := TX5) (N := 12) hx hb hts iX5 hown hK hP 0 rfl rfl 5 (Nat.le_of_ble_eq_true rfl) f43 (fun _ h9 => h9) rfl dX5_candidate_47 ?_
          refine va_get (D := D) (ci := 3) (v := .int q6.2.2.2.2.1) (C := RX3) (T := TX3) (N := 8) hx hb hts iX3 hown hK hP 4 rfl rfl 4 (Nat.le_of_ble_eq_true rfl) f182 (fun _ h9 => h9) rfl dX5_candidate_50 ?_
          refine lv_icmp_ge (tgt := 103) hx hb dX5_candidate_53 (by decide) (fun c8 => ?_) (fun c8 => ?_)
          · have h := e_t c8 h
            refine lv_iload_n hx hb dX5_candidate_103 rfl (lv_at hl 1 rfl) ?_
            refine lv_iconst (v := (-1)) hx hb dX5_candidate_104 (by decide) ?_
            refine lv_icmp_ne (tgt := 113) hx hb dX5_candidate_105 (by decide) (fun c9 => ?_) (fun c9 => ?_)
            · have h := e_t c9 h
              refine lv_bipush (v := (-2)) hx hb dX5_candidate_113 (by decide) ?_
              obtain rfl := e_s h
              exact hret hP hS rfl dX5_candidate_115
            · have h := e_f (not_not_intro c9) h
              refine lv_iload hx hb dX5_candidate_108 (lv_at hl 2 rfl) ?_
              refine lv_goto (tgt := 115) hx hb dX5_candidate_110 (by decide) ?_
              obtain rfl := e_s h
              exact hret hP hS rfl dX5_candidate_115
          · have h := e_f c8 h
            refine lv_aload_n hx hb dX5_candidate_56 rfl (lv_at hl 0 rfl) ?_
            refine va_get (D := D) (ci := 5) (v := .ref (ad 56)) (C := RX5) (T := TX5) (N := 12) hx hb hts iX5 hown hK hP 0 rfl rfl 6 (Nat.le_of_ble_eq_true rfl) f47 (fun _ h9 => h9) rfl dX5_candidate_57 ?_
            refine va_get (D := D) (ci := 3) (v := .ref (ad 57)) (C := RX3) (T := TX3) (N := 8) hx hb hts iX3 hown hK hP 9 rfl rfl 0 (Nat.le_of_ble_eq_true rfl) f190 (fun _ h9 => h9) rfl dX5_candidate_60 ?_
            refine lv_aload_n hx hb dX5_candidate_63 rfl (lv_at hl 0 rfl) ?_
            refine va_get (D := D) (ci := 5) (v := .ref (ad 51)) (C := RX5) (T := TX5) (N := 12) hx hb hts iX5 hown hK hP 0 rfl rfl 5 (Nat.le_of_ble_eq_true rfl) f43 (fun _ h9 => h9) rfl dX5_candidate_64 ?_
            refine va_get (D := D) (ci := 3) (v := .ref (ad 55)) (C := RX3) (T := TX3) (N := 8) hx hb hts iX3 hown hK hP 4 rfl rfl 3 (Nat.le_of_ble_eq_true rfl) f187 (fun _ h9 => h9) rfl dX5_candidate_67 ?_
            refine lv_iload hx hb dX5_candidate_70 (lv_at hl 3 rfl) ?_
            obtain ⟨v10, ev10, nv10, h⟩ := e_rd h
            refine xa_iald hx hb hK hP 8 rfl nv10 ev10 dX5_candidate_72 ?_
            obtain ⟨v11, ev11, nv11, h⟩ := e_rd h
            refine xa_iald hx hb hK hP 10 rfl nv11 ev11 dX5_candidate_73 ?_
            refine lv_if_le (tgt := 97) hx hb dX5_candidate_74 (by decide) (fun c12 => ?_) (fun c12 => ?_)
            · have h := e_t c12 h
              refine lv_iinc (v := (x5 + 1)) (lv' := [(5, .int (x5 + 1)), (0, .ref (ad 0)), (3, .int x3), (4, .int x4)]) hx hb dX5_candidate_97 hl (k := 3) rfl rfl (by decide) rfl (fun ls hl => ?_)
              refine lv_goto (tgt := 44) hx hb dX5_candidate_100 (by decide) ?_
              exact ih44 x3 x4 (x5 + 1) _ _ _ (lv_sub hl [1, 2, 3, 0] rfl) hP hD hS h
            · have h := e_f c12 h
              refine lv_iload hx hb dX5_candidate_77 (lv_at hl 2 rfl) ?_
              refine lv_iload_n hx hb dX5_candidate_79 rfl (lv_at hl 1 rfl) ?_
              refine lv_icmp_ne (tgt := 94) hx hb dX5_candidate_80 (by decide) (fun c13 => ?_) (fun c13 => ?_)
              · have h := e_t c13 h
                refine lv_iinc (v := (x4 + 1)) (lv' := [(4, .int (x4 + 1)), (0, .ref (ad 0)), (3, .int x3), (5, .int x5)]) hx hb dX5_candidate_94 hl (k := 2) rfl rfl (by decide) rfl (fun ls hl => ?_)
                refine lv_iinc (v := (x5 + 1)) (lv' := [(5, .int (x5 + 1)), (4, .int (x4 + 1)), (0, .ref (ad 0)), (3, .int x3)]) hx hb dX5_candidate_97 hl (k := 3) rfl rfl (by decide) rfl (fun ls hl => ?_)
                refine lv_goto (tgt := 44) hx hb dX5_candidate_100 (by decide) ?_
                exact ih44 x3 (x4 + 1) (x5 + 1) _ _ _ (lv_sub hl [2, 3, 1, 0] rfl) hP hD hS h
              · have h := e_f (not_not_intro c13) h
                refine lv_aload_n hx hb dX5_candidate_83 rfl (lv_at hl 0 rfl) ?_
                refine va_get (D := D) (ci := 5) (v := .ref (ad 51)) (C := RX5) (T := TX5) (N := 12) hx hb hts iX5 hown hK hP 0 rfl rfl 5 (Nat.le_of_ble_eq_true rfl) f43 (fun _ h9 => h9) rfl dX5_candidate_84 ?_
                refine va_get (D := D) (ci := 3) (v := .ref (ad 55)) (C := RX3) (T := TX3) (N := 8) hx hb hts iX3 hown hK hP 4 rfl rfl 3 (Nat.le_of_ble_eq_true rfl) f187 (fun _ h9 => h9) rfl dX5_candidate_87 ?_
                refine lv_iload hx hb dX5_candidate_90 (lv_at hl 3 rfl) ?_
                obtain ⟨v14, ev14, nv14, h⟩ := e_rd h
                refine xa_iald hx hb hK hP 8 rfl nv14 ev14 dX5_candidate_92 ?_
                obtain rfl := e_s h
                exact hret hP hS rfl dX5_candidate_93
      exact hL44 FU x3 0 0 _ _ _ (lv_sub hl [2, 5, 1, 0] rfl) hP hD hS h
    · have h := e_f c3 h
      refine lv_iconst (v := (-1)) hx hb dX5_candidate_17 (by decide) ?_
      obtain rfl := e_s h
      exact hret hP hS rfl dX5_candidate_18
set_option maxHeartbeats 4000000 in
set_option maxRecDepth 100000 in
theorem kX5_at (l : Launch) (D : va_G) (cA : Nat → ClassId) (ad : Nat → Nat) (block : Int32) (ties : Int32) (lines : Int32) (pmn : Int32) (row : RowT) (x1 : Int32) (x2 : Int32) (q : Int32) (h : mX5_at row x1 x2 = some q) : MI l yX5_at wsX5_at { frames := 1, cells := 0, slots := 0, locals := 20 } D cA .int [.ref (ad 0), .int x1, .int x2] (wD_row cA ad block ties lines pmn row) (wD_row cA ad block ties lines pmn row) q := by
  refine MI.of (cc := cX5_at) (maxL := 5) (by decide +kernel) rfl rfl rfl (Nat.le_of_ble_eq_true rfl) ?_
  intro p e s m args below meth c A ls Q hx hb hml hts hown hK hP hD hA hS hl hret
  have hl : lv_has ls 5 [(0, .ref (ad 0)), (1, .int x1), (2, .int x2)] := hl
  have f106 := hts (.fieldLink RX5 106 "ModeDesk$Row" "values" "[I") (by decide +kernel)
  have f135 := hts (.fieldLink RX5 135 "ModeDesk$Row" "size" "I") (by decide +kernel)
  have f26 := hts (.fieldLink RX5 26 "ModeDesk" "row" "LModeDesk$Row;") (by decide +kernel)
  have iX2 : ∀ w ∈ wsX20, w ∈ wsX5_at := by decide +kernel
  have iX5 : ∀ w ∈ wsX50, w ∈ wsX5_at := by decide +kernel
  unfold mX5_at at h
  refine lv_iload_n hx hb dX5_at_0 rfl (lv_at hl 1 rfl) ?_
  obtain ⟨q1, eq1, h⟩ := e_b h
  refine xs_i (As := [.int x1]) (rest := []) ⟨hx, hb, hml, hown, hts⟩ hl.1 (kX5_isValue l D cA   x1  _ eq1) (va_cwS 1 hts gX5_at_X5_isValue rfl rfl rfl (by decide +kernel) ⟨Nat.le_of_ble_eq_true rfl, Nat.le_of_ble_eq_true rfl⟩) rfl hK hP hD hS hA [] rfl (by decide +kernel) rfl (Nat.le_of_ble_eq_true rfl) dX5_at_1 ⟨Nat.zero_le _, Nat.zero_le _⟩ (fun H locs hP hD hS hnq1 => ?_)
  have hP : va_P D vwCl (wD_row cA ad block ties lines pmn row) H := hP
  have hD : va_D A (wD_row cA ad block ties lines pmn row) := hD
  refine lv_if_eq (tgt := 11) hx hb dX5_at_4 (by decide) (fun c2 => ?_) (fun c2 => ?_)
  · have h := e_t c2 h
    refine lv_iconst (v := (-1)) hx hb dX5_at_11 (by decide) ?_
    obtain rfl := e_s h
    exact hret hP hS rfl dX5_at_12
  · have h := e_f c2 h
    refine lv_iload_n hx hb dX5_at_7 rfl (lv_at hl 2 rfl) ?_
    refine lv_if_ge (tgt := 13) hx hb dX5_at_8 (by decide) (fun c3 => ?_) (fun c3 => ?_)
    · have h := e_t c3 h
      refine lv_iload_n hx hb dX5_at_13 rfl (lv_at hl 2 rfl) ?_
      refine lv_istore_n (lv' := [(3, .int x2), (0, .ref (ad 0)), (1, .int x1), (2, .int x2)]) hx hb dX5_at_14 rfl hl (by decide) rfl (fun ls hl => ?_)
      refine lv_iconst (v := 0) hx hb dX5_at_15 (by decide) ?_
      refine lv_istore (lv' := [(4, .int 0), (3, .int x2), (0, .ref (ad 0)), (1, .int x1), (2, .int x2)]) hx hb dX5_at_16 hl (by decide) rfl (fun ls hl => ?_)
      have hL18 : ∀ (n : Nat) (x1 : Int32) (x3 : Int32) (x4 : Int32) (ls : Array Slot) (H : Heap) (locs : List Loc), lv_has ls 5 [(0, .ref (ad 0)), (1, .int x1), (3, .int x3), (4, .int x4)] → va_P D vwCl (wD_row cA ad block ties lines pmn row) H → va_D A (wD_row cA ad block ties lines pmn row) → va_S A s.heap H locs → mX5_at_L18 row x1 n x3 x4 = some q → W p l e (headSpec wsX5_at { frames := 1, cells := 0, slots := 0, locals := 20 }).room s m args below meth c H locs 0 0 Q (F0 m 18 ls []) := by
        intro n
        induction n with
        | zero => intro x1 x3 x4 ls H locs hl hP hD hS h; exact e_n h
        | succ n ih18 =>
          intro x1 x3 x4 ls H locs hl hP hD hS h
          rw [mX5_at_L18.eq_2] at h
          refine lv_iload hx hb dX5_at_18 (lv_at hl 3 rfl) ?_
          refine lv_aload_n hx hb dX5_at_20 rfl (lv_at hl 0 rfl) ?_
          refine va_get (D := D) (ci := 5) (v := .ref (ad 7)) (C := RX5) (T := TX5) (N := 12) hx hb hts iX5 hown hK hP 0 rfl rfl 2 (Nat.le_of_ble_eq_true rfl) f26 (fun _ h9 => h9) rfl dX5_at_21 ?_
          refine va_get (D := D) (ci := 2) (v := .int row.2.2) (C := RX2) (T := TX2) (N := 3) hx hb hts iX2 hown hK hP 1 rfl rfl 2 (Nat.le_of_ble_eq_true rfl) f135 (fun _ h9 => h9) rfl dX5_at_24 ?_
          refine lv_icmp_ge (tgt := 60) hx hb dX5_at_27 (by decide) (fun c5 => ?_) (fun c5 => ?_)
          · have h := e_t c5 h
            refine lv_bipush (v := (-2)) hx hb dX5_at_60 (by decide) ?_
            obtain rfl := e_s h
            exact hret hP hS rfl dX5_at_62
          · have h := e_f c5 h
            refine lv_aload_n hx hb dX5_at_30 rfl (lv_at hl 0 rfl) ?_
            refine va_get (D := D) (ci := 5) (v := .ref (ad 7)) (C := RX5) (T := TX5) (N := 12) hx hb hts iX5 hown hK hP 0 rfl rfl 2 (Nat.le_of_ble_eq_true rfl) f26 (fun _ h9 => h9) rfl dX5_at_31 ?_
            refine va_get (D := D) (ci := 2) (v := .ref (ad 8)) (C := RX2) (T := TX2) (N := 3) hx hb hts iX2 hown hK hP 1 rfl rfl 0 (Nat.le_of_ble_eq_true rfl) f106 (fun _ h9 => h9) rfl dX5_at_34 ?_
            refine lv_iload hx hb dX5_at_37 (lv_at hl 3 rfl) ?_
            obtain ⟨v6, ev6, nv6, h⟩ := e_rd h
            refine xa_iald hx hb hK hP 2 rfl nv6 ev6 dX5_at_39 ?_
            refine lv_iload_n hx hb dX5_at_40 rfl (lv_at hl 1 rfl) ?_
            refine lv_icmp_ne (tgt := 54) hx hb dX5_at_41 (by decide) (fun c7 => ?_) (fun c7 => ?_)
            · have h := e_t c7 h
              refine lv_iinc (v := (x4 + 1)) (lv' := [(4, .int (x4 + 1)), (0, .ref (ad 0)), (1, .int x1), (3, .int x3)]) hx hb dX5_at_54 hl (k := 3) rfl rfl (by decide) rfl (fun ls hl => ?_)
              refine lv_goto (tgt := 18) hx hb dX5_at_57 (by decide) ?_
              exact ih18 x1 x3 (x4 + 1) _ _ _ (lv_sub hl [1, 2, 3, 0] rfl) hP hD hS h
            · have h := e_f (not_not_intro c7) h
              refine lv_iload_n hx hb dX5_at_44 rfl (lv_at hl 2 rfl) ?_
              refine lv_if_ne (tgt := 51) hx hb dX5_at_45 (by decide) (fun c8 => ?_) (fun c8 => ?_)
              · have h := e_t c8 h
                refine lv_iinc (v := (x3 + (-1))) (lv' := [(3, .int (x3 + (-1))), (0, .ref (ad 0)), (1, .int x1), (4, .int x4)]) hx hb dX5_at_51 hl (k := 2) rfl rfl (by decide) rfl (fun ls hl => ?_)
                refine lv_iinc (v := (x4 + 1)) (lv' := [(4, .int (x4 + 1)), (3, .int (x3 + (-1))), (0, .ref (ad 0)), (1, .int x1)]) hx hb dX5_at_54 hl (k := 3) rfl rfl (by decide) rfl (fun ls hl => ?_)
                refine lv_goto (tgt := 18) hx hb dX5_at_57 (by decide) ?_
                exact ih18 x1 (x3 + (-1)) (x4 + 1) _ _ _ (lv_sub hl [2, 3, 1, 0] rfl) hP hD hS h
              · have h := e_f (not_not_intro c8) h
                refine lv_iload hx hb dX5_at_48 (lv_at hl 3 rfl) ?_
                obtain rfl := e_s h
                exact hret hP hS rfl dX5_at_50
      exact hL18 FU x1 x2 0 _ _ _ (lv_sub hl [2, 3, 1, 0] rfl) hP hD hS h
    · have h := e_f c3 h
      refine lv_iconst (v := (-1)) hx hb dX5_at_11 (by decide) ?_
      obtain rfl := e_s h
      exact hret hP hS rfl dX5_at_12
set_option maxHeartbeats 4000000 in
set_option maxRecDepth 100000 in
theorem kX5_follow (l : Launch) (D : va_G) (cA : Nat → ClassId) (ad : Nat → Nat) (block : Int32) (ties : Int32) (lines : Int32) (pmn : Int32) (row : RowT) (x1 : Int32) (x2 : Int32) (x3 : Int32) (q : Int32) (h : mX5_follow row x1 x2 x3 = some q) : MI l yX5_follow wsX5_follow { frames := 2, cells := 0, slots := 0, locals := 47 } D cA .int [.ref (ad 0), .int x1, .int x2, .int x3] (wD_row cA ad block ties lines pmn row) (wD_row cA ad block ties lines pmn row) q := by
  refine MI.of (cc := cX5_follow) (maxL := 4) (by decide +kernel) rfl rfl rfl (Nat.le_of_ble_eq_true rfl) ?_
  intro p e s m args below meth c A ls Q hx hb hml hts hown hK hP hD hA hS hl hret
  have hl : lv_has ls 4 [(0, .ref (ad 0)), (1, .int x1), (2, .int x2), (3, .int x3)] := hl
  have f26 := hts (.fieldLink RX5 26 "ModeDesk" "row" "LModeDesk$Row;") (by decide +kernel)
  have iX5 : ∀ w ∈ wsX50, w ∈ wsX5_follow := by decide +kernel
  unfold mX5_follow at h
  refine lv_iload_n hx hb dX5_follow_0 rfl (lv_at hl 1 rfl) ?_
  obtain ⟨q1, eq1, h⟩ := e_b h
  refine xs_i (As := [.int x1]) (rest := []) ⟨hx, hb, hml, hown, hts⟩ hl.1 (kX5_isValue l D cA   x1  _ eq1) (va_cwS 1 hts gX5_follow_X5_isValue rfl rfl rfl (by decide +kernel) ⟨Nat.le_of_ble_eq_true rfl, Nat.le_of_ble_eq_true rfl⟩) rfl hK hP hD hS hA [] rfl (by decide +kernel) rfl (Nat.le_of_ble_eq_true rfl) dX5_follow_1 ⟨Nat.zero_le _, Nat.zero_le _⟩ (fun H locs hP hD hS hnq1 => ?_)
  have hP : va_P D vwCl (wD_row cA ad block ties lines pmn row) H := hP
  have hD : va_D A (wD_row cA ad block ties lines pmn row) := hD
  refine lv_if_eq (tgt := 18) hx hb dX5_follow_4 (by decide) (fun c2 => ?_) (fun c2 => ?_)
  · have h := e_t c2 h
    refine lv_iconst (v := (-1)) hx hb dX5_follow_18 (by decide) ?_
    obtain rfl := e_s h
    exact hret hP hS rfl dX5_follow_19
  · have h := e_f c2 h
    refine lv_aload_n hx hb dX5_follow_7 rfl (lv_at hl 0 rfl) ?_
    refine va_get (D := D) (ci := 5) (v := .ref (ad 7)) (C := RX5) (T := TX5) (N := 12) hx hb hts iX5 hown hK hP 0 rfl rfl 2 (Nat.le_of_ble_eq_true rfl) f26 (fun _ h9 => h9) rfl dX5_follow_8 ?_
    refine lv_iload_n hx hb dX5_follow_11 rfl (lv_at hl 2 rfl) ?_
    obtain ⟨q3, eq3, h⟩ := e_b h
    refine xv_i (As := [.int x2]) (rest := []) (ci := 2) (b := ad 7) ⟨hx, hb, hml, hown, hts⟩ hl.1 (kX2_has l D cA (fun i => ad (7 + i)) row x2  _ eq3) (cwV 1 hts gX5_follow_X2_has rfl rfl rfl (by decide +kernel) ⟨Nat.le_of_ble_eq_true rfl, Nat.le_of_ble_eq_true rfl⟩) rfl hK hP hD hS hA 1 rfl rfl rfl [1, 2, 3] rfl (by decide +kernel) rfl (Nat.le_of_ble_eq_true rfl) dX5_follow_12 ⟨Nat.zero_le _, Nat.zero_le _⟩ (fun H locs hP hD hS hnq3 => ?_)
    have hP : va_P D vwCl (wD_row cA ad block ties lines pmn row) H := hP
    have hD : va_D A (wD_row cA ad block ties lines pmn row) := hD
    refine lv_if_ne (tgt := 20) hx hb dX5_follow_15 (by decide) (fun c4 => ?_) (fun c4 => ?_)
    · have h := e_t c4 h
      refine lv_iload_n hx hb dX5_follow_20 rfl (lv_at hl 3 rfl) ?_
      refine lv_if_eq (tgt := 36) hx hb dX5_follow_21 (by decide) (fun c5 => ?_) (fun c5 => ?_)
      · have h := e_t c5 h
        refine lv_aload_n hx hb dX5_follow_36 rfl (lv_at hl 0 rfl) ?_
        refine va_get (D := D) (ci := 5) (v := .ref (ad 7)) (C := RX5) (T := TX5) (N := 12) hx hb hts iX5 hown hK hP 0 rfl rfl 2 (Nat.le_of_ble_eq_true rfl) f26 (fun _ h9 => h9) rfl dX5_follow_37 ?_
        refine lv_iload_n hx hb dX5_follow_40 rfl (lv_at hl 1 rfl) ?_
        refine lv_iload_n hx hb dX5_follow_41 rfl (lv_at hl 2 rfl) ?_
        obtain ⟨q6, eq6, h⟩ := e_b h
        refine xv_i (As := [.int x1, .int x2]) (rest := []) (ci := 2) (b := ad 7) ⟨hx, hb, hml, hown, hts⟩ hl.1 (kX2_from l D cA (fun i => ad (7 + i)) row x1 x2  _ eq6) (cwV 2 hts gX5_follow_X2_from rfl rfl rfl (by decide +kernel) ⟨Nat.le_of_ble_eq_true rfl, Nat.le_of_ble_eq_true rfl⟩) rfl hK hP hD hS hA 1 rfl rfl rfl [1, 2, 3] rfl (by decide +kernel) rfl (Nat.le_of_ble_eq_true rfl) dX5_follow_42 ⟨Nat.zero_le _, Nat.zero_le _⟩ (fun H locs hP hD hS hnq6 => ?_)
        have hP : va_P D vwCl (wD_row cA ad block ties lines pmn row) H := hP
        have hD : va_D A (wD_row cA ad block ties lines pmn row) := hD
        obtain rfl := e_s h
        exact hret hP hS rfl dX5_follow_45
      · have h := e_f c5 h
        refine lv_aload_n hx hb dX5_follow_24 rfl (lv_at hl 0 rfl) ?_
        refine va_get (D := D) (ci := 5) (v := .ref (ad 7)) (C := RX5) (T := TX5) (N := 12) hx hb hts iX5 hown hK hP 0 rfl rfl 2 (Nat.le_of_ble_eq_true rfl) f26 (fun _ h9 => h9) rfl dX5_follow_25 ?_
        refine lv_iload_n hx hb dX5_follow_28 rfl (lv_at hl 1 rfl) ?_
        refine lv_iload_n hx hb dX5_follow_29 rfl (lv_at hl 2 rfl) ?_
        obtain ⟨q7, eq7, h⟩ := e_b h
        refine xv_i (As := [.int x1, .int x2]) (rest := []) (ci := 2) (b := ad 7) ⟨hx, hb, hml, hown, hts⟩ hl.1 (kX2_upTo l D cA (fun i => ad (7 + i)) row x1 x2  _ eq7) (cwV 2 hts gX5_follow_X2_upTo rfl rfl rfl (by decide +kernel) ⟨Nat.le_of_ble_eq_true rfl, Nat.le_of_ble_eq_true rfl⟩) rfl hK hP hD hS hA 1 rfl rfl rfl [1, 2, 3] rfl (by decide +kernel) rfl (Nat.le_of_ble_eq_true rfl) dX5_follow_30 ⟨Nat.zero_le _, Nat.zero_le _⟩ (fun H locs hP hD hS hnq7 => ?_)
        have hP : va_P D vwCl (wD_row cA ad block ties lines pmn row) H := hP
        have hD : va_D A (wD_row cA ad block ties lines pmn row) := hD
        refine lv_goto (tgt := 45) hx hb dX5_follow_33 (by decide) ?_
        obtain rfl := e_s h
        exact hret hP hS rfl dX5_follow_45
    · have h := e_f (not_not_intro c4) h
      refine lv_iconst (v := (-1)) hx hb dX5_follow_18 (by decide) ?_
      obtain rfl := e_s h
      exact hret hP hS rfl dX5_follow_19
set_option maxHeartbeats 4000000 in
set_option maxRecDepth 100000 in
theorem kX5_gap (l : Launch) (D : va_G) (cA : Nat → ClassId) (ad : Nat → Nat) (block : Int32) (ties : Int32) (lines : Int32) (pmn : Int32) (row : RowT) (x1 : Int32) (q : Int32) (h : mX5_gap row x1 = some q) : MI l yX5_gap wsX5_gap { frames := 1, cells := 0, slots := 0, locals := 24 } D cA .int [.ref (ad 0), .int x1] (wD_row cA ad block ties lines pmn row) (wD_row cA ad block ties lines pmn row) q := by
  refine MI.of (cc := cX5_gap) (maxL := 5) (by decide +kernel) rfl rfl rfl (Nat.le_of_ble_eq_true rfl) ?_
  intro p e s m args below meth c A ls Q hx hb hml hts hown hK hP hD hA hS hl hret
  have hl : lv_has ls 5 [(0, .ref (ad 0)), (1, .int x1)] := hl
  have f106 := hts (.fieldLink RX5 106 "ModeDesk$Row" "values" "[I") (by decide +kernel)
  have f135 := hts (.fieldLink RX5 135 "ModeDesk$Row" "size" "I") (by decide +kernel)
  have f26 := hts (.fieldLink RX5 26 "ModeDesk" "row" "LModeDesk$Row;") (by decide +kernel)
  have iX2 : ∀ w ∈ wsX20, w ∈ wsX5_gap := by decide +kernel
  have iX5 : ∀ w ∈ wsX50, w ∈ wsX5_gap := by decide +kernel
  unfold mX5_gap at h
  refine lv_iload_n hx hb dX5_gap_0 rfl (lv_at hl 1 rfl) ?_
  obtain ⟨q1, eq1, h⟩ := e_b h
  refine xs_i (As := [.int x1]) (rest := []) ⟨hx, hb, hml, hown, hts⟩ hl.1 (kX5_isValue l D cA   x1  _ eq1) (va_cwS 1 hts gX5_gap_X5_isValue rfl rfl rfl (by decide +kernel) ⟨Nat.le_of_ble_eq_true rfl, Nat.le_of_ble_eq_true rfl⟩) rfl hK hP hD hS hA [] rfl (by decide +kernel) rfl (Nat.le_of_ble_eq_true rfl) dX5_gap_1 ⟨Nat.zero_le _, Nat.zero_le _⟩ (fun H locs hP hD hS hnq1 => ?_)
  have hP : va_P D vwCl (wD_row cA ad block ties lines pmn row) H := hP
  have hD : va_D A (wD_row cA ad block ties lines pmn row) := hD
  refine lv_if_ne (tgt := 9) hx hb dX5_gap_4 (by decide) (fun c2 => ?_) (fun c2 => ?_)
  · have h := e_t c2 h
    refine lv_bipush (v := (-2)) hx hb dX5_gap_9 (by decide) ?_
    refine lv_istore_n (lv' := [(2, .int (-2)), (0, .ref (ad 0)), (1, .int x1)]) hx hb dX5_gap_11 rfl hl (by decide) rfl (fun ls hl => ?_)
    refine lv_iconst (v := (-1)) hx hb dX5_gap_12 (by decide) ?_
    refine lv_istore_n (lv' := [(3, .int (-1)), (2, .int (-2)), (0, .ref (ad 0)), (1, .int x1)]) hx hb dX5_gap_13 rfl hl (by decide) rfl (fun ls hl => ?_)
    refine lv_iconst (v := 0) hx hb dX5_gap_14 (by decide) ?_
    refine lv_istore (lv' := [(4, .int 0), (3, .int (-1)), (2, .int (-2)), (0, .ref (ad 0)), (1, .int x1)]) hx hb dX5_gap_15 hl (by decide) rfl (fun ls hl => ?_)
    have hL17 : ∀ (n : Nat) (x1 : Int32) (x2 : Int32) (x3 : Int32) (x4 : Int32) (block : Int32) (ties : Int32) (lines : Int32) (pmn : Int32) (row : RowT) (z3 : Int32) (ls : Array Slot) (H : Heap) (locs : List Loc), lv_has ls 5 [(0, .ref (ad 0)), (1, .int x1), (2, .int x2), (3, .int x3), (4, .int x4)] → va_P D vwCl (wD_row cA ad block ties lines pmn row) H → va_D A (wD_row cA ad block ties lines pmn row) → va_S A s.heap H locs → mX5_gap_L17 row x1 n x2 x3 x4 = some z3 → (∀ (ls : Array Slot) (H : Heap) (locs : List Loc), lv_has ls 5 [(2, .int z3)] → va_P D vwCl (wD_row cA ad block ties lines pmn row) H → va_D A (wD_row cA ad block ties lines pmn row) → va_S A s.heap H locs → W p l e (headSpec wsX5_gap { frames := 1, cells := 0, slots := 0, locals := 24 }).room s m args below meth c H locs 0 0 Q (F0 m 66 ls [])) → W p l e (headSpec wsX5_gap { frames := 1, cells := 0, slots := 0, locals := 24 }).room s m args below meth c H locs 0 0 Q (F0 m 17 ls []) := by
      intro n
      induction n with
      | zero => intro x1 x2 x3 x4 block ties lines pmn row z3 ls H locs hl hP hD hS h hk17; exact e_n h
      | succ n ih17 =>
        intro x1 x2 x3 x4 block ties lines pmn row z3 ls H locs hl hP hD hS h hk17
        rw [mX5_gap_L17.eq_2] at h
        refine lv_iload hx hb dX5_gap_17 (lv_at hl 4 rfl) ?_
        refine lv_aload_n hx hb dX5_gap_19 rfl (lv_at hl 0 rfl) ?_
        refine va_get (D := D) (ci := 5) (v := .ref (ad 7)) (C := RX5) (T := TX5) (N := 12) hx hb hts iX5 hown hK hP 0 rfl rfl 2 (Nat.le_of_ble_eq_true rfl) f26 (fun _ h9 => h9) rfl dX5_gap_20 ?_
        refine va_get (D := D) (ci := 2) (v := .int row.2.2) (C := RX2) (T := TX2) (N := 3) hx hb hts iX2 hown hK hP 1 rfl rfl 2 (Nat.le_of_ble_eq_true rfl) f135 (fun _ h9 => h9) rfl dX5_gap_23 ?_
        refine lv_icmp_ge (tgt := 66) hx hb dX5_gap_26 (by decide) (fun c4 => ?_) (fun c4 => ?_)
        · have h := e_t c4 h
          obtain rfl := e_s h
          exact hk17 _ _ _ (lv_sub hl [2] rfl) hP hD hS
        · have h := e_f c4 h
          refine lv_aload_n hx hb dX5_gap_29 rfl (lv_at hl 0 rfl) ?_
          refine va_get (D := D) (ci := 5) (v := .ref (ad 7)) (C := RX5) (T := TX5) (N := 12) hx hb hts iX5 hown hK hP 0 rfl rfl 2 (Nat.le_of_ble_eq_true rfl) f26 (fun _ h9 => h9) rfl dX5_gap_30 ?_
          refine va_get (D := D) (ci := 2) (v := .ref (ad 8)) (C := RX2) (T := TX2) (N := 3) hx hb hts iX2 hown hK hP 1 rfl rfl 0 (Nat.le_of_ble_eq_true rfl) f106 (fun _ h9 => h9) rfl dX5_gap_33 ?_
          refine lv_iload hx hb dX5_gap_36 (lv_at hl 4 rfl) ?_
          obtain ⟨v5, ev5, nv5, h⟩ := e_rd h
          refine xa_iald hx hb hK hP 2 rfl nv5 ev5 dX5_gap_38 ?_
          refine lv_iload_n hx hb dX5_gap_39 rfl (lv_at hl 1 rfl) ?_
          refine lv_icmp_ne (tgt := 60) hx hb dX5_gap_40 (by decide) (fun c6 => ?_) (fun c6 => ?_)
          · have h := e_t c6 h
            refine lv_iinc (v := (x4 + 1)) (lv' := [(4, .int (x4 + 1)), (0, .ref (ad 0)), (1, .int x1), (2, .int x2), (3, .int x3)]) hx hb dX5_gap_60 hl (k := 4) rfl rfl (by decide) rfl (fun ls hl => ?_)
            refine lv_goto (tgt := 17) hx hb dX5_gap_63 (by decide) ?_
            exact ih17 x1 x2 x3 (x4 + 1) block ties lines pmn row z3 _ _ _ (lv_sub hl [1, 2, 3, 4, 0] rfl) hP hD hS h hk17
          · have h := e_f (not_not_intro c6) h
            refine lv_iload_n hx hb dX5_gap_43 rfl (lv_at hl 3 rfl) ?_
            refine lv_iconst (v := (-1)) hx hb dX5_gap_44 (by decide) ?_
            refine lv_icmp_eq (tgt := 57) hx hb dX5_gap_45 (by decide) (fun c7 => ?_) (fun c7 => ?_)
            · have h := e_t c7 h
              refine lv_iload hx hb dX5_gap_57 (lv_at hl 4 rfl) ?_
              refine lv_istore_n (lv' := [(3, .int x4), (0, .ref (ad 0)), (1, .int x1), (2, .int x2), (4, .int x4)]) hx hb dX5_gap_59 rfl hl (by decide) rfl (fun ls hl => ?_)
              refine lv_iinc (v := (x4 + 1)) (lv' := [(4, .int (x4 + 1)), (3, .int x4), (0, .ref (ad 0)), (1, .int x1), (2, .int x2)]) hx hb dX5_gap_60 hl (k := 4) rfl rfl (by decide) rfl (fun ls hl => ?_)
              refine lv_goto (tgt := 17) hx hb dX5_gap_63 (by decide) ?_
              exact ih17 x1 x2 x4 (x4 + 1) block ties lines pmn row z3 _ _ _ (lv_sub hl [2, 3, 4, 1, 0] rfl) hP hD hS h hk17
            · have h := e_f c7 h
              refine lv_iload_n hx hb dX5_gap_48 rfl (lv_at hl 2 rfl) ?_
              refine lv_iload hx hb dX5_gap_49 (lv_at hl 4 rfl) ?_
              refine lv_iload_n hx hb dX5_gap_51 rfl (lv_at hl 3 rfl) ?_
              refine lv_isub hx hb dX5_gap_52 ?_
              refine va_mmax hx hb (by rw [hml, hl.1]) hown (hts (.methodLink RX5 203 Lib.Math.max.name) (by decide +kernel)) (hts (.static Lib.Math.max.name) (by decide +kernel)) (hts (.initialized "java/lang/Math") (by decide +kernel)) (hts (.code Lib.Math.max.name Lib.Math.max.code 2 (some .int)) (by decide +kernel)) (Nat.le_of_ble_eq_true rfl) (Nat.le_of_ble_eq_true rfl) (Nat.zero_le _) (Nat.zero_le _) dX5_gap_53 ?_
              refine lv_istore_n (lv' := [(2, .int (if x2 < (x4 - x3) then (x4 - x3) else x2)), (0, .ref (ad 0)), (1, .int x1), (3, .int x3), (4, .int x4)]) hx hb dX5_gap_56 rfl hl (by decide) rfl (fun ls hl => ?_)
              refine lv_iload hx hb dX5_gap_57 (lv_at hl 4 rfl) ?_
              refine lv_istore_n (lv' := [(3, .int x4), (2, .int (if x2 < (x4 - x3) then (x4 - x3) else x2)), (0, .ref (ad 0)), (1, .int x1), (4, .int x4)]) hx hb dX5_gap_59 rfl hl (by decide) rfl (fun ls hl => ?_)
              refine lv_iinc (v := (x4 + 1)) (lv' := [(4, .int (x4 + 1)), (3, .int x4), (2, .int (if x2 < (x4 - x3) then (x4 - x3) else x2)), (0, .ref (ad 0)), (1, .int x1)]) hx hb dX5_gap_60 hl (k := 4) rfl rfl (by decide) rfl (fun ls hl => ?_)
              refine lv_goto (tgt := 17) hx hb dX5_gap_63 (by decide) ?_
              exact ih17 x1 (if x2 < (x4 - x3) then (x4 - x3) else x2) x4 (x4 + 1) block ties lines pmn row z3 _ _ _ (lv_sub hl [3, 4, 2, 1, 0] rfl) hP hD hS h hk17
    obtain ⟨z8, ez8, h⟩ := e_b h
    refine hL17 FU x1 (-2) (-1) 0 block ties lines pmn row z8 _ _ _ (lv_sub hl [3, 4, 2, 1, 0] rfl) hP hD hS ez8 (fun ls H locs hl hP hD hS => ?_)
    refine lv_iload_n hx hb dX5_gap_66 rfl (lv_at hl 0 rfl) ?_
    obtain rfl := e_s h
    exact hret hP hS rfl dX5_gap_67
  · have h := e_f (not_not_intro c2) h
    refine lv_iconst (v := (-1)) hx hb dX5_gap_7 (by decide) ?_
    obtain rfl := e_s h
    exact hret hP hS rfl dX5_gap_8
set_option maxHeartbeats 4000000 in
set_option maxRecDepth 100000 in
theorem kX5_median (l : Launch) (D : va_G) (cA : Nat → ClassId) (ad : Nat → Nat) (block : Int32) (ties : Int32) (lines : Int32) (pmn : Int32) (row : RowT) (tally : TalT) (x1 : Int32) (x2 : Int32) (q : Int32 × TalT) (h : mX5_median ties row tally x1 x2 = some q) : MI l yX5_median wsX5_median { frames := 3, cells := 0, slots := 0, locals := 66 } D cA .int [.ref (ad 0), .int x1, .int x2] (wD_row_tally cA ad block ties lines pmn row tally) (wD_row_tally cA ad block ties lines pmn row q.2) q.1 := by
  refine MI.of (cc := cX5_median) (maxL := 5) (by decide +kernel) rfl rfl rfl (Nat.le_of_ble_eq_true rfl) ?_
  intro p e s m args below meth c A ls Q hx hb hml hts hown hK hP hD hA hS hl hret
  have hl : lv_has ls 5 [(0, .ref (ad 0)), (1, .int x1), (2, .int x2)] := hl
  have f190 := hts (.fieldLink RX5 190 "ModeDesk$Tally" "number" "[I") (by decide +kernel)
  have f26 := hts (.fieldLink RX5 26 "ModeDesk" "row" "LModeDesk$Row;") (by decide +kernel)
  have f43 := hts (.fieldLink RX5 43 "ModeDesk" "tally" "LModeDesk$Tally;") (by decide +kernel)
  have iX3 : ∀ w ∈ wsX30, w ∈ wsX5_median := by decide +kernel
  have iX5 : ∀ w ∈ wsX50, w ∈ wsX5_median := by decide +kernel
  unfold mX5_median at h
  refine lv_aload_n hx hb dX5_median_0 rfl (lv_at hl 0 rfl) ?_
  refine va_get (D := D) (ci := 5) (v := .ref (ad 7)) (C := RX5) (T := TX5) (N := 12) hx hb hts iX5 hown hK hP 0 rfl rfl 2 (Nat.le_of_ble_eq_true rfl) f26 (fun _ h9 => h9) rfl dX5_median_1 ?_
  refine lv_iload_n hx hb dX5_median_4 rfl (lv_at hl 1 rfl) ?_
  refine lv_iload_n hx hb dX5_median_5 rfl (lv_at hl 2 rfl) ?_
  obtain ⟨q1, eq1, h⟩ := e_b h
  refine xv_i (As := [.int x1, .int x2]) (rest := []) (ci := 2) (b := ad 7) ⟨hx, hb, hml, hown, hts⟩ hl.1 (kX2_hasSpan l D cA (fun i => ad (7 + i)) row x1 x2  _ eq1) (cwV 2 hts gX5_median_X2_hasSpan rfl rfl rfl (by decide +kernel) ⟨Nat.le_of_ble_eq_true rfl, Nat.le_of_ble_eq_true rfl⟩) rfl hK hP hD hS hA 1 rfl rfl rfl [1, 2, 3] rfl (by decide +kernel) rfl (Nat.le_of_ble_eq_true rfl) dX5_median_6 ⟨Nat.zero_le _, Nat.zero_le _⟩ (fun H locs hP hD hS hnq1 => ?_)
  have hP : va_P D vwCl (wD_row_tally cA ad block ties lines pmn row tally) H := hP
  have hD : va_D A (wD_row_tally cA ad block ties lines pmn row tally) := hD
  refine lv_if_ne (tgt := 14) hx hb dX5_median_9 (by decide) (fun c2 => ?_) (fun c2 => ?_)
  · have h := e_t c2 h
    refine lv_aload_n hx hb dX5_median_14 rfl (lv_at hl 0 rfl) ?_
    refine lv_iload_n hx hb dX5_median_15 rfl (lv_at hl 1 rfl) ?_
    refine lv_iload_n hx hb dX5_median_16 rfl (lv_at hl 2 rfl) ?_
    obtain ⟨q3, eq3, h⟩ := e_b h
    refine xv_v0 (As := [.int x1, .int x2]) (rest := []) (ci := 5) (b := ad 0) ⟨hx, hb, hml, hown, hts⟩ hl.1 (kX5_tallySpan l D cA ad block ties lines pmn row tally x1 x2  _ eq3) (cwV 2 hts gX5_median_X5_tallySpan rfl rfl rfl (by decide +kernel) ⟨Nat.le_of_ble_eq_true rfl, Nat.le_of_ble_eq_true rfl⟩) rfl hK hP hD hS hA 0 rfl rfl rfl rfl (Nat.le_of_ble_eq_true rfl) dX5_median_17 ⟨Nat.zero_le _, Nat.zero_le _⟩ (fun H locs hP hD hS => ?_)
    have hP : va_P D vwCl (wD_row_tally cA ad block ties lines pmn row q3) H := hP
    have hD : va_D A (wD_row_tally cA ad block ties lines pmn row q3) := hD
    refine lv_iload_n hx hb dX5_median_20 rfl (lv_at hl 2 rfl) ?_
    refine lv_iload_n hx hb dX5_median_21 rfl (lv_at hl 1 rfl) ?_
    refine lv_isub hx hb dX5_median_22 ?_
    refine lv_iconst (v := 2) hx hb dX5_median_23 (by decide) ?_
    obtain ⟨v4, ev4, nv4, h⟩ := e_dv h
    refine xa_idiv hx hb dX5_median_24 nv4 ev4 ?_
    refine lv_istore_n (lv' := [(3, .int v4), (0, .ref (ad 0)), (1, .int x1), (2, .int x2)]) hx hb dX5_median_25 rfl hl (by decide) rfl (fun ls hl => ?_)
    refine lv_iconst (v := 0) hx hb dX5_median_26 (by decide) ?_
    refine lv_istore (lv' := [(4, .int 0), (3, .int v4), (0, .ref (ad 0)), (1, .int x1), (2, .int x2)]) hx hb dX5_median_27 hl (by decide) rfl (fun ls hl => ?_)
    have hL29 : ∀ (n : Nat) (x3 : Int32) (x4 : Int32) (ls : Array Slot) (H : Heap) (locs : List Loc), lv_has ls 5 [(0, .ref (ad 0)), (3, .int x3), (4, .int x4)] → va_P D vwCl (wD_row_tally cA ad block ties lines pmn row q3) H → va_D A (wD_row_tally cA ad block ties lines pmn row q3) → va_S A s.heap H locs → mX5_median_L29 q3 n x3 x4 = some q → W p l e (headSpec wsX5_median { frames := 3, cells := 0, slots := 0, locals := 66 }).room s m args below meth c H locs 0 0 Q (F0 m 29 ls []) := by
      intro n
      induction n with
      | zero => intro x3 x4 ls H locs hl hP hD hS h; exact e_n h
      | succ n ih29 =>
        intro x3 x4 ls H locs hl hP hD hS h
        rw [mX5_median_L29.eq_2] at h
        refine lv_iload hx hb dX5_median_29 (lv_at hl 2 rfl) ?_
        refine lv_sipush (v := 1000) hx hb dX5_median_31 (by decide) ?_
        refine lv_icmp_ge (tgt := 63) hx hb dX5_median_34 (by decide) (fun c6 => ?_) (fun c6 => ?_)
        · have h := e_t c6 h
          refine lv_iconst (v := (-1)) hx hb dX5_median_63 (by decide) ?_
          obtain rfl := e_s h
          exact hret hP hS rfl dX5_median_64
        · have h := e_f c6 h
          refine lv_iload_n hx hb dX5_median_37 rfl (lv_at hl 1 rfl) ?_
          refine lv_aload_n hx hb dX5_median_38 rfl (lv_at hl 0 rfl) ?_
          refine va_get (D := D) (ci := 5) (v := .ref (ad 51)) (C := RX5) (T := TX5) (N := 12) hx hb hts iX5 hown hK hP 0 rfl rfl 5 (Nat.le_of_ble_eq_true rfl) f43 (fun _ h9 => h9) rfl dX5_median_39 ?_
          refine va_get (D := D) (ci := 3) (v := .ref (ad 52)) (C := RX3) (T := TX3) (N := 8) hx hb hts iX3 hown hK hP 4 rfl rfl 0 (Nat.le_of_ble_eq_true rfl) f190 (fun _ h9 => h9) rfl dX5_median_42 ?_
          refine lv_iload hx hb dX5_median_45 (lv_at hl 2 rfl) ?_
          obtain ⟨v7, ev7, nv7, h⟩ := e_rd h
          refine xa_iald hx hb hK hP 5 rfl nv7 ev7 dX5_median_47 ?_
          refine lv_isub hx hb dX5_median_48 ?_
          refine lv_istore_n (lv' := [(3, .int (x3 - v7)), (0, .ref (ad 0)), (4, .int x4)]) hx hb dX5_median_49 rfl hl (by decide) rfl (fun ls hl => ?_)
          refine lv_iload_n hx hb dX5_median_50 rfl (lv_at hl 0 rfl) ?_
          refine lv_if_ge (tgt := 57) hx hb dX5_median_51 (by decide) (fun c8 => ?_) (fun c8 => ?_)
          · have h := e_t c8 h
            refine lv_iinc (v := (x4 + 1)) (lv' := [(4, .int (x4 + 1)), (3, .int (x3 - v7)), (0, .ref (ad 0))]) hx hb dX5_median_57 hl (k := 2) rfl rfl (by decide) rfl (fun ls hl => ?_)
            refine lv_goto (tgt := 29) hx hb dX5_median_60 (by decide) ?_
            exact ih29 (x3 - v7) (x4 + 1) _ _ _ (lv_sub hl [2, 1, 0] rfl) hP hD hS h
          · have h := e_f c8 h
            refine lv_iload hx hb dX5_median_54 (lv_at hl 2 rfl) ?_
            obtain rfl := e_s h
            exact hret hP hS rfl dX5_median_56
    exact hL29 FU v4 0 _ _ _ (lv_sub hl [2, 1, 0] rfl) hP hD hS h
  · have h := e_f (not_not_intro c2) h
    refine lv_iconst (v := (-1)) hx hb dX5_median_12 (by decide) ?_
    obtain rfl := e_s h
    exact hret hP hS rfl dX5_median_13
set_option maxHeartbeats 4000000 in
set_option maxRecDepth 100000 in
theorem kX5_twisted (l : Launch) (D : va_G) (cA : Nat → ClassId) (ad : Nat → Nat) (block : Int32) (ties : Int32) (lines : Int32) (pmn : Int32) (row : RowT) (x1 : Int32) (x2 : Int32) (q : Int32) (h : mX5_twisted row x1 x2 = some q) : MI l yX5_twisted wsX5_twisted { frames := 1, cells := 0, slots := 0, locals := 22 } D cA .int [.ref (ad 0), .int x1, .int x2] (wD_row cA ad block ties lines pmn row) (wD_row cA ad block ties lines pmn row) q := by
  refine MI.of (cc := cX5_twisted) (maxL := 6) (by decide +kernel) rfl rfl rfl (Nat.le_of_ble_eq_true rfl) ?_
  intro p e s m args below meth c A ls Q hx hb hml hts hown hK hP hD hA hS hl hret
  have hl : lv_has ls 6 [(0, .ref (ad 0)), (1, .int x1), (2, .int x2)] := hl
  have f106 := hts (.fieldLink RX5 106 "ModeDesk$Row" "values" "[I") (by decide +kernel)
  have f26 := hts (.fieldLink RX5 26 "ModeDesk" "row" "LModeDesk$Row;") (by decide +kernel)
  have iX2 : ∀ w ∈ wsX20, w ∈ wsX5_twisted := by decide +kernel
  have iX5 : ∀ w ∈ wsX50, w ∈ wsX5_twisted := by decide +kernel
  unfold mX5_twisted at h
  refine lv_aload_n hx hb dX5_twisted_0 rfl (lv_at hl 0 rfl) ?_
  refine va_get (D := D) (ci := 5) (v := .ref (ad 7)) (C := RX5) (T := TX5) (N := 12) hx hb hts iX5 hown hK hP 0 rfl rfl 2 (Nat.le_of_ble_eq_true rfl) f26 (fun _ h9 => h9) rfl dX5_twisted_1 ?_
  refine lv_iload_n hx hb dX5_twisted_4 rfl (lv_at hl 1 rfl) ?_
  refine lv_iload_n hx hb dX5_twisted_5 rfl (lv_at hl 2 rfl) ?_
  obtain ⟨q1, eq1, h⟩ := e_b h
  refine xv_i (As := [.int x1, .int x2]) (rest := []) (ci := 2) (b := ad 7) ⟨hx, hb, hml, hown, hts⟩ hl.1 (kX2_hasSpan l D cA (fun i => ad (7 + i)) row x1 x2  _ eq1) (cwV 2 hts gX5_twisted_X2_hasSpan rfl rfl rfl (by decide +kernel) ⟨Nat.le_of_ble_eq_true rfl, Nat.le_of_ble_eq_true rfl⟩) rfl hK hP hD hS hA 1 rfl rfl rfl [1, 2, 3] rfl (by decide +kernel) rfl (Nat.le_of_ble_eq_true rfl) dX5_twisted_6 ⟨Nat.zero_le _, Nat.zero_le _⟩ (fun H locs hP hD hS hnq1 => ?_)
  have hP : va_P D vwCl (wD_row cA ad block ties lines pmn row) H := hP
  have hD : va_D A (wD_row cA ad block ties lines pmn row) := hD
  refine lv_if_ne (tgt := 14) hx hb dX5_twisted_9 (by decide) (fun c2 => ?_) (fun c2 => ?_)
  · have h := e_t c2 h
    refine lv_iconst (v := 0) hx hb dX5_twisted_14 (by decide) ?_
    refine lv_istore_n (lv' := [(3, .int 0), (0, .ref (ad 0)), (1, .int x1), (2, .int x2)]) hx hb dX5_twisted_15 rfl hl (by decide) rfl (fun ls hl => ?_)
    refine lv_iload_n hx hb dX5_twisted_16 rfl (lv_at hl 2 rfl) ?_
    refine lv_istore (lv' := [(4, .int x1), (3, .int 0), (0, .ref (ad 0)), (1, .int x1), (2, .int x2)]) hx hb dX5_twisted_17 hl (by decide) rfl (fun ls hl => ?_)
    have hL19 : ∀ (n : Nat) (x2 : Int32) (x3 : Int32) (x4 : Int32) (block : Int32) (ties : Int32) (lines : Int32) (pmn : Int32) (row : RowT) (z3 : Int32) (ls : Array Slot) (H : Heap) (locs : List Loc), lv_has ls 6 [(0, .ref (ad 0)), (2, .int x2), (3, .int x3), (4, .int x4)] → va_P D vwCl (wD_row cA ad block ties lines pmn row) H → va_D A (wD_row cA ad block ties lines pmn row) → va_S A s.heap H locs → mX5_twisted_L19 row x2 n x3 x4 = some z3 → (∀ (ls : Array Slot) (H : Heap) (locs : List Loc), lv_has ls 6 [(3, .int z3)] → va_P D vwCl (wD_row cA ad block ties lines pmn row) H → va_D A (wD_row cA ad block ties lines pmn row) → va_S A s.heap H locs → W p l e (headSpec wsX5_twisted { frames := 1, cells := 0, slots := 0, locals := 22 }).room s m args below meth c H locs 0 0 Q (F0 m 75 ls [])) → W p l e (headSpec wsX5_twisted { frames := 1, cells := 0, slots := 0, locals := 22 }).room s m args below meth c H locs 0 0 Q (F0 m 19 ls []) := by
      intro n
      induction n with
      | zero => intro x2 x3 x4 block ties lines pmn row z3 ls H locs hl hP hD hS h hk19; exact e_n h
      | succ n ih19 =>
        intro x2 x3 x4 block ties lines pmn row z3 ls H locs hl hP hD hS h hk19
        rw [mX5_twisted_L19.eq_2] at h
        refine lv_iload hx hb dX5_twisted_19 (lv_at hl 3 rfl) ?_
        refine lv_iload_n hx hb dX5_twisted_21 rfl (lv_at hl 1 rfl) ?_
        refine lv_icmp_gt (tgt := 75) hx hb dX5_twisted_22 (by decide) (fun c4 => ?_) (fun c4 => ?_)
        · have h := e_t c4 h
          obtain rfl := e_s h
          exact hk19 _ _ _ (lv_sub hl [2] rfl) hP hD hS
        · have h := e_f c4 h
          refine lv_iload hx hb dX5_twisted_25 (lv_at hl 3 rfl) ?_
          refine lv_iconst (v := 1) hx hb dX5_twisted_27 (by decide) ?_
          refine lv_iadd hx hb dX5_twisted_28 ?_
          refine lv_istore (lv' := [(5, .int (x4 + 1)), (0, .ref (ad 0)), (2, .int x2), (3, .int x3), (4, .int x4)]) hx hb dX5_twisted_29 hl (by decide) rfl (fun ls hl => ?_)
          have hL31 : ∀ (n : Nat) (x2 : Int32) (x3 : Int32) (x4 : Int32) (x5 : Int32) (block : Int32) (ties : Int32) (lines : Int32) (pmn : Int32) (row : RowT) (z5 : Int32) (ls : Array Slot) (H : Heap) (locs : List Loc), lv_has ls 6 [(0, .ref (ad 0)), (2, .int x2), (3, .int x3), (4, .int x4), (5, .int x5)] → va_P D vwCl (wD_row cA ad block ties lines pmn row) H → va_D A (wD_row cA ad block ties lines pmn row) → va_S A s.heap H locs → mX5_twisted_L31 row x2 x4 n x3 x5 = some z5 → (∀ (ls : Array Slot) (H : Heap) (locs : List Loc), lv_has ls 6 [(0, .ref (ad 0)), (2, .int x2), (3, .int z5), (4, .int x4)] → va_P D vwCl (wD_row cA ad block ties lines pmn row) H → va_D A (wD_row cA ad block ties lines pmn row) → va_S A s.heap H locs → W p l e (headSpec wsX5_twisted { frames := 1, cells := 0, slots := 0, locals := 22 }).room s m args below meth c H locs 0 0 Q (F0 m 69 ls [])) → W p l e (headSpec wsX5_twisted { frames := 1, cells := 0, slots := 0, locals := 22 }).room s m args below meth c H locs 0 0 Q (F0 m 31 ls []) := by
            intro n
            induction n with
            | zero => intro x2 x3 x4 x5 block ties lines pmn row z5 ls H locs hl hP hD hS h hk31; exact e_n h
            | succ n ih31 =>
              intro x2 x3 x4 x5 block ties lines pmn row z5 ls H locs hl hP hD hS h hk31
              rw [mX5_twisted_L31.eq_2] at h
              refine lv_iload hx hb dX5_twisted_31 (lv_at hl 4 rfl) ?_
              refine lv_iload_n hx hb dX5_twisted_33 rfl (lv_at hl 1 rfl) ?_
              refine lv_icmp_gt (tgt := 69) hx hb dX5_twisted_34 (by decide) (fun c6 => ?_) (fun c6 => ?_)
              · have h := e_t c6 h
                obtain rfl := e_s h
                exact hk31 _ _ _ (lv_sub hl [0, 1, 2, 3] rfl) hP hD hS
              · have h := e_f c6 h
                refine lv_aload_n hx hb dX5_twisted_37 rfl (lv_at hl 0 rfl) ?_
                refine va_get (D := D) (ci := 5) (v := .ref (ad 7)) (C := RX5) (T := TX5) (N := 12) hx hb hts iX5 hown hK hP 0 rfl rfl 2 (Nat.le_of_ble_eq_true rfl) f26 (fun _ h9 => h9) rfl dX5_twisted_38 ?_
                refine va_get (D := D) (ci := 2) (v := .ref (ad 8)) (C := RX2) (T := TX2) (N := 3) hx hb hts iX2 hown hK hP 1 rfl rfl 0 (Nat.le_of_ble_eq_true rfl) f106 (fun _ h9 => h9) rfl dX5_twisted_41 ?_
                refine lv_iload hx hb dX5_twisted_44 (lv_at hl 3 rfl) ?_
                obtain ⟨v7, ev7, nv7, h⟩ := e_rd h
                refine xa_iald hx hb hK hP 2 rfl nv7 ev7 dX5_twisted_46 ?_
                refine lv_aload_n hx hb dX5_twisted_47 rfl (lv_at hl 0 rfl) ?_
                refine va_get (D := D) (ci := 5) (v := .ref (ad 7)) (C := RX5) (T := TX5) (N := 12) hx hb hts iX5 hown hK hP 0 rfl rfl 2 (Nat.le_of_ble_eq_true rfl) f26 (fun _ h9 => h9) rfl dX5_twisted_48 ?_
                refine va_get (D := D) (ci := 2) (v := .ref (ad 8)) (C := RX2) (T := TX2) (N := 3) hx hb hts iX2 hown hK hP 1 rfl rfl 0 (Nat.le_of_ble_eq_true rfl) f106 (fun _ h9 => h9) rfl dX5_twisted_51 ?_
                refine lv_iload hx hb dX5_twisted_54 (lv_at hl 4 rfl) ?_
                obtain ⟨v8, ev8, nv8, h⟩ := e_rd h
                refine xa_iald hx hb hK hP 2 rfl nv8 ev8 dX5_twisted_56 ?_
                refine lv_icmp_le (tgt := 63) hx hb dX5_twisted_57 (by decide) (fun c9 => ?_) (fun c9 => ?_)
                · have h := e_t c9 h
                  refine lv_iinc (v := (x5 + 1)) (lv' := [(5, .int (x5 + 1)), (0, .ref (ad 0)), (2, .int x2), (3, .int x3), (4, .int x4)]) hx hb dX5_twisted_63 hl (k := 4) rfl rfl (by decide) rfl (fun ls hl => ?_)
                  refine lv_goto (tgt := 31) hx hb dX5_twisted_66 (by decide) ?_
                  exact ih31 x2 x3 x4 (x5 + 1) block ties lines pmn row z5 _ _ _ (lv_sub hl [1, 2, 3, 4, 0] rfl) hP hD hS h hk31
                · have h := e_f c9 h
                  refine lv_iinc (v := (x3 + 1)) (lv' := [(3, .int (x3 + 1)), (0, .ref (ad 0)), (2, .int x2), (4, .int x4), (5, .int x5)]) hx hb dX5_twisted_60 hl (k := 2) rfl rfl (by decide) rfl (fun ls hl => ?_)
                  refine lv_iinc (v := (x5 + 1)) (lv' := [(5, .int (x5 + 1)), (3, .int (x3 + 1)), (0, .ref (ad 0)), (2, .int x2), (4, .int x4)]) hx hb dX5_twisted_63 hl (k := 4) rfl rfl (by decide) rfl (fun ls hl => ?_)
                  refine lv_goto (tgt := 31) hx hb dX5_twisted_66 (by decide) ?_
                  exact ih31 x2 (x3 + 1) x4 (x5 + 1) block ties lines pmn row z5 _ _ _ (lv_sub hl [2, 3, 1, 4, 0] rfl) hP hD hS h hk31
          obtain ⟨z10, ez10, h⟩ := e_b h
          refine hL31 FU x2 x3 x4 (x4 + 1) block ties lines pmn row z10 _ _ _ (lv_sub hl [1, 2, 3, 4, 0] rfl) hP hD hS ez10 (fun ls H locs hl hP hD hS => ?_)
          refine lv_iinc (v := (x4 + 1)) (lv' := [(4, .int (x4 + 1)), (0, .ref (ad 0)), (2, .int x2), (3, .int z10)]) hx hb dX5_twisted_69 hl (k := 3) rfl rfl (by decide) rfl (fun ls hl => ?_)
          refine lv_goto (tgt := 19) hx hb dX5_twisted_72 (by decide) ?_
          exact ih19 x2 z10 (x4 + 1) block ties lines pmn row z3 _ _ _ (lv_sub hl [1, 2, 3, 0] rfl) hP hD hS h hk19
    obtain ⟨z11, ez11, h⟩ := e_b h
    refine hL19 FU x2 0 x1 block ties lines pmn row z11 _ _ _ (lv_sub hl [2, 4, 1, 0] rfl) hP hD hS ez11 (fun ls H locs hl hP hD hS => ?_)
    refine lv_iload_n hx hb dX5_twisted_75 rfl (lv_at hl 0 rfl) ?_
    obtain rfl := e_s h
    exact hret hP hS rfl dX5_twisted_76
  · have h := e_f (not_not_intro c2) h
    refine lv_iconst (v := (-1)) hx hb dX5_twisted_12 (by decide) ?_
    obtain rfl := e_s h
    exact hret hP hS rfl dX5_twisted_13
set_option maxHeartbeats 4000000 in
set_option maxRecDepth 100000 in
theorem kX5_spanTold (l : Launch) (D : va_G) (cA : Nat → ClassId) (ad : Nat → Nat) (block : Int32) (ties : Int32) (lines : Int32) (pmn : Int32) (row : RowT) (x1 : Int32) (x2 : Int32) (x3 : Int32) (q : Int32) (h : mX5_spanTold row x1 x2 x3 = some q) : MI l yX5_spanTold wsX5_spanTold { frames := 0, cells := 0, slots := 0, locals := 0 } D cA .int [.ref (ad 0), .int x1, .int x2, .int x3] (wD_row cA ad block ties lines pmn row) (wD_row cA ad block ties lines pmn row) q := by
  refine MI.of (cc := cX5_spanTold) (maxL := 4) (by decide +kernel) rfl rfl rfl (Nat.le_of_ble_eq_true rfl) ?_
  intro p e s m args below meth c A ls Q hx hb hml hts hown hK hP hD hA hS hl hret
  have hl : lv_has ls 4 [(0, .ref (ad 0)), (1, .int x1), (2, .int x2), (3, .int x3)] := hl
  have f106 := hts (.fieldLink RX5 106 "ModeDesk$Row" "values" "[I") (by decide +kernel)
  have f26 := hts (.fieldLink RX5 26 "ModeDesk" "row" "LModeDesk$Row;") (by decide +kernel)
  have iX2 : ∀ w ∈ wsX20, w ∈ wsX5_spanTold := by decide +kernel
  have iX5 : ∀ w ∈ wsX50, w ∈ wsX5_spanTold := by decide +kernel
  unfold mX5_spanTold at h
  refine lv_iload_n hx hb dX5_spanTold_0 rfl (lv_at hl 2 rfl) ?_
  refine lv_if_ne (tgt := 7) hx hb dX5_spanTold_1 (by decide) (fun c1 => ?_) (fun c1 => ?_)
  · have h := e_t c1 h
    refine lv_iload_n hx hb dX5_spanTold_7 rfl (lv_at hl 3 rfl) ?_
    refine lv_iconst (v := 2) hx hb dX5_spanTold_8 (by decide) ?_
    refine lv_icmp_ne (tgt := 22) hx hb dX5_spanTold_9 (by decide) (fun c2 => ?_) (fun c2 => ?_)
    · have h := e_t c2 h
      refine lv_iload_n hx hb dX5_spanTold_22 rfl (lv_at hl 3 rfl) ?_
      refine lv_if_ne (tgt := 30) hx hb dX5_spanTold_23 (by decide) (fun c3 => ?_) (fun c3 => ?_)
      · have h := e_t c3 h
        refine lv_iload_n hx hb dX5_spanTold_30 rfl (lv_at hl 1 rfl) ?_
        refine lv_iload_n hx hb dX5_spanTold_31 rfl (lv_at hl 2 rfl) ?_
        refine lv_iadd hx hb dX5_spanTold_32 ?_
        refine lv_iconst (v := 1) hx hb dX5_spanTold_33 (by decide) ?_
        refine lv_isub hx hb dX5_spanTold_34 ?_
        obtain rfl := e_s h
        exact hret hP hS rfl dX5_spanTold_35
      · have h := e_f (not_not_intro c3) h
        refine lv_iload_n hx hb dX5_spanTold_26 rfl (lv_at hl 1 rfl) ?_
        refine lv_goto (tgt := 35) hx hb dX5_spanTold_27 (by decide) ?_
        obtain rfl := e_s h
        exact hret hP hS rfl dX5_spanTold_35
    · have h := e_f (not_not_intro c2) h
      refine lv_aload_n hx hb dX5_spanTold_12 rfl (lv_at hl 0 rfl) ?_
      refine va_get (D := D) (ci := 5) (v := .ref (ad 7)) (C := RX5) (T := TX5) (N := 12) hx hb hts iX5 hown hK hP 0 rfl rfl 2 (Nat.le_of_ble_eq_true rfl) f26 (fun _ h9 => h9) rfl dX5_spanTold_13 ?_
      refine va_get (D := D) (ci := 2) (v := .ref (ad 8)) (C := RX2) (T := TX2) (N := 3) hx hb hts iX2 hown hK hP 1 rfl rfl 0 (Nat.le_of_ble_eq_true rfl) f106 (fun _ h9 => h9) rfl dX5_spanTold_16 ?_
      refine lv_iload_n hx hb dX5_spanTold_19 rfl (lv_at hl 1 rfl) ?_
      obtain ⟨v4, ev4, nv4, h⟩ := e_rd h
      refine xa_iald hx hb hK hP 2 rfl nv4 ev4 dX5_spanTold_20 ?_
      obtain rfl := e_s h
      exact hret hP hS rfl dX5_spanTold_21
  · have h := e_f (not_not_intro c1) h
    refine lv_bipush (v := (-2)) hx hb dX5_spanTold_4 (by decide) ?_
    obtain rfl := e_s h
    exact hret hP hS rfl dX5_spanTold_6
set_option maxHeartbeats 4000000 in
set_option maxRecDepth 100000 in
theorem kX5_run (l : Launch) (D : va_G) (cA : Nat → ClassId) (ad : Nat → Nat) (block : Int32) (ties : Int32) (lines : Int32) (pmn : Int32) (row : RowT) (x1 : Int32) (x2 : Int32) (x3 : Int32) (q : Int32) (h : mX5_run row x1 x2 x3 = some q) : MI l yX5_run wsX5_run { frames := 1, cells := 0, slots := 0, locals := 23 } D cA .int [.ref (ad 0), .int x1, .int x2, .int x3] (wD_row cA ad block ties lines pmn row) (wD_row cA ad block ties lines pmn row) q := by
  refine MI.of (cc := cX5_run) (maxL := 8) (by decide +kernel) rfl rfl rfl (Nat.le_of_ble_eq_true rfl) ?_
  intro p e s m args below meth c A ls Q hx hb hml hts hown hK hP hD hA hS hl hret
  have hl : lv_has ls 8 [(0, .ref (ad 0)), (1, .int x1), (2, .int x2), (3, .int x3)] := hl
  have f106 := hts (.fieldLink RX5 106 "ModeDesk$Row" "values" "[I") (by decide +kernel)
  have f26 := hts (.fieldLink RX5 26 "ModeDesk" "row" "LModeDesk$Row;") (by decide +kernel)
  have iX2 : ∀ w ∈ wsX20, w ∈ wsX5_run := by decide +kernel
  have iX5 : ∀ w ∈ wsX50, w ∈ wsX5_run := by decide +kernel
  unfold mX5_run at h
  refine lv_aload_n hx hb dX5_run_0 rfl (lv_at hl 0 rfl) ?_
  refine va_get (D := D) (ci := 5) (v := .ref (ad 7)) (C := RX5) (T := TX5) (N := 12) hx hb hts iX5 hown hK hP 0 rfl rfl 2 (Nat.le_of_ble_eq_true rfl) f26 (fun _ h9 => h9) rfl dX5_run_1 ?_
  refine lv_iload_n hx hb dX5_run_4 rfl (lv_at hl 1 rfl) ?_
  refine lv_iload_n hx hb dX5_run_5 rfl (lv_at hl 2 rfl) ?_
  obtain ⟨q1, eq1, h⟩ := e_b h
  refine xv_i (As := [.int x1, .int x2]) (rest := []) (ci := 2) (b := ad 7) ⟨hx, hb, hml, hown, hts⟩ hl.1 (kX2_hasSpan l D cA (fun i => ad (7 + i)) row x1 x2  _ eq1) (cwV 2 hts gX5_run_X2_hasSpan rfl rfl rfl (by decide +kernel) ⟨Nat.le_of_ble_eq_true rfl, Nat.le_of_ble_eq_true rfl⟩) rfl hK hP hD hS hA 1 rfl rfl rfl [1, 2, 3] rfl (by decide +kernel) rfl (Nat.le_of_ble_eq_true rfl) dX5_run_6 ⟨Nat.zero_le _, Nat.zero_le _⟩ (fun H locs hP hD hS hnq1 => ?_)
  have hP : va_P D vwCl (wD_row cA ad block ties lines pmn row) H := hP
  have hD : va_D A (wD_row cA ad block ties lines pmn row) := hD
  refine lv_if_eq (tgt := 20) hx hb dX5_run_9 (by decide) (fun c2 => ?_) (fun c2 => ?_)
  · have h := e_t c2 h
    refine lv_iconst (v := (-1)) hx hb dX5_run_20 (by decide) ?_
    obtain rfl := e_s h
    exact hret hP hS rfl dX5_run_21
  · have h := e_f c2 h
    refine lv_iload_n hx hb dX5_run_12 rfl (lv_at hl 3 rfl) ?_
    refine lv_iconst (v := 3) hx hb dX5_run_13 (by decide) ?_
    obtain ⟨q3, eq3, h⟩ := e_b h
    refine xs_i (As := [.int x3, .int 3]) (rest := []) ⟨hx, hb, hml, hown, hts⟩ hl.1 (kX5_isBelow l D cA   x3 3  _ eq3) (va_cwS 2 hts gX5_run_X5_isBelow rfl rfl rfl (by decide +kernel) ⟨Nat.le_of_ble_eq_true rfl, Nat.le_of_ble_eq_true rfl⟩) rfl hK hP hD hS hA [] rfl (by decide +kernel) rfl (Nat.le_of_ble_eq_true rfl) dX5_run_14 ⟨Nat.zero_le _, Nat.zero_le _⟩ (fun H locs hP hD hS hnq3 => ?_)
    have hP : va_P D vwCl (wD_row cA ad block ties lines pmn row) H := hP
    have hD : va_D A (wD_row cA ad block ties lines pmn row) := hD
    refine lv_if_ne (tgt := 22) hx hb dX5_run_17 (by decide) (fun c4 => ?_) (fun c4 => ?_)
    · have h := e_t c4 h
      refine lv_iload_n hx hb dX5_run_22 rfl (lv_at hl 1 rfl) ?_
      refine lv_istore (lv' := [(4, .int x1), (0, .ref (ad 0)), (1, .int x1), (2, .int x2), (3, .int x3)]) hx hb dX5_run_23 hl (by decide) rfl (fun ls hl => ?_)
      refine lv_iload_n hx hb dX5_run_25 rfl (lv_at hl 2 rfl) ?_
      refine lv_istore (lv' := [(5, .int x1), (4, .int x1), (0, .ref (ad 0)), (1, .int x1), (2, .int x2), (3, .int x3)]) hx hb dX5_run_26 hl (by decide) rfl (fun ls hl => ?_)
      refine lv_iconst (v := 0) hx hb dX5_run_28 (by decide) ?_
      refine lv_istore (lv' := [(6, .int 0), (5, .int x1), (4, .int x1), (0, .ref (ad 0)), (1, .int x1), (2, .int x2), (3, .int x3)]) hx hb dX5_run_29 hl (by decide) rfl (fun ls hl => ?_)
      refine lv_iload_n hx hb dX5_run_31 rfl (lv_at hl 4 rfl) ?_
      refine lv_istore (lv' := [(7, .int x1), (6, .int 0), (5, .int x1), (4, .int x1), (0, .ref (ad 0)), (1, .int x1), (2, .int x2), (3, .int x3)]) hx hb dX5_run_32 hl (by decide) rfl (fun ls hl => ?_)
      have hL34 : ∀ (n : Nat) (x2 : Int32) (x3 : Int32) (x4 : Int32) (x5 : Int32) (x6 : Int32) (x7 : Int32) (block : Int32) (ties : Int32) (lines : Int32) (pmn : Int32) (row : RowT) (z5 : Int32 × Int32) (ls : Array Slot) (H : Heap) (locs : List Loc), lv_has ls 8 [(0, .ref (ad 0)), (2, .int x2), (3, .int x3), (4, .int x4), (5, .int x5), (6, .int x6), (7, .int x7)] → va_P D vwCl (wD_row cA ad block ties lines pmn row) H → va_D A (wD_row cA ad block ties lines pmn row) → va_S A s.heap H locs → mX5_run_L34 row x2 n x4 x5 x6 x7 = some z5 → (∀ (ls : Array Slot) (H : Heap) (locs : List Loc), lv_has ls 8 [(0, .ref (ad 0)), (3, .int x3), (5, .int z5.1), (6, .int z5.2)] → va_P D vwCl (wD_row cA ad block ties lines pmn row) H → va_D A (wD_row cA ad block ties lines pmn row) → va_S A s.heap H locs → W p l e (headSpec wsX5_run { frames := 1, cells := 0, slots := 0, locals := 23 }).room s m args below meth c H locs 0 0 Q (F0 m 98 ls [])) → W p l e (headSpec wsX5_run { frames := 1, cells := 0, slots := 0, locals := 23 }).room s m args below meth c H locs 0 0 Q (F0 m 34 ls []) := by
        intro n
        induction n with
        | zero => intro x2 x3 x4 x5 x6 x7 block ties lines pmn row z5 ls H locs hl hP hD hS h hk34; exact e_n h
        | succ n ih34 =>
          intro x2 x3 x4 x5 x6 x7 block ties lines pmn row z5 ls H locs hl hP hD hS h hk34
          rw [mX5_run_L34.eq_2] at h
          refine lv_iload hx hb dX5_run_34 (lv_at hl 6 rfl) ?_
          refine lv_iload_n hx hb dX5_run_36 rfl (lv_at hl 1 rfl) ?_
          refine lv_icmp_gt (tgt := 98) hx hb dX5_run_37 (by decide) (fun c6 => ?_) (fun c6 => ?_)
          · have h := e_t c6 h
            obtain rfl := e_s h
            exact hk34 _ _ _ (lv_sub hl [0, 2, 4, 5] rfl) hP hD hS
          · have h := e_f c6 h
            refine lv_aload_n hx hb dX5_run_40 rfl (lv_at hl 0 rfl) ?_
            refine va_get (D := D) (ci := 5) (v := .ref (ad 7)) (C := RX5) (T := TX5) (N := 12) hx hb hts iX5 hown hK hP 0 rfl rfl 2 (Nat.le_of_ble_eq_true rfl) f26 (fun _ h9 => h9) rfl dX5_run_41 ?_
            refine va_get (D := D) (ci := 2) (v := .ref (ad 8)) (C := RX2) (T := TX2) (N := 3) hx hb hts iX2 hown hK hP 1 rfl rfl 0 (Nat.le_of_ble_eq_true rfl) f106 (fun _ h9 => h9) rfl dX5_run_44 ?_
            refine lv_iload hx hb dX5_run_47 (lv_at hl 6 rfl) ?_
            obtain ⟨v7, ev7, nv7, h⟩ := e_rd h
            refine xa_iald hx hb hK hP 2 rfl nv7 ev7 dX5_run_49 ?_
            refine lv_aload_n hx hb dX5_run_50 rfl (lv_at hl 0 rfl) ?_
            refine va_get (D := D) (ci := 5) (v := .ref (ad 7)) (C := RX5) (T := TX5) (N := 12) hx hb hts iX5 hown hK hP 0 rfl rfl 2 (Nat.le_of_ble_eq_true rfl) f26 (fun _ h9 => h9) rfl dX5_run_51 ?_
            refine va_get (D := D) (ci := 2) (v := .ref (ad 8)) (C := RX2) (T := TX2) (N := 3) hx hb hts iX2 hown hK hP 1 rfl rfl 0 (Nat.le_of_ble_eq_true rfl) f106 (fun _ h9 => h9) rfl dX5_run_54 ?_
            refine lv_iload hx hb dX5_run_57 (lv_at hl 3 rfl) ?_
            obtain ⟨v8, ev8, nv8, h⟩ := e_rd h
            refine xa_iald hx hb hK hP 2 rfl nv8 ev8 dX5_run_59 ?_
            obtain ⟨z9, ez9, h⟩ := e_b h
            have hJ10 : ∀ (ls : Array Slot) (H : Heap) (locs : List Loc), lv_has ls 8 [(0, .ref (ad 0)), (2, .int x2), (3, .int x3), (4, .int z9), (5, .int x5), (6, .int x6), (7, .int x7)] → va_P D vwCl (wD_row cA ad block ties lines pmn row) H → va_D A (wD_row cA ad block ties lines pmn row) → va_S A s.heap H locs → W p l e (headSpec wsX5_run { frames := 1, cells := 0, slots := 0, locals := 23 }).room s m args below meth c H locs 0 0 Q (F0 m 67 ls []) := by
              intro ls H locs hl hP hD hS
              refine lv_iload hx hb dX5_run_67 (lv_at hl 6 rfl) ?_
              refine lv_iload hx hb dX5_run_69 (lv_at hl 3 rfl) ?_
              refine lv_isub hx hb dX5_run_71 ?_
              refine lv_iconst (v := 1) hx hb dX5_run_72 (by decide) ?_
              refine lv_iadd hx hb dX5_run_73 ?_
              refine lv_iload hx hb dX5_run_74 (lv_at hl 5 rfl) ?_
              refine lv_icmp_le (tgt := 92) hx hb dX5_run_76 (by decide) (fun c11 => ?_) (fun c11 => ?_)
              · have h := e_t c11 h
                refine lv_iinc (v := (x7 + 1)) (lv' := [(7, .int (x7 + 1)), (0, .ref (ad 0)), (2, .int x2), (3, .int x3), (4, .int z9), (5, .int x5), (6, .int x6)]) hx hb dX5_run_92 hl (k := 6) rfl rfl (by decide) rfl (fun ls hl => ?_)
                refine lv_goto (tgt := 34) hx hb dX5_run_95 (by decide) ?_
                exact ih34 x2 x3 z9 x5 x6 (x7 + 1) block ties lines pmn row z5 _ _ _ (lv_sub hl [1, 2, 3, 4, 5, 6, 0] rfl) hP hD hS h hk34
              · have h := e_f c11 h
                refine lv_iload hx hb dX5_run_79 (lv_at hl 3 rfl) ?_
                refine lv_istore (lv' := [(5, .int z9), (0, .ref (ad 0)), (2, .int x2), (3, .int x3), (4, .int z9), (6, .int x6), (7, .int x7)]) hx hb dX5_run_81 hl (by decide) rfl (fun ls hl => ?_)
                refine lv_iload hx hb dX5_run_83 (lv_at hl 6 rfl) ?_
                refine lv_iload hx hb dX5_run_85 (lv_at hl 4 rfl) ?_
                refine lv_isub hx hb dX5_run_87 ?_
                refine lv_iconst (v := 1) hx hb dX5_run_88 (by decide) ?_
                refine lv_iadd hx hb dX5_run_89 ?_
                refine lv_istore (lv' := [(6, .int ((x7 - z9) + 1)), (5, .int z9), (0, .ref (ad 0)), (2, .int x2), (3, .int x3), (4, .int z9), (7, .int x7)]) hx hb dX5_run_90 hl (by decide) rfl (fun ls hl => ?_)
                refine lv_iinc (v := (x7 + 1)) (lv' := [(7, .int (x7 + 1)), (6, .int ((x7 - z9) + 1)), (5, .int z9), (0, .ref (ad 0)), (2, .int x2), (3, .int x3), (4, .int z9)]) hx hb dX5_run_92 hl (k := 6) rfl rfl (by decide) rfl (fun ls hl => ?_)
                refine lv_goto (tgt := 34) hx hb dX5_run_95 (by decide) ?_
                exact ih34 x2 x3 z9 z9 ((x7 - z9) + 1) (x7 + 1) block ties lines pmn row z5 _ _ _ (lv_sub hl [3, 4, 5, 6, 2, 1, 0] rfl) hP hD hS h hk34
            have h := ez9
            refine lv_icmp_eq (tgt := 67) hx hb dX5_run_60 (by decide) (fun c12 => ?_) (fun c12 => ?_)
            · have h := e_t c12 h
              obtain rfl := e_s h
              exact hJ10 _ _ _ (lv_sub hl [0, 1, 2, 3, 4, 5, 6] rfl) hP hD hS
            · have h := e_f c12 h
              refine lv_iload hx hb dX5_run_63 (lv_at hl 6 rfl) ?_
              refine lv_istore (lv' := [(4, .int x7), (0, .ref (ad 0)), (2, .int x2), (3, .int x3), (5, .int x5), (6, .int x6), (7, .int x7)]) hx hb dX5_run_65 hl (by decide) rfl (fun ls hl => ?_)
              obtain rfl := e_s h
              exact hJ10 _ _ _ (lv_sub hl [1, 2, 3, 0, 4, 5, 6] rfl) hP hD hS
      obtain ⟨z13, ez13, h⟩ := e_b h
      refine hL34 FU x2 x3 x1 x1 0 x1 block ties lines pmn row z13 _ _ _ (lv_sub hl [4, 6, 7, 3, 2, 1, 0] rfl) hP hD hS ez13 (fun ls H locs hl hP hD hS => ?_)
      refine lv_aload_n hx hb dX5_run_98 rfl (lv_at hl 0 rfl) ?_
      refine lv_iload hx hb dX5_run_99 (lv_at hl 2 rfl) ?_
      refine lv_iload hx hb dX5_run_101 (lv_at hl 3 rfl) ?_
      refine lv_iload_n hx hb dX5_run_103 rfl (lv_at hl 1 rfl) ?_
      obtain ⟨q14, eq14, h⟩ := e_b h
      refine xv_i0 (As := [.int z13.1, .int z13.2, .int x3]) (rest := []) (ci := 5) (b := ad 0) ⟨hx, hb, hml, hown, hts⟩ hl.1 (kX5_spanTold l D cA ad block ties lines pmn row z13.1 z13.2 x3  _ eq14) (cwV 3 hts gX5_run_X5_spanTold rfl rfl rfl (by decide +kernel) ⟨Nat.le_of_ble_eq_true rfl, Nat.le_of_ble_eq_true rfl⟩) rfl hK hP hD hS hA 0 rfl rfl rfl rfl (Nat.le_of_ble_eq_true rfl) dX5_run_104 ⟨Nat.zero_le _, Nat.zero_le _⟩ (fun H locs hP hD hS hnq14 => ?_)
      have hP : va_P D vwCl (wD_row cA ad block ties lines pmn row) H := hP
      have hD : va_D A (wD_row cA ad block ties lines pmn row) := hD
      obtain rfl := e_s h
      exact hret hP hS rfl dX5_run_107
    · have h := e_f (not_not_intro c4) h
      refine lv_iconst (v := (-1)) hx hb dX5_run_20 (by decide) ?_
      obtain rfl := e_s h
      exact hret hP hS rfl dX5_run_21
set_option maxHeartbeats 4000000 in
set_option maxRecDepth 100000 in
theorem kX5_common (l : Launch) (D : va_G) (cA : Nat → ClassId) (ad : Nat → Nat) (block : Int32) (ties : Int32) (lines : Int32) (pmn : Int32) (row : RowT) (tally : TalT) (aside : TalT) (x1 : Int32) (x2 : Int32) (x3 : Int32) (q : Int32 × TalT × TalT) (h : mX5_common ties row tally aside x1 x2 x3 = some q) : MI l yX5_common wsX5_common { frames := 3, cells := 0, slots := 0, locals := 66 } D cA .int [.ref (ad 0), .int x1, .int x2, .int x3] (wD_row_tally_aside cA ad block ties lines pmn row tally aside) (wD_row_tally_aside cA ad block ties lines pmn row q.2.1 q.2.2) q.1 := by
  refine MI.of (cc := cX5_common) (maxL := 7) (by decide +kernel) rfl rfl rfl (Nat.le_of_ble_eq_true rfl) ?_
  intro p e s m args below meth c A ls Q hx hb hml hts hown hK hP hD hA hS hl hret
  have hl : lv_has ls 7 [(0, .ref (ad 0)), (1, .int x1), (2, .int x2), (3, .int x3)] := hl
  have f106 := hts (.fieldLink RX5 106 "ModeDesk$Row" "values" "[I") (by decide +kernel)
  have f182 := hts (.fieldLink RX5 182 "ModeDesk$Tally" "kinds" "I") (by decide +kernel)
  have f187 := hts (.fieldLink RX5 187 "ModeDesk$Tally" "kind" "[I") (by decide +kernel)
  have f190 := hts (.fieldLink RX5 190 "ModeDesk$Tally" "number" "[I") (by decide +kernel)
  have f26 := hts (.fieldLink RX5 26 "ModeDesk" "row" "LModeDesk$Row;") (by decide +kernel)
  have f43 := hts (.fieldLink RX5 43 "ModeDesk" "tally" "LModeDesk$Tally;") (by decide +kernel)
  have f47 := hts (.fieldLink RX5 47 "ModeDesk" "aside" "LModeDesk$Tally;") (by decide +kernel)
  have f58 := hts (.fieldLink RX5 58 "ModeDesk" "ties" "I") (by decide +kernel)
  have iX2 : ∀ w ∈ wsX20, w ∈ wsX5_common := by decide +kernel
  have iX3 : ∀ w ∈ wsX30, w ∈ wsX5_common := by decide +kernel
  have iX5 : ∀ w ∈ wsX50, w ∈ wsX5_common := by decide +kernel
  unfold mX5_common at h
  refine lv_aload_n hx hb dX5_common_0 rfl (lv_at hl 0 rfl) ?_
  refine va_get (D := D) (ci := 5) (v := .ref (ad 7)) (C := RX5) (T := TX5) (N := 12) hx hb hts iX5 hown hK hP 0 rfl rfl 2 (Nat.le_of_ble_eq_true rfl) f26 (fun _ h9 => h9) rfl dX5_common_1 ?_
  refine lv_iload_n hx hb dX5_common_4 rfl (lv_at hl 1 rfl) ?_
  refine lv_iload_n hx hb dX5_common_5 rfl (lv_at hl 2 rfl) ?_
  obtain ⟨q1, eq1, h⟩ := e_b h
  refine xv_i (As := [.int x1, .int x2]) (rest := []) (ci := 2) (b := ad 7) ⟨hx, hb, hml, hown, hts⟩ hl.1 (kX2_hasSpan l D cA (fun i => ad (7 + i)) row x1 x2  _ eq1) (cwV 2 hts gX5_common_X2_hasSpan rfl rfl rfl (by decide +kernel) ⟨Nat.le_of_ble_eq_true rfl, Nat.le_of_ble_eq_true rfl⟩) rfl hK hP hD hS hA 1 rfl rfl rfl [1, 2, 3] rfl (by decide +kernel) rfl (Nat.le_of_ble_eq_true rfl) dX5_common_6 ⟨Nat.zero_le _, Nat.zero_le _⟩ (fun H locs hP hD hS hnq1 => ?_)
  have hP : va_P D vwCl (wD_row_tally_aside cA ad block ties lines pmn row tally aside) H := hP
  have hD : va_D A (wD_row_tally_aside cA ad block ties lines pmn row tally aside) := hD
  refine lv_if_eq (tgt := 38) hx hb dX5_common_9 (by decide) (fun c2 => ?_) (fun c2 => ?_)
  · have h := e_t c2 h
    refine lv_iconst (v := (-1)) hx hb dX5_common_38 (by decide) ?_
    obtain rfl := e_s h
    exact hret hP hS rfl dX5_common_39
  · have h := e_f c2 h
    refine lv_aload_n hx hb dX5_common_12 rfl (lv_at hl 0 rfl) ?_
    refine va_get (D := D) (ci := 5) (v := .ref (ad 7)) (C := RX5) (T := TX5) (N := 12) hx hb hts iX5 hown hK hP 0 rfl rfl 2 (Nat.le_of_ble_eq_true rfl) f26 (fun _ h9 => h9) rfl dX5_common_13 ?_
    refine lv_iload_n hx hb dX5_common_16 rfl (lv_at hl 3 rfl) ?_
    obtain ⟨q3, eq3, h⟩ := e_b h
    refine xv_i (As := [.int x3]) (rest := []) (ci := 2) (b := ad 7) ⟨hx, hb, hml, hown, hts⟩ hl.1 (kX2_has l D cA (fun i => ad (7 + i)) row x3  _ eq3) (cwV 1 hts gX5_common_X2_has rfl rfl rfl (by decide +kernel) ⟨Nat.le_of_ble_eq_true rfl, Nat.le_of_ble_eq_true rfl⟩) rfl hK hP hD hS hA 1 rfl rfl rfl [1, 2, 3] rfl (by decide +kernel) rfl (Nat.le_of_ble_eq_true rfl) dX5_common_17 ⟨Nat.zero_le _, Nat.zero_le _⟩ (fun H locs hP hD hS hnq3 => ?_)
    have hP : va_P D vwCl (wD_row_tally_aside cA ad block ties lines pmn row tally aside) H := hP
    have hD : va_D A (wD_row_tally_aside cA ad block ties lines pmn row tally aside) := hD
    refine lv_if_eq (tgt := 38) hx hb dX5_common_20 (by decide) (fun c4 => ?_) (fun c4 => ?_)
    · have h := e_t c4 h
      refine lv_iconst (v := (-1)) hx hb dX5_common_38 (by decide) ?_
      obtain rfl := e_s h
      exact hret hP hS rfl dX5_common_39
    · have h := e_f c4 h
      refine lv_aload_n hx hb dX5_common_23 rfl (lv_at hl 0 rfl) ?_
      refine va_get (D := D) (ci := 5) (v := .ref (ad 7)) (C := RX5) (T := TX5) (N := 12) hx hb hts iX5 hown hK hP 0 rfl rfl 2 (Nat.le_of_ble_eq_true rfl) f26 (fun _ h9 => h9) rfl dX5_common_24 ?_
      refine lv_iload_n hx hb dX5_common_27 rfl (lv_at hl 3 rfl) ?_
      refine lv_iload_n hx hb dX5_common_28 rfl (lv_at hl 2 rfl) ?_
      refine lv_iload_n hx hb dX5_common_29 rfl (lv_at hl 1 rfl) ?_
      refine lv_isub hx hb dX5_common_30 ?_
      refine lv_iadd hx hb dX5_common_31 ?_
      obtain ⟨q5, eq5, h⟩ := e_b h
      refine xv_i (As := [.int (x3 + (x2 - x1))]) (rest := []) (ci := 2) (b := ad 7) ⟨hx, hb, hml, hown, hts⟩ hl.1 (kX2_has l D cA (fun i => ad (7 + i)) row (x3 + (x2 - x1))  _ eq5) (cwV 1 hts gX5_common_X2_has rfl rfl rfl (by decide +kernel) ⟨Nat.le_of_ble_eq_true rfl, Nat.le_of_ble_eq_true rfl⟩) rfl hK hP hD hS hA 1 rfl rfl rfl [1, 2, 3] rfl (by decide +kernel) rfl (Nat.le_of_ble_eq_true rfl) dX5_common_32 ⟨Nat.zero_le _, Nat.zero_le _⟩ (fun H locs hP hD hS hnq5 => ?_)
      have hP : va_P D vwCl (wD_row_tally_aside cA ad block ties lines pmn row tally aside) H := hP
      have hD : va_D A (wD_row_tally_aside cA ad block ties lines pmn row tally aside) := hD
      refine lv_if_ne (tgt := 40) hx hb dX5_common_35 (by decide) (fun c6 => ?_) (fun c6 => ?_)
      · have h := e_t c6 h
        refine lv_aload_n hx hb dX5_common_40 rfl (lv_at hl 0 rfl) ?_
        refine lv_iload_n hx hb dX5_common_41 rfl (lv_at hl 1 rfl) ?_
        refine lv_iload_n hx hb dX5_common_42 rfl (lv_at hl 2 rfl) ?_
        obtain ⟨q7, eq7, h⟩ := e_b h
        refine xv_v (As := [.int x1, .int x2]) (rest := []) (ci := 5) (b := ad 0) ⟨hx, hb, hml, hown, hts⟩ hl.1 (kX5_tallySpan l D cA ad block ties lines pmn row tally x1 x2  _ eq7) (cwV 2 hts gX5_common_X5_tallySpan rfl rfl rfl (by decide +kernel) ⟨Nat.le_of_ble_eq_true rfl, Nat.le_of_ble_eq_true rfl⟩) rfl hK hP hD hS hA 0 rfl rfl rfl [0, 1, 2, 3, 4, 5, 6, 7, 8] rfl (by decide +kernel) rfl (Nat.le_of_ble_eq_true rfl) dX5_common_43 ⟨Nat.zero_le _, Nat.zero_le _⟩ (fun H locs hP hD hS => ?_)
        have hP : va_P D vwCl (wD_row_tally_aside cA ad block ties lines pmn row q7 aside) H := hP
        have hD : va_D A (wD_row_tally_aside cA ad block ties lines pmn row q7 aside) := hD
        refine lv_aload_n hx hb dX5_common_46 rfl (lv_at hl 0 rfl) ?_
        refine va_get (D := D) (ci := 5) (v := .ref (ad 56)) (C := RX5) (T := TX5) (N := 12) hx hb hts iX5 hown hK hP 0 rfl rfl 6 (Nat.le_of_ble_eq_true rfl) f47 (fun _ h9 => h9) rfl dX5_common_47 ?_
        refine lv_aload_n hx hb dX5_common_50 rfl (lv_at hl 0 rfl) ?_
        refine va_get (D := D) (ci := 5) (v := .int ties) (C := RX5) (T := TX5) (N := 12) hx hb hts iX5 hown hK hP 0 rfl rfl 9 (Nat.le_of_ble_eq_true rfl) f58 (fun _ h9 => h9) rfl dX5_common_51 ?_
        obtain ⟨q8, eq8, h⟩ := e_b h
        refine xv_v (As := [.int ties]) (rest := []) (ci := 3) (b := ad 56) ⟨hx, hb, hml, hown, hts⟩ hl.1 (kX3_begin l D cA (fun i => ad (56 + i)) aside ties  _ eq8) (cwV 1 hts gX5_common_X3_begin rfl rfl rfl (by decide +kernel) ⟨Nat.le_of_ble_eq_true rfl, Nat.le_of_ble_eq_true rfl⟩) rfl hK hP hD hS hA 9 rfl rfl rfl [9, 10, 11, 12, 13] rfl (by decide +kernel) rfl (Nat.le_of_ble_eq_true rfl) dX5_common_54 ⟨Nat.zero_le _, Nat.zero_le _⟩ (fun H locs hP hD hS => ?_)
        have hP : va_P D vwCl (wD_row_tally_aside cA ad block ties lines pmn row q7 q8) H := hP
        have hD : va_D A (wD_row_tally_aside cA ad block ties lines pmn row q7 q8) := hD
        refine lv_iload_n hx hb dX5_common_57 rfl (lv_at hl 3 rfl) ?_
        refine lv_istore (lv' := [(4, .int x3), (0, .ref (ad 0)), (1, .int x1), (2, .int x2), (3, .int x3)]) hx hb dX5_common_58 hl (by decide) rfl (fun ls hl => ?_)
        have hL60 : ∀ (n : Nat) (x1 : Int32) (x2 : Int32) (x3 : Int32) (x4 : Int32) (block : Int32) (ties : Int32) (lines : Int32) (pmn : Int32) (row : RowT) (tally : TalT) (aside : TalT) (z9 : TalT) (ls : Array Slot) (H : Heap) (locs : List Loc), lv_has ls 7 [(0, .ref (ad 0)), (1, .int x1), (2, .int x2), (3, .int x3), (4, .int x4)] → va_P D vwCl (wD_row_tally_aside cA ad block ties lines pmn row tally aside) H → va_D A (wD_row_tally_aside cA ad block ties lines pmn row tally aside) → va_S A s.heap H locs → mX5_common_L60 row x1 x2 x3 n x4 aside = some z9 → (∀ (ls : Array Slot) (H : Heap) (locs : List Loc), lv_has ls 7 [(0, .ref (ad 0))] → va_P D vwCl (wD_row_tally_aside cA ad block ties lines pmn row tally z9) H → va_D A (wD_row_tally_aside cA ad block ties lines pmn row tally z9) → va_S A s.heap H locs → W p l e (headSpec wsX5_common { frames := 3, cells := 0, slots := 0, locals := 66 }).room s m args below meth c H locs 0 0 Q (F0 m 93 ls [])) → W p l e (headSpec wsX5_common { frames := 3, cells := 0, slots := 0, locals := 66 }).room s m args below meth c H locs 0 0 Q (F0 m 60 ls []) := by
          intro n
          induction n with
          | zero => intro x1 x2 x3 x4 block ties lines pmn row tally aside z9 ls H locs hl hP hD hS h hk60; exact e_n h
          | succ n ih60 =>
            intro x1 x2 x3 x4 block ties lines pmn row tally aside z9 ls H locs hl hP hD hS h hk60
            rw [mX5_common_L60.eq_2] at h
            refine lv_iload hx hb dX5_common_60 (lv_at hl 4 rfl) ?_
            refine lv_iload_n hx hb dX5_common_62 rfl (lv_at hl 3 rfl) ?_
            refine lv_iload_n hx hb dX5_common_63 rfl (lv_at hl 2 rfl) ?_
            refine lv_iload_n hx hb dX5_common_64 rfl (lv_at hl 1 rfl) ?_
            refine lv_isub hx hb dX5_common_65 ?_
            refine lv_iadd hx hb dX5_common_66 ?_
            refine lv_icmp_gt (tgt := 93) hx hb dX5_common_67 (by decide) (fun c10 => ?_) (fun c10 => ?_)
            · have h := e_t c10 h
              obtain rfl := e_s h
              exact hk60 _ _ _ (lv_sub hl [0] rfl) hP hD hS
            · have h := e_f c10 h
              refine lv_aload_n hx hb dX5_common_70 rfl (lv_at hl 0 rfl) ?_
              refine va_get (D := D) (ci := 5) (v := .ref (ad 56)) (C := RX5) (T := TX5) (N := 12) hx hb hts iX5 hown hK hP 0 rfl rfl 6 (Nat.le_of_ble_eq_true rfl) f47 (fun _ h9 => h9) rfl dX5_common_71 ?_
              refine lv_aload_n hx hb dX5_common_74 rfl (lv_at hl 0 rfl) ?_
              refine va_get (D := D) (ci := 5) (v := .ref (ad 7)) (C := RX5) (T := TX5) (N := 12) hx hb hts iX5 hown hK hP 0 rfl rfl 2 (Nat.le_of_ble_eq_true rfl) f26 (fun _ h9 => h9) rfl dX5_common_75 ?_
              refine va_get (D := D) (ci := 2) (v := .ref (ad 8)) (C := RX2) (T := TX2) (N := 3) hx hb hts iX2 hown hK hP 1 rfl rfl 0 (Nat.le_of_ble_eq_true rfl) f106 (fun _ h9 => h9) rfl dX5_common_78 ?_
              refine lv_iload hx hb dX5_common_81 (lv_at hl 4 rfl) ?_
              obtain ⟨v11, ev11, nv11, h⟩ := e_rd h
              refine xa_iald hx hb hK hP 2 rfl nv11 ev11 dX5_common_83 ?_
              obtain ⟨q12, eq12, h⟩ := e_b h
              refine xv_v (As := [.int v11]) (rest := []) (ci := 3) (b := ad 56) ⟨hx, hb, hml, hown, hts⟩ hl.1 (kX3_push l D cA (fun i => ad (56 + i)) aside v11  _ eq12) (cwV 1 hts gX5_common_X3_push rfl rfl rfl (by decide +kernel) ⟨Nat.le_of_ble_eq_true rfl, Nat.le_of_ble_eq_true rfl⟩) rfl hK hP hD hS hA 9 rfl rfl rfl [9, 10, 11, 12, 13] rfl (by decide +kernel) rfl (Nat.le_of_ble_eq_true rfl) dX5_common_84 ⟨Nat.zero_le _, Nat.zero_le _⟩ (fun H locs hP hD hS => ?_)
              have hP : va_P D vwCl (wD_row_tally_aside cA ad block ties lines pmn row tally q12) H := hP
              have hD : va_D A (wD_row_tally_aside cA ad block ties lines pmn row tally q12) := hD
              refine lv_iinc (v := (x4 + 1)) (lv' := [(4, .int (x4 + 1)), (0, .ref (ad 0)), (1, .int x1), (2, .int x2), (3, .int x3)]) hx hb dX5_common_87 hl (k := 4) rfl rfl (by decide) rfl (fun ls hl => ?_)
              refine lv_goto (tgt := 60) hx hb dX5_common_90 (by decide) ?_
              exact ih60 x1 x2 x3 (x4 + 1) block ties lines pmn row tally q12 z9 _ _ _ (lv_sub hl [1, 2, 3, 4, 0] rfl) hP hD hS h hk60
        obtain ⟨z13, ez13, h⟩ := e_b h
        refine hL60 FU x1 x2 x3 x3 block ties lines pmn row q7 q8 z13 _ _ _ (lv_sub hl [1, 2, 3, 4, 0] rfl) hP hD hS ez13 (fun ls H locs hl hP hD hS => ?_)
        refine lv_iconst (v := 0) hx hb dX5_common_93 (by decide) ?_
        refine lv_istore (lv' := [(4, .int 0), (0, .ref (ad 0))]) hx hb dX5_common_94 hl (by decide) rfl (fun ls hl => ?_)
        refine lv_iconst (v := 0) hx hb dX5_common_96 (by decide) ?_
        refine lv_istore (lv' := [(5, .int 0), (4, .int 0), (0, .ref (ad 0))]) hx hb dX5_common_97 hl (by decide) rfl (fun ls hl => ?_)
        have hL99 : ∀ (n : Nat) (x4 : Int32) (x5 : Int32) (block : Int32) (ties : Int32) (lines : Int32) (pmn : Int32) (row : RowT) (tally : TalT) (aside : TalT) (z14 : Int32) (ls : Array Slot) (H : Heap) (locs : List Loc), lv_has ls 7 [(0, .ref (ad 0)), (4, .int x4), (5, .int x5)] → va_P D vwCl (wD_row_tally_aside cA ad block ties lines pmn row tally aside) H → va_D A (wD_row_tally_aside cA ad block ties lines pmn row tally aside) → va_S A s.heap H locs → mX5_common_L99 tally aside n x4 x5 = some z14 → (∀ (ls : Array Slot) (H : Heap) (locs : List Loc), lv_has ls 7 [(4, .int z14)] → va_P D vwCl (wD_row_tally_aside cA ad block ties lines pmn row tally aside) H → va_D A (wD_row_tally_aside cA ad block ties lines pmn row tally aside) → va_S A s.heap H locs → W p l e (headSpec wsX5_common { frames := 3, cells := 0, slots := 0, locals := 66 }).room s m args below meth c H locs 0 0 Q (F0 m 157 ls [])) → W p l e (headSpec wsX5_common { frames := 3, cells := 0, slots := 0, locals := 66 }).room s m args below meth c H locs 0 0 Q (F0 m 99 ls []) := by
          intro n
          induction n with
          | zero => intro x4 x5 block ties lines pmn row tally aside z14 ls H locs hl hP hD hS h hk99; exact e_n h
          | succ n ih99 =>
            intro x4 x5 block ties lines pmn row tally aside z14 ls H locs hl hP hD hS h hk99
            rw [mX5_common_L99.eq_2] at h
            refine lv_iload hx hb dX5_common_99 (lv_at hl 2 rfl) ?_
            refine lv_aload_n hx hb dX5_common_101 rfl (lv_at hl 0 rfl) ?_
            refine va_get (D := D) (ci := 5) (v := .ref (ad 51)) (C := RX5) (T := TX5) (N := 12) hx hb hts iX5 hown hK hP 0 rfl rfl 5 (Nat.le_of_ble_eq_true rfl) f43 (fun _ h9 => h9) rfl dX5_common_102 ?_
            refine va_get (D := D) (ci := 3) (v := .int tally.2.2.2.2.1) (C := RX3) (T := TX3) (N := 8) hx hb hts iX3 hown hK hP 4 rfl rfl 4 (Nat.le_of_ble_eq_true rfl) f182 (fun _ h9 => h9) rfl dX5_common_105 ?_
            refine lv_icmp_ge (tgt := 157) hx hb dX5_common_108 (by decide) (fun c15 => ?_) (fun c15 => ?_)
            · have h := e_t c15 h
              obtain rfl := e_s h
              exact hk99 _ _ _ (lv_sub hl [1] rfl) hP hD hS
            · have h := e_f c15 h
              refine lv_aload_n hx hb dX5_common_111 rfl (lv_at hl 0 rfl) ?_
              refine va_get (D := D) (ci := 5) (v := .ref (ad 51)) (C := RX5) (T := TX5) (N := 12) hx hb hts iX5 hown hK hP 0 rfl rfl 5 (Nat.le_of_ble_eq_true rfl) f43 (fun _ h9 => h9) rfl dX5_common_112 ?_
              refine va_get (D := D) (ci := 3) (v := .ref (ad 55)) (C := RX3) (T := TX3) (N := 8) hx hb hts iX3 hown hK hP 4 rfl rfl 3 (Nat.le_of_ble_eq_true rfl) f187 (fun _ h9 => h9) rfl dX5_common_115 ?_
              refine lv_iload hx hb dX5_common_118 (lv_at hl 2 rfl) ?_
              obtain ⟨v16, ev16, nv16, h⟩ := e_rd h
              refine xa_iald hx hb hK hP 8 rfl nv16 ev16 dX5_common_120 ?_
              refine lv_istore (lv' := [(6, .int v16), (0, .ref (ad 0)), (4, .int x4), (5, .int x5)]) hx hb dX5_common_121 hl (by decide) rfl (fun ls hl => ?_)
              refine lv_iload hx hb dX5_common_123 (lv_at hl 2 rfl) ?_
              refine lv_aload_n hx hb dX5_common_125 rfl (lv_at hl 1 rfl) ?_
              refine va_get (D := D) (ci := 5) (v := .ref (ad 51)) (C := RX5) (T := TX5) (N := 12) hx hb hts iX5 hown hK hP 0 rfl rfl 5 (Nat.le_of_ble_eq_true rfl) f43 (fun _ h9 => h9) rfl dX5_common_126 ?_
              refine va_get (D := D) (ci := 3) (v := .ref (ad 52)) (C := RX3) (T := TX3) (N := 8) hx hb hts iX3 hown hK hP 4 rfl rfl 0 (Nat.le_of_ble_eq_true rfl) f190 (fun _ h9 => h9) rfl dX5_common_129 ?_
              refine lv_iload hx hb dX5_common_132 (lv_at hl 0 rfl) ?_
              obtain ⟨v17, ev17, nv17, h⟩ := e_rd h
              refine xa_iald hx hb hK hP 5 rfl nv17 ev17 dX5_common_134 ?_
              refine lv_aload_n hx hb dX5_common_135 rfl (lv_at hl 1 rfl) ?_
              refine va_get (D := D) (ci := 5) (v := .ref (ad 56)) (C := RX5) (T := TX5) (N := 12) hx hb hts iX5 hown hK hP 0 rfl rfl 6 (Nat.le_of_ble_eq_true rfl) f47 (fun _ h9 => h9) rfl dX5_common_136 ?_
              refine va_get (D := D) (ci := 3) (v := .ref (ad 57)) (C := RX3) (T := TX3) (N := 8) hx hb hts iX3 hown hK hP 9 rfl rfl 0 (Nat.le_of_ble_eq_true rfl) f190 (fun _ h9 => h9) rfl dX5_common_139 ?_
              refine lv_iload hx hb dX5_common_142 (lv_at hl 0 rfl) ?_
              obtain ⟨v18, ev18, nv18, h⟩ := e_rd h
              refine xa_iald hx hb hK hP 10 rfl nv18 ev18 dX5_common_144 ?_
              refine va_mmin hx hb (by rw [hml, hl.1]) hown (hts (.methodLink RX5 234 Lib.Math.min.name) (by decide +kernel)) (hts (.static Lib.Math.min.name) (by decide +kernel)) (hts (.initialized "java/lang/Math") (by decide +kernel)) (hts (.code Lib.Math.min.name Lib.Math.min.code 2 (some .int)) (by decide +kernel)) (Nat.le_of_ble_eq_true rfl) (Nat.le_of_ble_eq_true rfl) (Nat.zero_le _) (Nat.zero_le _) dX5_common_145 ?_
              refine lv_iadd hx hb dX5_common_148 ?_
              refine lv_istore (lv' := [(4, .int (x4 + (if v18 < v17 then v18 else v17))), (6, .int v16), (0, .ref (ad 0)), (5, .int x5)]) hx hb dX5_common_149 hl (by decide) rfl (fun ls hl => ?_)
              refine lv_iinc (v := (x5 + 1)) (lv' := [(5, .int (x5 + 1)), (4, .int (x4 + (if v18 < v17 then v18 else v17))), (6, .int v16), (0, .ref (ad 0))]) hx hb dX5_common_151 hl (k := 3) rfl rfl (by decide) rfl (fun ls hl => ?_)
              refine lv_goto (tgt := 99) hx hb dX5_common_154 (by decide) ?_
              exact ih99 (x4 + (if v18 < v17 then v18 else v17)) (x5 + 1) block ties lines pmn row tally aside z14 _ _ _ (lv_sub hl [3, 1, 0] rfl) hP hD hS h hk99
        obtain ⟨z19, ez19, h⟩ := e_b h
        refine hL99 FU 0 0 block ties lines pmn row q7 z13 z19 _ _ _ (lv_sub hl [2, 1, 0] rfl) hP hD hS ez19 (fun ls H locs hl hP hD hS => ?_)
        refine lv_iload hx hb dX5_common_157 (lv_at hl 0 rfl) ?_
        obtain rfl := e_s h
        exact hret hP hS rfl dX5_common_159
      · have h := e_f (not_not_intro c6) h
        refine lv_iconst (v := (-1)) hx hb dX5_common_38 (by decide) ?_
        obtain rfl := e_s h
        exact hret hP hS rfl dX5_common_39
set_option maxHeartbeats 4000000 in
set_option maxRecDepth 100000 in
theorem kX5_together (l : Launch) (D : va_G) (cA : Nat → ClassId) (ad : Nat → Nat) (block : Int32) (ties : Int32) (lines : Int32) (pmn : Int32) (row : RowT) (tally : TalT) (x1 : Int32) (x2 : Int32) (x3 : Int32) (x4 : Int32) (x5 : Int32) (q : Int32 × TalT) (h : mX5_together ties row tally x1 x2 x3 x4 x5 = some q) : MI l yX5_together wsX5_together { frames := 3, cells := 0, slots := 0, locals := 66 } D cA .int [.ref (ad 0), .int x1, .int x2, .int x3, .int x4, .int x5] (wD_row_tally cA ad block ties lines pmn row tally) (wD_row_tally cA ad block ties lines pmn row q.2) q.1 := by
  refine MI.of (cc := cX5_together) (maxL := 7) (by decide +kernel) rfl rfl rfl (Nat.le_of_ble_eq_true rfl) ?_
  intro p e s m args below meth c A ls Q hx hb hml hts hown hK hP hD hA hS hl hret
  have hl : lv_has ls 7 [(0, .ref (ad 0)), (1, .int x1), (2, .int x2), (3, .int x3), (4, .int x4), (5, .int x5)] := hl
  have f106 := hts (.fieldLink RX5 106 "ModeDesk$Row" "values" "[I") (by decide +kernel)
  have f176 := hts (.fieldLink RX5 176 "ModeDesk$Tally" "best" "I") (by decide +kernel)
  have f26 := hts (.fieldLink RX5 26 "ModeDesk" "row" "LModeDesk$Row;") (by decide +kernel)
  have f43 := hts (.fieldLink RX5 43 "ModeDesk" "tally" "LModeDesk$Tally;") (by decide +kernel)
  have iX2 : ∀ w ∈ wsX20, w ∈ wsX5_together := by decide +kernel
  have iX3 : ∀ w ∈ wsX30, w ∈ wsX5_together := by decide +kernel
  have iX5 : ∀ w ∈ wsX50, w ∈ wsX5_together := by decide +kernel
  unfold mX5_together at h
  refine lv_aload_n hx hb dX5_together_0 rfl (lv_at hl 0 rfl) ?_
  refine va_get (D := D) (ci := 5) (v := .ref (ad 7)) (C := RX5) (T := TX5) (N := 12) hx hb hts iX5 hown hK hP 0 rfl rfl 2 (Nat.le_of_ble_eq_true rfl) f26 (fun _ h9 => h9) rfl dX5_together_1 ?_
  refine lv_iload_n hx hb dX5_together_4 rfl (lv_at hl 1 rfl) ?_
  refine lv_iload_n hx hb dX5_together_5 rfl (lv_at hl 2 rfl) ?_
  obtain ⟨q1, eq1, h⟩ := e_b h
  refine xv_i (As := [.int x1, .int x2]) (rest := []) (ci := 2) (b := ad 7) ⟨hx, hb, hml, hown, hts⟩ hl.1 (kX2_hasSpan l D cA (fun i => ad (7 + i)) row x1 x2  _ eq1) (cwV 2 hts gX5_together_X2_hasSpan rfl rfl rfl (by decide +kernel) ⟨Nat.le_of_ble_eq_true rfl, Nat.le_of_ble_eq_true rfl⟩) rfl hK hP hD hS hA 1 rfl rfl rfl [1, 2, 3] rfl (by decide +kernel) rfl (Nat.le_of_ble_eq_true rfl) dX5_together_6 ⟨Nat.zero_le _, Nat.zero_le _⟩ (fun H locs hP hD hS hnq1 => ?_)
  have hP : va_P D vwCl (wD_row_tally cA ad block ties lines pmn row tally) H := hP
  have hD : va_D A (wD_row_tally cA ad block ties lines pmn row tally) := hD
  refine lv_if_eq (tgt := 34) hx hb dX5_together_9 (by decide) (fun c2 => ?_) (fun c2 => ?_)
  · have h := e_t c2 h
    refine lv_iconst (v := (-1)) hx hb dX5_together_34 (by decide) ?_
    obtain rfl := e_s h
    exact hret hP hS rfl dX5_together_35
  · have h := e_f c2 h
    refine lv_aload_n hx hb dX5_together_12 rfl (lv_at hl 0 rfl) ?_
    refine va_get (D := D) (ci := 5) (v := .ref (ad 7)) (C := RX5) (T := TX5) (N := 12) hx hb hts iX5 hown hK hP 0 rfl rfl 2 (Nat.le_of_ble_eq_true rfl) f26 (fun _ h9 => h9) rfl dX5_together_13 ?_
    refine lv_iload_n hx hb dX5_together_16 rfl (lv_at hl 3 rfl) ?_
    refine lv_iload hx hb dX5_together_17 (lv_at hl 4 rfl) ?_
    obtain ⟨q3, eq3, h⟩ := e_b h
    refine xv_i (As := [.int x3, .int x4]) (rest := []) (ci := 2) (b := ad 7) ⟨hx, hb, hml, hown, hts⟩ hl.1 (kX2_hasSpan l D cA (fun i => ad (7 + i)) row x3 x4  _ eq3) (cwV 2 hts gX5_together_X2_hasSpan rfl rfl rfl (by decide +kernel) ⟨Nat.le_of_ble_eq_true rfl, Nat.le_of_ble_eq_true rfl⟩) rfl hK hP hD hS hA 1 rfl rfl rfl [1, 2, 3] rfl (by decide +kernel) rfl (Nat.le_of_ble_eq_true rfl) dX5_together_19 ⟨Nat.zero_le _, Nat.zero_le _⟩ (fun H locs hP hD hS hnq3 => ?_)
    have hP : va_P D vwCl (wD_row_tally cA ad block ties lines pmn row tally) H := hP
    have hD : va_D A (wD_row_tally cA ad block ties lines pmn row tally) := hD
    refine lv_if_eq (tgt := 34) hx hb dX5_together_22 (by decide) (fun c4 => ?_) (fun c4 => ?_)
    · have h := e_t c4 h
      refine lv_iconst (v := (-1)) hx hb dX5_together_34 (by decide) ?_
      obtain rfl := e_s h
      exact hret hP hS rfl dX5_together_35
    · have h := e_f c4 h
      refine lv_iload hx hb dX5_together_25 (lv_at hl 5 rfl) ?_
      refine lv_iconst (v := 2) hx hb dX5_together_27 (by decide) ?_
      obtain ⟨q5, eq5, h⟩ := e_b h
      refine xs_i (As := [.int x5, .int 2]) (rest := []) ⟨hx, hb, hml, hown, hts⟩ hl.1 (kX5_isBelow l D cA   x5 2  _ eq5) (va_cwS 2 hts gX5_together_X5_isBelow rfl rfl rfl (by decide +kernel) ⟨Nat.le_of_ble_eq_true rfl, Nat.le_of_ble_eq_true rfl⟩) rfl hK hP hD hS hA [] rfl (by decide +kernel) rfl (Nat.le_of_ble_eq_true rfl) dX5_together_28 ⟨Nat.zero_le _, Nat.zero_le _⟩ (fun H locs hP hD hS hnq5 => ?_)
      have hP : va_P D vwCl (wD_row_tally cA ad block ties lines pmn row tally) H := hP
      have hD : va_D A (wD_row_tally cA ad block ties lines pmn row tally) := hD
      refine lv_if_ne (tgt := 36) hx hb dX5_together_31 (by decide) (fun c6 => ?_) (fun c6 => ?_)
      · have h := e_t c6 h
        refine lv_aload_n hx hb dX5_together_36 rfl (lv_at hl 0 rfl) ?_
        refine lv_iload_n hx hb dX5_together_37 rfl (lv_at hl 1 rfl) ?_
        refine lv_iload_n hx hb dX5_together_38 rfl (lv_at hl 2 rfl) ?_
        obtain ⟨q7, eq7, h⟩ := e_b h
        refine xv_v0 (As := [.int x1, .int x2]) (rest := []) (ci := 5) (b := ad 0) ⟨hx, hb, hml, hown, hts⟩ hl.1 (kX5_tallySpan l D cA ad block ties lines pmn row tally x1 x2  _ eq7) (cwV 2 hts gX5_together_X5_tallySpan rfl rfl rfl (by decide +kernel) ⟨Nat.le_of_ble_eq_true rfl, Nat.le_of_ble_eq_true rfl⟩) rfl hK hP hD hS hA 0 rfl rfl rfl rfl (Nat.le_of_ble_eq_true rfl) dX5_together_39 ⟨Nat.zero_le _, Nat.zero_le _⟩ (fun H locs hP hD hS => ?_)
        have hP : va_P D vwCl (wD_row_tally cA ad block ties lines pmn row q7) H := hP
        have hD : va_D A (wD_row_tally cA ad block ties lines pmn row q7) := hD
        refine lv_iload_n hx hb dX5_together_42 rfl (lv_at hl 3 rfl) ?_
        refine lv_istore (lv' := [(6, .int x3), (0, .ref (ad 0)), (1, .int x1), (2, .int x2), (3, .int x3), (4, .int x4), (5, .int x5)]) hx hb dX5_together_43 hl (by decide) rfl (fun ls hl => ?_)
        have hL45 : ∀ (n : Nat) (x1 : Int32) (x2 : Int32) (x4 : Int32) (x5 : Int32) (x6 : Int32) (block : Int32) (ties : Int32) (lines : Int32) (pmn : Int32) (row : RowT) (tally : TalT) (z8 : TalT) (ls : Array Slot) (H : Heap) (locs : List Loc), lv_has ls 7 [(0, .ref (ad 0)), (1, .int x1), (2, .int x2), (4, .int x4), (5, .int x5), (6, .int x6)] → va_P D vwCl (wD_row_tally cA ad block ties lines pmn row tally) H → va_D A (wD_row_tally cA ad block ties lines pmn row tally) → va_S A s.heap H locs → mX5_together_L45 row x1 x2 x4 n x6 tally = some z8 → (∀ (ls : Array Slot) (H : Heap) (locs : List Loc), lv_has ls 7 [(0, .ref (ad 0)), (5, .int x5)] → va_P D vwCl (wD_row_tally cA ad block ties lines pmn row z8) H → va_D A (wD_row_tally cA ad block ties lines pmn row z8) → va_S A s.heap H locs → W p l e (headSpec wsX5_together { frames := 3, cells := 0, slots := 0, locals := 66 }).room s m args below meth c H locs 0 0 Q (F0 m 87 ls [])) → W p l e (headSpec wsX5_together { frames := 3, cells := 0, slots := 0, locals := 66 }).room s m args below meth c H locs 0 0 Q (F0 m 45 ls []) := by
          intro n
          induction n with
          | zero => intro x1 x2 x4 x5 x6 block ties lines pmn row tally z8 ls H locs hl hP hD hS h hk45; exact e_n h
          | succ n ih45 =>
            intro x1 x2 x4 x5 x6 block ties lines pmn row tally z8 ls H locs hl hP hD hS h hk45
            rw [mX5_together_L45.eq_2] at h
            refine lv_iload hx hb dX5_together_45 (lv_at hl 5 rfl) ?_
            refine lv_iload hx hb dX5_together_47 (lv_at hl 3 rfl) ?_
            refine lv_icmp_gt (tgt := 87) hx hb dX5_together_49 (by decide) (fun c9 => ?_) (fun c9 => ?_)
            · have h := e_t c9 h
              obtain rfl := e_s h
              exact hk45 _ _ _ (lv_sub hl [0, 4] rfl) hP hD hS
            · have h := e_f c9 h
              refine lv_iload hx hb dX5_together_52 (lv_at hl 5 rfl) ?_
              refine lv_iload_n hx hb dX5_together_54 rfl (lv_at hl 1 rfl) ?_
              refine lv_icmp_lt (tgt := 64) hx hb dX5_together_55 (by decide) (fun c10 => ?_) (fun c10 => ?_)
              · have h := e_t c10 h
                refine lv_aload_n hx hb dX5_together_64 rfl (lv_at hl 0 rfl) ?_
                refine va_get (D := D) (ci := 5) (v := .ref (ad 51)) (C := RX5) (T := TX5) (N := 12) hx hb hts iX5 hown hK hP 0 rfl rfl 5 (Nat.le_of_ble_eq_true rfl) f43 (fun _ h9 => h9) rfl dX5_together_65 ?_
                refine lv_aload_n hx hb dX5_together_68 rfl (lv_at hl 0 rfl) ?_
                refine va_get (D := D) (ci := 5) (v := .ref (ad 7)) (C := RX5) (T := TX5) (N := 12) hx hb hts iX5 hown hK hP 0 rfl rfl 2 (Nat.le_of_ble_eq_true rfl) f26 (fun _ h9 => h9) rfl dX5_together_69 ?_
                refine va_get (D := D) (ci := 2) (v := .ref (ad 8)) (C := RX2) (T := TX2) (N := 3) hx hb hts iX2 hown hK hP 1 rfl rfl 0 (Nat.le_of_ble_eq_true rfl) f106 (fun _ h9 => h9) rfl dX5_together_72 ?_
                refine lv_iload hx hb dX5_together_75 (lv_at hl 5 rfl) ?_
                obtain ⟨v11, ev11, nv11, h⟩ := e_rd h
                refine xa_iald hx hb hK hP 2 rfl nv11 ev11 dX5_together_77 ?_
                obtain ⟨q12, eq12, h⟩ := e_b h
                refine xv_v (As := [.int v11]) (rest := []) (ci := 3) (b := ad 51) ⟨hx, hb, hml, hown, hts⟩ hl.1 (kX3_push l D cA (fun i => ad (51 + i)) tally v11  _ eq12) (cwV 1 hts gX5_together_X3_push rfl rfl rfl (by decide +kernel) ⟨Nat.le_of_ble_eq_true rfl, Nat.le_of_ble_eq_true rfl⟩) rfl hK hP hD hS hA 4 rfl rfl rfl [4, 5, 6, 7, 8] rfl (by decide +kernel) rfl (Nat.le_of_ble_eq_true rfl) dX5_together_78 ⟨Nat.zero_le _, Nat.zero_le _⟩ (fun H locs hP hD hS => ?_)
                have hP : va_P D vwCl (wD_row_tally cA ad block ties lines pmn row q12) H := hP
                have hD : va_D A (wD_row_tally cA ad block ties lines pmn row q12) := hD
                refine lv_iinc (v := (x6 + 1)) (lv' := [(6, .int (x6 + 1)), (0, .ref (ad 0)), (1, .int x1), (2, .int x2), (4, .int x4), (5, .int x5)]) hx hb dX5_together_81 hl (k := 5) rfl rfl (by decide) rfl (fun ls hl => ?_)
                refine lv_goto (tgt := 45) hx hb dX5_together_84 (by decide) ?_
                exact ih45 x1 x2 x4 x5 (x6 + 1) block ties lines pmn row q12 z8 _ _ _ (lv_sub hl [1, 2, 3, 4, 5, 0] rfl) hP hD hS h hk45
              · have h := e_f c10 h
                refine lv_iload hx hb dX5_together_58 (lv_at hl 5 rfl) ?_
                refine lv_iload_n hx hb dX5_together_60 rfl (lv_at hl 2 rfl) ?_
                refine lv_icmp_le (tgt := 81) hx hb dX5_together_61 (by decide) (fun c13 => ?_) (fun c13 => ?_)
                · have h := e_t c13 h
                  refine lv_iinc (v := (x6 + 1)) (lv' := [(6, .int (x6 + 1)), (0, .ref (ad 0)), (1, .int x1), (2, .int x2), (4, .int x4), (5, .int x5)]) hx hb dX5_together_81 hl (k := 5) rfl rfl (by decide) rfl (fun ls hl => ?_)
                  refine lv_goto (tgt := 45) hx hb dX5_together_84 (by decide) ?_
                  exact ih45 x1 x2 x4 x5 (x6 + 1) block ties lines pmn row tally z8 _ _ _ (lv_sub hl [1, 2, 3, 4, 5, 0] rfl) hP hD hS h hk45
                · have h := e_f c13 h
                  refine lv_aload_n hx hb dX5_together_64 rfl (lv_at hl 0 rfl) ?_
                  refine va_get (D := D) (ci := 5) (v := .ref (ad 51)) (C := RX5) (T := TX5) (N := 12) hx hb hts iX5 hown hK hP 0 rfl rfl 5 (Nat.le_of_ble_eq_true rfl) f43 (fun _ h9 => h9) rfl dX5_together_65 ?_
                  refine lv_aload_n hx hb dX5_together_68 rfl (lv_at hl 0 rfl) ?_
                  refine va_get (D := D) (ci := 5) (v := .ref (ad 7)) (C := RX5) (T := TX5) (N := 12) hx hb hts iX5 hown hK hP 0 rfl rfl 2 (Nat.le_of_ble_eq_true rfl) f26 (fun _ h9 => h9) rfl dX5_together_69 ?_
                  refine va_get (D := D) (ci := 2) (v := .ref (ad 8)) (C := RX2) (T := TX2) (N := 3) hx hb hts iX2 hown hK hP 1 rfl rfl 0 (Nat.le_of_ble_eq_true rfl) f106 (fun _ h9 => h9) rfl dX5_together_72 ?_
                  refine lv_iload hx hb dX5_together_75 (lv_at hl 5 rfl) ?_
                  obtain ⟨v14, ev14, nv14, h⟩ := e_rd h
                  refine xa_iald hx hb hK hP 2 rfl nv14 ev14 dX5_together_77 ?_
                  obtain ⟨q15, eq15, h⟩ := e_b h
                  refine xv_v (As := [.int v14]) (rest := []) (ci := 3) (b := ad 51) ⟨hx, hb, hml, hown, hts⟩ hl.1 (kX3_push l D cA (fun i => ad (51 + i)) tally v14  _ eq15) (cwV 1 hts gX5_together_X3_push rfl rfl rfl (by decide +kernel) ⟨Nat.le_of_ble_eq_true rfl, Nat.le_of_ble_eq_true rfl⟩) rfl hK hP hD hS hA 4 rfl rfl rfl [4, 5, 6, 7, 8] rfl (by decide +kernel) rfl (Nat.le_of_ble_eq_true rfl) dX5_together_78 ⟨Nat.zero_le _, Nat.zero_le _⟩ (fun H locs hP hD hS => ?_)
                  have hP : va_P D vwCl (wD_row_tally cA ad block ties lines pmn row q15) H := hP
                  have hD : va_D A (wD_row_tally cA ad block ties lines pmn row q15) := hD
                  refine lv_iinc (v := (x6 + 1)) (lv' := [(6, .int (x6 + 1)), (0, .ref (ad 0)), (1, .int x1), (2, .int x2), (4, .int x4), (5, .int x5)]) hx hb dX5_together_81 hl (k := 5) rfl rfl (by decide) rfl (fun ls hl => ?_)
                  refine lv_goto (tgt := 45) hx hb dX5_together_84 (by decide) ?_
                  exact ih45 x1 x2 x4 x5 (x6 + 1) block ties lines pmn row q15 z8 _ _ _ (lv_sub hl [1, 2, 3, 4, 5, 0] rfl) hP hD hS h hk45
        obtain ⟨z16, ez16, h⟩ := e_b h
        refine hL45 FU x1 x2 x4 x5 x3 block ties lines pmn row q7 z16 _ _ _ (lv_sub hl [1, 2, 3, 5, 6, 0] rfl) hP hD hS ez16 (fun ls H locs hl hP hD hS => ?_)
        refine lv_aload_n hx hb dX5_together_87 rfl (lv_at hl 0 rfl) ?_
        refine va_get (D := D) (ci := 5) (v := .ref (ad 51)) (C := RX5) (T := TX5) (N := 12) hx hb hts iX5 hown hK hP 0 rfl rfl 5 (Nat.le_of_ble_eq_true rfl) f43 (fun _ h9 => h9) rfl dX5_together_88 ?_
        refine lv_aload_n hx hb dX5_together_91 rfl (lv_at hl 0 rfl) ?_
        refine va_get (D := D) (ci := 5) (v := .ref (ad 51)) (C := RX5) (T := TX5) (N := 12) hx hb hts iX5 hown hK hP 0 rfl rfl 5 (Nat.le_of_ble_eq_true rfl) f43 (fun _ h9 => h9) rfl dX5_together_92 ?_
        refine va_get (D := D) (ci := 3) (v := .int z16.2.2.2.2.2.2.1) (C := RX3) (T := TX3) (N := 8) hx hb hts iX3 hown hK hP 4 rfl rfl 6 (Nat.le_of_ble_eq_true rfl) f176 (fun _ h9 => h9) rfl dX5_together_95 ?_
        refine lv_iload hx hb dX5_together_98 (lv_at hl 1 rfl) ?_
        refine lv_iconst (v := 0) hx hb dX5_together_100 (by decide) ?_
        obtain ⟨q17, eq17, h⟩ := e_b h
        refine xv_i (As := [.int z16.2.2.2.2.2.2.1, .int x5, .int 0]) (rest := []) (ci := 3) (b := ad 51) ⟨hx, hb, hml, hown, hts⟩ hl.1 (kX3_told l D cA (fun i => ad (51 + i)) z16 z16.2.2.2.2.2.2.1 x5 0  _ eq17) (cwV 3 hts gX5_together_X3_told rfl rfl rfl (by decide +kernel) ⟨Nat.le_of_ble_eq_true rfl, Nat.le_of_ble_eq_true rfl⟩) rfl hK hP hD hS hA 4 rfl rfl rfl [4, 5, 6, 7, 8] rfl (by decide +kernel) rfl (Nat.le_of_ble_eq_true rfl) dX5_together_101 ⟨Nat.zero_le _, Nat.zero_le _⟩ (fun H locs hP hD hS hnq17 => ?_)
        have hP : va_P D vwCl (wD_row_tally cA ad block ties lines pmn row z16) H := hP
        have hD : va_D A (wD_row_tally cA ad block ties lines pmn row z16) := hD
        obtain rfl := e_s h
        exact hret hP hS rfl dX5_together_104
      · have h := e_f (not_not_intro c6) h
        refine lv_iconst (v := (-1)) hx hb dX5_together_34 (by decide) ?_
        obtain rfl := e_s h
        exact hret hP hS rfl dX5_together_35
set_option maxHeartbeats 4000000 in
set_option maxRecDepth 100000 in
theorem kX5_agree (l : Launch) (D : va_G) (cA : Nat → ClassId) (ad : Nat → Nat) (block : Int32) (ties : Int32) (lines : Int32) (pmn : Int32) (row : RowT) (tally : TalT) (x1 : Int32) (x2 : Int32) (x3 : Int32) (q : Int32 × TalT) (h : mX5_agree ties row tally x1 x2 x3 = some q) : MI l yX5_agree wsX5_agree { frames := 4, cells := 0, slots := 0, locals := 88 } D cA .int [.ref (ad 0), .int x1, .int x2, .int x3] (wD_row_tally cA ad block ties lines pmn row tally) (wD_row_tally cA ad block ties lines pmn row q.2) q.1 := by
  refine MI.of (cc := cX5_agree) (maxL := 4) (by decide +kernel) rfl rfl rfl (Nat.le_of_ble_eq_true rfl) ?_
  intro p e s m args below meth c A ls Q hx hb hml hts hown hK hP hD hA hS hl hret
  have hl : lv_has ls 4 [(0, .ref (ad 0)), (1, .int x1), (2, .int x2), (3, .int x3)] := hl
  have f26 := hts (.fieldLink RX5 26 "ModeDesk" "row" "LModeDesk$Row;") (by decide +kernel)
  have iX5 : ∀ w ∈ wsX50, w ∈ wsX5_agree := by decide +kernel
  unfold mX5_agree at h
  refine lv_aload_n hx hb dX5_agree_0 rfl (lv_at hl 0 rfl) ?_
  refine va_get (D := D) (ci := 5) (v := .ref (ad 7)) (C := RX5) (T := TX5) (N := 12) hx hb hts iX5 hown hK hP 0 rfl rfl 2 (Nat.le_of_ble_eq_true rfl) f26 (fun _ h9 => h9) rfl dX5_agree_1 ?_
  refine lv_iload_n hx hb dX5_agree_4 rfl (lv_at hl 1 rfl) ?_
  refine lv_iload_n hx hb dX5_agree_5 rfl (lv_at hl 2 rfl) ?_
  obtain ⟨q1, eq1, h⟩ := e_b h
  refine xv_i (As := [.int x1, .int x2]) (rest := []) (ci := 2) (b := ad 7) ⟨hx, hb, hml, hown, hts⟩ hl.1 (kX2_hasSpan l D cA (fun i => ad (7 + i)) row x1 x2  _ eq1) (cwV 2 hts gX5_agree_X2_hasSpan rfl rfl rfl (by decide +kernel) ⟨Nat.le_of_ble_eq_true rfl, Nat.le_of_ble_eq_true rfl⟩) rfl hK hP hD hS hA 1 rfl rfl rfl [1, 2, 3] rfl (by decide +kernel) rfl (Nat.le_of_ble_eq_true rfl) dX5_agree_6 ⟨Nat.zero_le _, Nat.zero_le _⟩ (fun H locs hP hD hS hnq1 => ?_)
  have hP : va_P D vwCl (wD_row_tally cA ad block ties lines pmn row tally) H := hP
  have hD : va_D A (wD_row_tally cA ad block ties lines pmn row tally) := hD
  refine lv_if_eq (tgt := 26) hx hb dX5_agree_9 (by decide) (fun c2 => ?_) (fun c2 => ?_)
  · have h := e_t c2 h
    refine lv_iconst (v := (-1)) hx hb dX5_agree_26 (by decide) ?_
    obtain rfl := e_s h
    exact hret hP hS rfl dX5_agree_27
  · have h := e_f c2 h
    refine lv_aload_n hx hb dX5_agree_12 rfl (lv_at hl 0 rfl) ?_
    refine va_get (D := D) (ci := 5) (v := .ref (ad 7)) (C := RX5) (T := TX5) (N := 12) hx hb hts iX5 hown hK hP 0 rfl rfl 2 (Nat.le_of_ble_eq_true rfl) f26 (fun _ h9 => h9) rfl dX5_agree_13 ?_
    refine lv_iload_n hx hb dX5_agree_16 rfl (lv_at hl 2 rfl) ?_
    refine lv_iconst (v := 1) hx hb dX5_agree_17 (by decide) ?_
    refine lv_iadd hx hb dX5_agree_18 ?_
    refine lv_iload_n hx hb dX5_agree_19 rfl (lv_at hl 3 rfl) ?_
    obtain ⟨q3, eq3, h⟩ := e_b h
    refine xv_i (As := [.int (x2 + 1), .int x3]) (rest := []) (ci := 2) (b := ad 7) ⟨hx, hb, hml, hown, hts⟩ hl.1 (kX2_hasSpan l D cA (fun i => ad (7 + i)) row (x2 + 1) x3  _ eq3) (cwV 2 hts gX5_agree_X2_hasSpan rfl rfl rfl (by decide +kernel) ⟨Nat.le_of_ble_eq_true rfl, Nat.le_of_ble_eq_true rfl⟩) rfl hK hP hD hS hA 1 rfl rfl rfl [1, 2, 3] rfl (by decide +kernel) rfl (Nat.le_of_ble_eq_true rfl) dX5_agree_20 ⟨Nat.zero_le _, Nat.zero_le _⟩ (fun H locs hP hD hS hnq3 => ?_)
    have hP : va_P D vwCl (wD_row_tally cA ad block ties lines pmn row tally) H := hP
    have hD : va_D A (wD_row_tally cA ad block ties lines pmn row tally) := hD
    refine lv_if_ne (tgt := 28) hx hb dX5_agree_23 (by decide) (fun c4 => ?_) (fun c4 => ?_)
    · have h := e_t c4 h
      refine lv_aload_n hx hb dX5_agree_28 rfl (lv_at hl 0 rfl) ?_
      refine lv_iload_n hx hb dX5_agree_29 rfl (lv_at hl 1 rfl) ?_
      refine lv_iload_n hx hb dX5_agree_30 rfl (lv_at hl 2 rfl) ?_
      obtain ⟨q5, eq5, h⟩ := e_b h
      refine xv_i0 (As := [.int x1, .int x2]) (rest := []) (ci := 5) (b := ad 0) ⟨hx, hb, hml, hown, hts⟩ hl.1 (kX5_modeOf l D cA ad block ties lines pmn row tally x1 x2  _ eq5) (cwV 2 hts gX5_agree_X5_modeOf rfl rfl rfl (by decide +kernel) ⟨Nat.le_of_ble_eq_true rfl, Nat.le_of_ble_eq_true rfl⟩) rfl hK hP hD hS hA 0 rfl rfl rfl rfl (Nat.le_of_ble_eq_true rfl) dX5_agree_31 ⟨Nat.zero_le _, Nat.zero_le _⟩ (fun H locs hP hD hS hnq5 => ?_)
      have hP : va_P D vwCl (wD_row_tally cA ad block ties lines pmn row q5.2) H := hP
      have hD : va_D A (wD_row_tally cA ad block ties lines pmn row q5.2) := hD
      refine lv_aload_n hx hb dX5_agree_34 rfl (lv_at hl 0 rfl) ?_
      refine lv_iload_n hx hb dX5_agree_35 rfl (lv_at hl 2 rfl) ?_
      refine lv_iconst (v := 1) hx hb dX5_agree_36 (by decide) ?_
      refine lv_iadd hx hb dX5_agree_37 ?_
      refine lv_iload_n hx hb dX5_agree_38 rfl (lv_at hl 3 rfl) ?_
      obtain ⟨q6, eq6, h⟩ := e_b h
      refine xv_i0 (As := [.int (x2 + 1), .int x3]) (rest := [.int q5.1]) (ci := 5) (b := ad 0) ⟨hx, hb, hml, hown, hts⟩ hl.1 (kX5_modeOf l D cA ad block ties lines pmn row q5.2 (x2 + 1) x3  _ eq6) (cwV 2 hts gX5_agree_X5_modeOf rfl rfl rfl (by decide +kernel) ⟨Nat.le_of_ble_eq_true rfl, Nat.le_of_ble_eq_true rfl⟩) rfl hK hP hD hS hA 0 rfl rfl rfl rfl (Nat.le_of_ble_eq_true rfl) dX5_agree_39 ⟨Nat.zero_le _, Nat.zero_le _⟩ (fun H locs hP hD hS hnq6 => ?_)
      have hP : va_P D vwCl (wD_row_tally cA ad block ties lines pmn row q6.2) H := hP
      have hD : va_D A (wD_row_tally cA ad block ties lines pmn row q6.2) := hD
      refine lv_icmp_ne (tgt := 49) hx hb dX5_agree_42 (by decide) (fun c7 => ?_) (fun c7 => ?_)
      · have h := e_t c7 h
        refine lv_iconst (v := 0) hx hb dX5_agree_49 (by decide) ?_
        obtain rfl := e_s h
        exact hret hP hS rfl dX5_agree_50
      · have h := e_f (not_not_intro c7) h
        refine lv_iconst (v := 1) hx hb dX5_agree_45 (by decide) ?_
        refine lv_goto (tgt := 50) hx hb dX5_agree_46 (by decide) ?_
        obtain rfl := e_s h
        exact hret hP hS rfl dX5_agree_50
    · have h := e_f (not_not_intro c4) h
      refine lv_iconst (v := (-1)) hx hb dX5_agree_26 (by decide) ?_
      obtain rfl := e_s h
      exact hret hP hS rfl dX5_agree_27
set_option maxHeartbeats 4000000 in
set_option maxRecDepth 100000 in
theorem kX5_split (l : Launch) (D : va_G) (cA : Nat → ClassId) (ad : Nat → Nat) (block : Int32) (ties : Int32) (lines : Int32) (pmn : Int32) (row : RowT) (tally : TalT) (ahead : Nat → Int32) (x1 : Int32) (x2 : Int32) (x3 : Int32) (q : Int32 × TalT × (Nat → Int32)) (h : mX5_split ties row tally ahead x1 x2 x3 = some q) : MI l yX5_split wsX5_split { frames := 2, cells := 0, slots := 0, locals := 43 } D cA .int [.ref (ad 0), .int x1, .int x2, .int x3] (wD_row_tally_ahead cA ad block ties lines pmn row tally ahead) (wD_row_tally_ahead cA ad block ties lines pmn row q.2.1 q.2.2) q.1 := by
  refine MI.of (cc := cX5_split) (maxL := 7) (by decide +kernel) rfl rfl rfl (Nat.le_of_ble_eq_true rfl) ?_
  intro p e s m args below meth c A ls Q hx hb hml hts hown hK hP hD hA hS hl hret
  have hl : lv_has ls 7 [(0, .ref (ad 0)), (1, .int x1), (2, .int x2), (3, .int x3)] := hl
  have f106 := hts (.fieldLink RX5 106 "ModeDesk$Row" "values" "[I") (by decide +kernel)
  have f26 := hts (.fieldLink RX5 26 "ModeDesk" "row" "LModeDesk$Row;") (by decide +kernel)
  have f43 := hts (.fieldLink RX5 43 "ModeDesk" "tally" "LModeDesk$Tally;") (by decide +kernel)
  have f50 := hts (.fieldLink RX5 50 "ModeDesk" "ahead" "[I") (by decide +kernel)
  have f58 := hts (.fieldLink RX5 58 "ModeDesk" "ties" "I") (by decide +kernel)
  have iX2 : ∀ w ∈ wsX20, w ∈ wsX5_split := by decide +kernel
  have iX5 : ∀ w ∈ wsX50, w ∈ wsX5_split := by decide +kernel
  unfold mX5_split at h
  refine lv_aload_n hx hb dX5_split_0 rfl (lv_at hl 0 rfl) ?_
  refine va_get (D := D) (ci := 5) (v := .ref (ad 7)) (C := RX5) (T := TX5) (N := 12) hx hb hts iX5 hown hK hP 0 rfl rfl 2 (Nat.le_of_ble_eq_true rfl) f26 (fun _ h9 => h9) rfl dX5_split_1 ?_
  refine lv_iload_n hx hb dX5_split_4 rfl (lv_at hl 1 rfl) ?_
  refine lv_iload_n hx hb dX5_split_5 rfl (lv_at hl 2 rfl) ?_
  obtain ⟨q1, eq1, h⟩ := e_b h
  refine xv_i (As := [.int x1, .int x2]) (rest := []) (ci := 2) (b := ad 7) ⟨hx, hb, hml, hown, hts⟩ hl.1 (kX2_hasSpan l D cA (fun i => ad (7 + i)) row x1 x2  _ eq1) (cwV 2 hts gX5_split_X2_hasSpan rfl rfl rfl (by decide +kernel) ⟨Nat.le_of_ble_eq_true rfl, Nat.le_of_ble_eq_true rfl⟩) rfl hK hP hD hS hA 1 rfl rfl rfl [1, 2, 3] rfl (by decide +kernel) rfl (Nat.le_of_ble_eq_true rfl) dX5_split_6 ⟨Nat.zero_le _, Nat.zero_le _⟩ (fun H locs hP hD hS hnq1 => ?_)
  have hP : va_P D vwCl (wD_row_tally_ahead cA ad block ties lines pmn row tally ahead) H := hP
  have hD : va_D A (wD_row_tally_ahead cA ad block ties lines pmn row tally ahead) := hD
  refine lv_if_eq (tgt := 25) hx hb dX5_split_9 (by decide) (fun c2 => ?_) (fun c2 => ?_)
  · have h := e_t c2 h
    refine lv_iconst (v := (-1)) hx hb dX5_split_25 (by decide) ?_
    obtain rfl := e_s h
    exact hret hP hS rfl dX5_split_26
  · have h := e_f c2 h
    refine lv_iload_n hx hb dX5_split_12 rfl (lv_at hl 1 rfl) ?_
    refine lv_iload_n hx hb dX5_split_13 rfl (lv_at hl 2 rfl) ?_
    refine lv_icmp_eq (tgt := 25) hx hb dX5_split_14 (by decide) (fun c3 => ?_) (fun c3 => ?_)
    · have h := e_t c3 h
      refine lv_iconst (v := (-1)) hx hb dX5_split_25 (by decide) ?_
      obtain rfl := e_s h
      exact hret hP hS rfl dX5_split_26
    · have h := e_f c3 h
      refine lv_iload_n hx hb dX5_split_17 rfl (lv_at hl 3 rfl) ?_
      refine lv_iconst (v := 2) hx hb dX5_split_18 (by decide) ?_
      obtain ⟨q4, eq4, h⟩ := e_b h
      refine xs_i (As := [.int x3, .int 2]) (rest := []) ⟨hx, hb, hml, hown, hts⟩ hl.1 (kX5_isBelow l D cA   x3 2  _ eq4) (va_cwS 2 hts gX5_split_X5_isBelow rfl rfl rfl (by decide +kernel) ⟨Nat.le_of_ble_eq_true rfl, Nat.le_of_ble_eq_true rfl⟩) rfl hK hP hD hS hA [] rfl (by decide +kernel) rfl (Nat.le_of_ble_eq_true rfl) dX5_split_19 ⟨Nat.zero_le _, Nat.zero_le _⟩ (fun H locs hP hD hS hnq4 => ?_)
      have hP : va_P D vwCl (wD_row_tally_ahead cA ad block ties lines pmn row tally ahead) H := hP
      have hD : va_D A (wD_row_tally_ahead cA ad block ties lines pmn row tally ahead) := hD
      refine lv_if_ne (tgt := 27) hx hb dX5_split_22 (by decide) (fun c5 => ?_) (fun c5 => ?_)
      · have h := e_t c5 h
        refine lv_aload_n hx hb dX5_split_27 rfl (lv_at hl 0 rfl) ?_
        refine va_get (D := D) (ci := 5) (v := .ref (ad 51)) (C := RX5) (T := TX5) (N := 12) hx hb hts iX5 hown hK hP 0 rfl rfl 5 (Nat.le_of_ble_eq_true rfl) f43 (fun _ h9 => h9) rfl dX5_split_28 ?_
        refine lv_aload_n hx hb dX5_split_31 rfl (lv_at hl 0 rfl) ?_
        refine va_get (D := D) (ci := 5) (v := .int ties) (C := RX5) (T := TX5) (N := 12) hx hb hts iX5 hown hK hP 0 rfl rfl 9 (Nat.le_of_ble_eq_true rfl) f58 (fun _ h9 => h9) rfl dX5_split_32 ?_
        obtain ⟨q6, eq6, h⟩ := e_b h
        refine xv_v (As := [.int ties]) (rest := []) (ci := 3) (b := ad 51) ⟨hx, hb, hml, hown, hts⟩ hl.1 (kX3_begin l D cA (fun i => ad (51 + i)) tally ties  _ eq6) (cwV 1 hts gX5_split_X3_begin rfl rfl rfl (by decide +kernel) ⟨Nat.le_of_ble_eq_true rfl, Nat.le_of_ble_eq_true rfl⟩) rfl hK hP hD hS hA 4 rfl rfl rfl [4, 5, 6, 7, 8] rfl (by decide +kernel) rfl (Nat.le_of_ble_eq_true rfl) dX5_split_35 ⟨Nat.zero_le _, Nat.zero_le _⟩ (fun H locs hP hD hS => ?_)
        have hP : va_P D vwCl (wD_row_tally_ahead cA ad block ties lines pmn row q6 ahead) H := hP
        have hD : va_D A (wD_row_tally_ahead cA ad block ties lines pmn row q6 ahead) := hD
        refine lv_iload_n hx hb dX5_split_38 rfl (lv_at hl 1 rfl) ?_
        refine lv_istore (lv' := [(4, .int x1), (0, .ref (ad 0)), (1, .int x1), (2, .int x2), (3, .int x3)]) hx hb dX5_split_39 hl (by decide) rfl (fun ls hl => ?_)
        have hL41 : ∀ (n : Nat) (x1 : Int32) (x2 : Int32) (x3 : Int32) (x4 : Int32) (block : Int32) (ties : Int32) (lines : Int32) (pmn : Int32) (row : RowT) (tally : TalT) (ahead : Nat → Int32) (z7 : TalT × (Nat → Int32)) (ls : Array Slot) (H : Heap) (locs : List Loc), lv_has ls 7 [(0, .ref (ad 0)), (1, .int x1), (2, .int x2), (3, .int x3), (4, .int x4)] → va_P D vwCl (wD_row_tally_ahead cA ad block ties lines pmn row tally ahead) H → va_D A (wD_row_tally_ahead cA ad block ties lines pmn row tally ahead) → va_S A s.heap H locs → mX5_split_L41 row x2 n x4 tally ahead = some z7 → (∀ (ls : Array Slot) (H : Heap) (locs : List Loc), lv_has ls 7 [(0, .ref (ad 0)), (1, .int x1), (2, .int x2), (3, .int x3)] → va_P D vwCl (wD_row_tally_ahead cA ad block ties lines pmn row z7.1 z7.2) H → va_D A (wD_row_tally_ahead cA ad block ties lines pmn row z7.1 z7.2) → va_S A s.heap H locs → W p l e (headSpec wsX5_split { frames := 2, cells := 0, slots := 0, locals := 43 }).room s m args below meth c H locs 0 0 Q (F0 m 84 ls [])) → W p l e (headSpec wsX5_split { frames := 2, cells := 0, slots := 0, locals := 43 }).room s m args below meth c H locs 0 0 Q (F0 m 41 ls []) := by
          intro n
          induction n with
          | zero => intro x1 x2 x3 x4 block ties lines pmn row tally ahead z7 ls H locs hl hP hD hS h hk41; exact e_n h
          | succ n ih41 =>
            intro x1 x2 x3 x4 block ties lines pmn row tally ahead z7 ls H locs hl hP hD hS h hk41
            rw [mX5_split_L41.eq_2] at h
            refine lv_iload hx hb dX5_split_41 (lv_at hl 4 rfl) ?_
            refine lv_iload_n hx hb dX5_split_43 rfl (lv_at hl 2 rfl) ?_
            refine lv_icmp_ge (tgt := 84) hx hb dX5_split_44 (by decide) (fun c8 => ?_) (fun c8 => ?_)
            · have h := e_t c8 h
              obtain rfl := e_s h
              exact hk41 _ _ _ (lv_sub hl [0, 1, 2, 3] rfl) hP hD hS
            · have h := e_f c8 h
              refine lv_aload_n hx hb dX5_split_47 rfl (lv_at hl 0 rfl) ?_
              refine va_get (D := D) (ci := 5) (v := .ref (ad 51)) (C := RX5) (T := TX5) (N := 12) hx hb hts iX5 hown hK hP 0 rfl rfl 5 (Nat.le_of_ble_eq_true rfl) f43 (fun _ h9 => h9) rfl dX5_split_48 ?_
              refine lv_aload_n hx hb dX5_split_51 rfl (lv_at hl 0 rfl) ?_
              refine va_get (D := D) (ci := 5) (v := .ref (ad 7)) (C := RX5) (T := TX5) (N := 12) hx hb hts iX5 hown hK hP 0 rfl rfl 2 (Nat.le_of_ble_eq_true rfl) f26 (fun _ h9 => h9) rfl dX5_split_52 ?_
              refine va_get (D := D) (ci := 2) (v := .ref (ad 8)) (C := RX2) (T := TX2) (N := 3) hx hb hts iX2 hown hK hP 1 rfl rfl 0 (Nat.le_of_ble_eq_true rfl) f106 (fun _ h9 => h9) rfl dX5_split_55 ?_
              refine lv_iload hx hb dX5_split_58 (lv_at hl 4 rfl) ?_
              obtain ⟨v9, ev9, nv9, h⟩ := e_rd h
              refine xa_iald hx hb hK hP 2 rfl nv9 ev9 dX5_split_60 ?_
              obtain ⟨q10, eq10, h⟩ := e_b h
              refine xv_v (As := [.int v9]) (rest := []) (ci := 3) (b := ad 51) ⟨hx, hb, hml, hown, hts⟩ hl.1 (kX3_push l D cA (fun i => ad (51 + i)) tally v9  _ eq10) (cwV 1 hts gX5_split_X3_push rfl rfl rfl (by decide +kernel) ⟨Nat.le_of_ble_eq_true rfl, Nat.le_of_ble_eq_true rfl⟩) rfl hK hP hD hS hA 4 rfl rfl rfl [4, 5, 6, 7, 8] rfl (by decide +kernel) rfl (Nat.le_of_ble_eq_true rfl) dX5_split_61 ⟨Nat.zero_le _, Nat.zero_le _⟩ (fun H locs hP hD hS => ?_)
              have hP : va_P D vwCl (wD_row_tally_ahead cA ad block ties lines pmn row q10 ahead) H := hP
              have hD : va_D A (wD_row_tally_ahead cA ad block ties lines pmn row q10 ahead) := hD
              refine lv_aload_n hx hb dX5_split_64 rfl (lv_at hl 0 rfl) ?_
              refine va_get (D := D) (ci := 5) (v := .ref (ad 61)) (C := RX5) (T := TX5) (N := 12) hx hb hts iX5 hown hK hP 0 rfl rfl 7 (Nat.le_of_ble_eq_true rfl) f50 (fun _ h9 => h9) rfl dX5_split_65 ?_
              refine lv_iload hx hb dX5_split_68 (lv_at hl 4 rfl) ?_
              refine lv_aload_n hx hb dX5_split_70 rfl (lv_at hl 0 rfl) ?_
              refine va_get (D := D) (ci := 5) (v := .ref (ad 51)) (C := RX5) (T := TX5) (N := 12) hx hb hts iX5 hown hK hP 0 rfl rfl 5 (Nat.le_of_ble_eq_true rfl) f43 (fun _ h9 => h9) rfl dX5_split_71 ?_
              obtain ⟨q11, eq11, h⟩ := e_b h
              refine xv_i (As := []) (rest := [.int x4, .ref (ad 61)]) (ci := 3) (b := ad 51) ⟨hx, hb, hml, hown, hts⟩ hl.1 (kX3_most l D cA (fun i => ad (51 + i)) q10   _ eq11) (cwV 0 hts gX5_split_X3_most rfl rfl rfl (by decide +kernel) ⟨Nat.le_of_ble_eq_true rfl, Nat.le_of_ble_eq_true rfl⟩) rfl hK hP hD hS hA 4 rfl rfl rfl [4, 5, 6, 7, 8] rfl (by decide +kernel) rfl (Nat.le_of_ble_eq_true rfl) dX5_split_74 ⟨Nat.zero_le _, Nat.zero_le _⟩ (fun H locs hP hD hS hnq11 => ?_)
              have hP : va_P D vwCl (wD_row_tally_ahead cA ad block ties lines pmn row q10 ahead) H := hP
              have hD : va_D A (wD_row_tally_ahead cA ad block ties lines pmn row q10 ahead) := hD
              obtain ⟨a12, ea12, na12, h⟩ := e_wr h
              refine xa_iast hx hb hK hP hD hS 9 rfl na12 ea12 dX5_split_77 (fun H locs hP hD hS => ?_)
              have hP : va_P D vwCl (wD_row_tally_ahead cA ad block ties lines pmn row q10 a12) H := hP
              have hD : va_D A (wD_row_tally_ahead cA ad block ties lines pmn row q10 a12) := hD
              refine lv_iinc (v := (x4 + 1)) (lv' := [(4, .int (x4 + 1)), (0, .ref (ad 0)), (1, .int x1), (2, .int x2), (3, .int x3)]) hx hb dX5_split_78 hl (k := 4) rfl rfl (by decide) rfl (fun ls hl => ?_)
              refine lv_goto (tgt := 41) hx hb dX5_split_81 (by decide) ?_
              exact ih41 x1 x2 x3 (x4 + 1) block ties lines pmn row q10 a12 z7 _ _ _ (lv_sub hl [1, 2, 3, 4, 0] rfl) hP hD hS h hk41
        obtain ⟨z13, ez13, h⟩ := e_b h
        refine hL41 FU x1 x2 x3 x1 block ties lines pmn row q6 ahead z13 _ _ _ (lv_sub hl [1, 2, 3, 4, 0] rfl) hP hD hS ez13 (fun ls H locs hl hP hD hS => ?_)
        refine lv_aload_n hx hb dX5_split_84 rfl (lv_at hl 0 rfl) ?_
        refine va_get (D := D) (ci := 5) (v := .ref (ad 51)) (C := RX5) (T := TX5) (N := 12) hx hb hts iX5 hown hK hP 0 rfl rfl 5 (Nat.le_of_ble_eq_true rfl) f43 (fun _ h9 => h9) rfl dX5_split_85 ?_
        refine lv_aload_n hx hb dX5_split_88 rfl (lv_at hl 0 rfl) ?_
        refine va_get (D := D) (ci := 5) (v := .int ties) (C := RX5) (T := TX5) (N := 12) hx hb hts iX5 hown hK hP 0 rfl rfl 9 (Nat.le_of_ble_eq_true rfl) f58 (fun _ h9 => h9) rfl dX5_split_89 ?_
        obtain ⟨q14, eq14, h⟩ := e_b h
        refine xv_v (As := [.int ties]) (rest := []) (ci := 3) (b := ad 51) ⟨hx, hb, hml, hown, hts⟩ hl.1 (kX3_begin l D cA (fun i => ad (51 + i)) z13.1 ties  _ eq14) (cwV 1 hts gX5_split_X3_begin rfl rfl rfl (by decide +kernel) ⟨Nat.le_of_ble_eq_true rfl, Nat.le_of_ble_eq_true rfl⟩) rfl hK hP hD hS hA 4 rfl rfl rfl [4, 5, 6, 7, 8] rfl (by decide +kernel) rfl (Nat.le_of_ble_eq_true rfl) dX5_split_92 ⟨Nat.zero_le _, Nat.zero_le _⟩ (fun H locs hP hD hS => ?_)
        have hP : va_P D vwCl (wD_row_tally_ahead cA ad block ties lines pmn row q14 z13.2) H := hP
        have hD : va_D A (wD_row_tally_ahead cA ad block ties lines pmn row q14 z13.2) := hD
        refine lv_iload_n hx hb dX5_split_95 rfl (lv_at hl 1 rfl) ?_
        refine lv_istore (lv' := [(4, .int x1), (0, .ref (ad 0)), (1, .int x1), (2, .int x2), (3, .int x3)]) hx hb dX5_split_96 hl (by decide) rfl (fun ls hl => ?_)
        refine lv_iconst (v := 0) hx hb dX5_split_98 (by decide) ?_
        refine lv_istore (lv' := [(5, .int 0), (4, .int x1), (0, .ref (ad 0)), (1, .int x1), (2, .int x2), (3, .int x3)]) hx hb dX5_split_99 hl (by decide) rfl (fun ls hl => ?_)
        refine lv_iload_n hx hb dX5_split_101 rfl (lv_at hl 4 rfl) ?_
        refine lv_iconst (v := 1) hx hb dX5_split_102 (by decide) ?_
        refine lv_isub hx hb dX5_split_103 ?_
        refine lv_istore (lv' := [(6, .int (x2 - 1)), (5, .int 0), (4, .int x1), (0, .ref (ad 0)), (1, .int x1), (2, .int x2), (3, .int x3)]) hx hb dX5_split_104 hl (by decide) rfl (fun ls hl => ?_)
        have hL106 : ∀ (n : Nat) (x1 : Int32) (x3 : Int32) (x4 : Int32) (x5 : Int32) (x6 : Int32) (block : Int32) (ties : Int32) (lines : Int32) (pmn : Int32) (row : RowT) (tally : TalT) (ahead : Nat → Int32) (z15 : Int32 × Int32 × TalT) (ls : Array Slot) (H : Heap) (locs : List Loc), lv_has ls 7 [(0, .ref (ad 0)), (1, .int x1), (3, .int x3), (4, .int x4), (5, .int x5), (6, .int x6)] → va_P D vwCl (wD_row_tally_ahead cA ad block ties lines pmn row tally ahead) H → va_D A (wD_row_tally_ahead cA ad block ties lines pmn row tally ahead) → va_S A s.heap H locs → mX5_split_L106 row ahead x1 n x4 x5 x6 tally = some z15 → (∀ (ls : Array Slot) (H : Heap) (locs : List Loc), lv_has ls 7 [(3, .int x3), (4, .int z15.1), (5, .int z15.2.1)] → va_P D vwCl (wD_row_tally_ahead cA ad block ties lines pmn row z15.2.2 ahead) H → va_D A (wD_row_tally_ahead cA ad block ties lines pmn row z15.2.2 ahead) → va_S A s.heap H locs → W p l e (headSpec wsX5_split { frames := 2, cells := 0, slots := 0, locals := 43 }).room s m args below meth c H locs 0 0 Q (F0 m 178 ls [])) → W p l e (headSpec wsX5_split { frames := 2, cells := 0, slots := 0, locals := 43 }).room s m args below meth c H locs 0 0 Q (F0 m 106 ls []) := by
          intro n
          induction n with
          | zero => intro x1 x3 x4 x5 x6 block ties lines pmn row tally ahead z15 ls H locs hl hP hD hS h hk106; exact e_n h
          | succ n ih106 =>
            intro x1 x3 x4 x5 x6 block ties lines pmn row tally ahead z15 ls H locs hl hP hD hS h hk106
            rw [mX5_split_L106.eq_2] at h
            refine lv_iload hx hb dX5_split_106 (lv_at hl 5 rfl) ?_
            refine lv_iload_n hx hb dX5_split_108 rfl (lv_at hl 1 rfl) ?_
            refine lv_icmp_lt (tgt := 178) hx hb dX5_split_109 (by decide) (fun c16 => ?_) (fun c16 => ?_)
            · have h := e_t c16 h
              obtain rfl := e_s h
              exact hk106 _ _ _ (lv_sub hl [2, 3, 4] rfl) hP hD hS
            · have h := e_f c16 h
              refine lv_aload_n hx hb dX5_split_112 rfl (lv_at hl 0 rfl) ?_
              refine va_get (D := D) (ci := 5) (v := .ref (ad 51)) (C := RX5) (T := TX5) (N := 12) hx hb hts iX5 hown hK hP 0 rfl rfl 5 (Nat.le_of_ble_eq_true rfl) f43 (fun _ h9 => h9) rfl dX5_split_113 ?_
              refine lv_aload_n hx hb dX5_split_116 rfl (lv_at hl 0 rfl) ?_
              refine va_get (D := D) (ci := 5) (v := .ref (ad 7)) (C := RX5) (T := TX5) (N := 12) hx hb hts iX5 hown hK hP 0 rfl rfl 2 (Nat.le_of_ble_eq_true rfl) f26 (fun _ h9 => h9) rfl dX5_split_117 ?_
              refine va_get (D := D) (ci := 2) (v := .ref (ad 8)) (C := RX2) (T := TX2) (N := 3) hx hb hts iX2 hown hK hP 1 rfl rfl 0 (Nat.le_of_ble_eq_true rfl) f106 (fun _ h9 => h9) rfl dX5_split_120 ?_
              refine lv_iload hx hb dX5_split_123 (lv_at hl 5 rfl) ?_
              refine lv_iconst (v := 1) hx hb dX5_split_125 (by decide) ?_
              refine lv_iadd hx hb dX5_split_126 ?_
              obtain ⟨v17, ev17, nv17, h⟩ := e_rd h
              refine xa_iald hx hb hK hP 2 rfl nv17 ev17 dX5_split_127 ?_
              obtain ⟨q18, eq18, h⟩ := e_b h
              refine xv_v (As := [.int v17]) (rest := []) (ci := 3) (b := ad 51) ⟨hx, hb, hml, hown, hts⟩ hl.1 (kX3_push l D cA (fun i => ad (51 + i)) tally v17  _ eq18) (cwV 1 hts gX5_split_X3_push rfl rfl rfl (by decide +kernel) ⟨Nat.le_of_ble_eq_true rfl, Nat.le_of_ble_eq_true rfl⟩) rfl hK hP hD hS hA 4 rfl rfl rfl [4, 5, 6, 7, 8] rfl (by decide +kernel) rfl (Nat.le_of_ble_eq_true rfl) dX5_split_128 ⟨Nat.zero_le _, Nat.zero_le _⟩ (fun H locs hP hD hS => ?_)
              have hP : va_P D vwCl (wD_row_tally_ahead cA ad block ties lines pmn row q18 ahead) H := hP
              have hD : va_D A (wD_row_tally_ahead cA ad block ties lines pmn row q18 ahead) := hD
              refine lv_aload_n hx hb dX5_split_131 rfl (lv_at hl 0 rfl) ?_
              refine va_get (D := D) (ci := 5) (v := .ref (ad 61)) (C := RX5) (T := TX5) (N := 12) hx hb hts iX5 hown hK hP 0 rfl rfl 7 (Nat.le_of_ble_eq_true rfl) f50 (fun _ h9 => h9) rfl dX5_split_132 ?_
              refine lv_iload hx hb dX5_split_135 (lv_at hl 5 rfl) ?_
              obtain ⟨v19, ev19, nv19, h⟩ := e_rd h
              refine xa_iald hx hb hK hP 9 rfl nv19 ev19 dX5_split_137 ?_
              refine lv_aload_n hx hb dX5_split_138 rfl (lv_at hl 0 rfl) ?_
              refine va_get (D := D) (ci := 5) (v := .ref (ad 51)) (C := RX5) (T := TX5) (N := 12) hx hb hts iX5 hown hK hP 0 rfl rfl 5 (Nat.le_of_ble_eq_true rfl) f43 (fun _ h9 => h9) rfl dX5_split_139 ?_
              obtain ⟨q20, eq20, h⟩ := e_b h
              refine xv_i (As := []) (rest := [.int v19]) (ci := 3) (b := ad 51) ⟨hx, hb, hml, hown, hts⟩ hl.1 (kX3_most l D cA (fun i => ad (51 + i)) q18   _ eq20) (cwV 0 hts gX5_split_X3_most rfl rfl rfl (by decide +kernel) ⟨Nat.le_of_ble_eq_true rfl, Nat.le_of_ble_eq_true rfl⟩) rfl hK hP hD hS hA 4 rfl rfl rfl [4, 5, 6, 7, 8] rfl (by decide +kernel) rfl (Nat.le_of_ble_eq_true rfl) dX5_split_142 ⟨Nat.zero_le _, Nat.zero_le _⟩ (fun H locs hP hD hS hnq20 => ?_)
              have hP : va_P D vwCl (wD_row_tally_ahead cA ad block ties lines pmn row q18 ahead) H := hP
              have hD : va_D A (wD_row_tally_ahead cA ad block ties lines pmn row q18 ahead) := hD
              refine lv_iadd hx hb dX5_split_145 ?_
              refine lv_iload hx hb dX5_split_146 (lv_at hl 4 rfl) ?_
              refine lv_icmp_lt (tgt := 172) hx hb dX5_split_148 (by decide) (fun c21 => ?_) (fun c21 => ?_)
              · have h := e_t c21 h
                refine lv_iinc (v := (x6 + (-1))) (lv' := [(6, .int (x6 + (-1))), (0, .ref (ad 0)), (1, .int x1), (3, .int x3), (4, .int x4), (5, .int x5)]) hx hb dX5_split_172 hl (k := 5) rfl rfl (by decide) rfl (fun ls hl => ?_)
                refine lv_goto (tgt := 106) hx hb dX5_split_175 (by decide) ?_
                exact ih106 x1 x3 x4 x5 (x6 + (-1)) block ties lines pmn row q18 ahead z15 _ _ _ (lv_sub hl [1, 2, 3, 4, 5, 0] rfl) hP hD hS h hk106
              · have h := e_f c21 h
                refine lv_iload hx hb dX5_split_151 (lv_at hl 5 rfl) ?_
                refine lv_istore (lv' := [(4, .int x6), (0, .ref (ad 0)), (1, .int x1), (3, .int x3), (5, .int x5), (6, .int x6)]) hx hb dX5_split_153 hl (by decide) rfl (fun ls hl => ?_)
                refine lv_aload_n hx hb dX5_split_155 rfl (lv_at hl 1 rfl) ?_
                refine va_get (D := D) (ci := 5) (v := .ref (ad 61)) (C := RX5) (T := TX5) (N := 12) hx hb hts iX5 hown hK hP 0 rfl rfl 7 (Nat.le_of_ble_eq_true rfl) f50 (fun _ h9 => h9) rfl dX5_split_156 ?_
                refine lv_iload hx hb dX5_split_159 (lv_at hl 5 rfl) ?_
                obtain ⟨v22, ev22, nv22, h⟩ := e_rd h
                refine xa_iald hx hb hK hP 9 rfl nv22 ev22 dX5_split_161 ?_
                refine lv_aload_n hx hb dX5_split_162 rfl (lv_at hl 1 rfl) ?_
                refine va_get (D := D) (ci := 5) (v := .ref (ad 51)) (C := RX5) (T := TX5) (N := 12) hx hb hts iX5 hown hK hP 0 rfl rfl 5 (Nat.le_of_ble_eq_true rfl) f43 (fun _ h9 => h9) rfl dX5_split_163 ?_
                obtain ⟨q23, eq23, h⟩ := e_b h
                refine xv_i (As := []) (rest := [.int v22]) (ci := 3) (b := ad 51) ⟨hx, hb, hml, hown, hts⟩ hl.1 (kX3_most l D cA (fun i => ad (51 + i)) q18   _ eq23) (cwV 0 hts gX5_split_X3_most rfl rfl rfl (by decide +kernel) ⟨Nat.le_of_ble_eq_true rfl, Nat.le_of_ble_eq_true rfl⟩) rfl hK hP hD hS hA 4 rfl rfl rfl [4, 5, 6, 7, 8] rfl (by decide +kernel) rfl (Nat.le_of_ble_eq_true rfl) dX5_split_166 ⟨Nat.zero_le _, Nat.zero_le _⟩ (fun H locs hP hD hS hnq23 => ?_)
                have hP : va_P D vwCl (wD_row_tally_ahead cA ad block ties lines pmn row q18 ahead) H := hP
                have hD : va_D A (wD_row_tally_ahead cA ad block ties lines pmn row q18 ahead) := hD
                refine lv_iadd hx hb dX5_split_169 ?_
                refine lv_istore (lv' := [(5, .int (v22 + q23)), (4, .int x6), (0, .ref (ad 0)), (1, .int x1), (3, .int x3), (6, .int x6)]) hx hb dX5_split_170 hl (by decide) rfl (fun ls hl => ?_)
                refine lv_iinc (v := (x6 + (-1))) (lv' := [(6, .int (x6 + (-1))), (5, .int (v22 + q23)), (4, .int x6), (0, .ref (ad 0)), (1, .int x1), (3, .int x3)]) hx hb dX5_split_172 hl (k := 5) rfl rfl (by decide) rfl (fun ls hl => ?_)
                refine lv_goto (tgt := 106) hx hb dX5_split_175 (by decide) ?_
                exact ih106 x1 x3 x6 (v22 + q23) (x6 + (-1)) block ties lines pmn row q18 ahead z15 _ _ _ (lv_sub hl [3, 4, 5, 2, 1, 0] rfl) hP hD hS h hk106
        obtain ⟨z24, ez24, h⟩ := e_b h
        refine hL106 FU x1 x3 x1 0 (x2 - 1) block ties lines pmn row q14 z13.2 z24 _ _ _ (lv_sub hl [3, 4, 6, 2, 1, 0] rfl) hP hD hS ez24 (fun ls H locs hl hP hD hS => ?_)
        refine lv_iload_n hx hb dX5_split_178 rfl (lv_at hl 0 rfl) ?_
        refine lv_if_ne (tgt := 187) hx hb dX5_split_179 (by decide) (fun c25 => ?_) (fun c25 => ?_)
        · have h := e_t c25 h
          refine lv_iload hx hb dX5_split_187 (lv_at hl 2 rfl) ?_
          obtain rfl := e_s h
          exact hret hP hS rfl dX5_split_189
        · have h := e_f (not_not_intro c25) h
          refine lv_iload hx hb dX5_split_182 (lv_at hl 1 rfl) ?_
          refine lv_goto (tgt := 189) hx hb dX5_split_184 (by decide) ?_
          obtain rfl := e_s h
          exact hret hP hS rfl dX5_split_189
      · have h := e_f (not_not_intro c5) h
        refine lv_iconst (v := (-1)) hx hb dX5_split_25 (by decide) ?_
        obtain rfl := e_s h
        exact hret hP hS rfl dX5_split_26
set_option maxHeartbeats 4000000 in
set_option maxRecDepth 100000 in
theorem kX5_ifSet (l : Launch) (D : va_G) (cA : Nat → ClassId) (ad : Nat → Nat) (block : Int32) (ties : Int32) (lines : Int32) (pmn : Int32) (row : RowT) (tally : TalT) (x1 : Int32) (x2 : Int32) (x3 : Int32) (x4 : Int32) (q : Int32 × TalT) (h : mX5_ifSet ties row tally x1 x2 x3 x4 = some q) : MI l yX5_ifSet wsX5_ifSet { frames := 2, cells := 0, slots := 0, locals := 43 } D cA .int [.ref (ad 0), .int x1, .int x2, .int x3, .int x4] (wD_row_tally cA ad block ties lines pmn row tally) (wD_row_tally cA ad block ties lines pmn row q.2) q.1 := by
  refine MI.of (cc := cX5_ifSet) (maxL := 6) (by decide +kernel) rfl rfl rfl (Nat.le_of_ble_eq_true rfl) ?_
  intro p e s m args below meth c A ls Q hx hb hml hts hown hK hP hD hA hS hl hret
  have hl : lv_has ls 6 [(0, .ref (ad 0)), (1, .int x1), (2, .int x2), (3, .int x3), (4, .int x4)] := hl
  have f106 := hts (.fieldLink RX5 106 "ModeDesk$Row" "values" "[I") (by decide +kernel)
  have f176 := hts (.fieldLink RX5 176 "ModeDesk$Tally" "best" "I") (by decide +kernel)
  have f26 := hts (.fieldLink RX5 26 "ModeDesk" "row" "LModeDesk$Row;") (by decide +kernel)
  have f43 := hts (.fieldLink RX5 43 "ModeDesk" "tally" "LModeDesk$Tally;") (by decide +kernel)
  have f58 := hts (.fieldLink RX5 58 "ModeDesk" "ties" "I") (by decide +kernel)
  have iX2 : ∀ w ∈ wsX20, w ∈ wsX5_ifSet := by decide +kernel
  have iX3 : ∀ w ∈ wsX30, w ∈ wsX5_ifSet := by decide +kernel
  have iX5 : ∀ w ∈ wsX50, w ∈ wsX5_ifSet := by decide +kernel
  unfold mX5_ifSet at h
  refine lv_aload_n hx hb dX5_ifSet_0 rfl (lv_at hl 0 rfl) ?_
  refine va_get (D := D) (ci := 5) (v := .ref (ad 7)) (C := RX5) (T := TX5) (N := 12) hx hb hts iX5 hown hK hP 0 rfl rfl 2 (Nat.le_of_ble_eq_true rfl) f26 (fun _ h9 => h9) rfl dX5_ifSet_1 ?_
  refine lv_iload_n hx hb dX5_ifSet_4 rfl (lv_at hl 1 rfl) ?_
  obtain ⟨q1, eq1, h⟩ := e_b h
  refine xv_i (As := [.int x1]) (rest := []) (ci := 2) (b := ad 7) ⟨hx, hb, hml, hown, hts⟩ hl.1 (kX2_has l D cA (fun i => ad (7 + i)) row x1  _ eq1) (cwV 1 hts gX5_ifSet_X2_has rfl rfl rfl (by decide +kernel) ⟨Nat.le_of_ble_eq_true rfl, Nat.le_of_ble_eq_true rfl⟩) rfl hK hP hD hS hA 1 rfl rfl rfl [1, 2, 3] rfl (by decide +kernel) rfl (Nat.le_of_ble_eq_true rfl) dX5_ifSet_5 ⟨Nat.zero_le _, Nat.zero_le _⟩ (fun H locs hP hD hS hnq1 => ?_)
  have hP : va_P D vwCl (wD_row_tally cA ad block ties lines pmn row tally) H := hP
  have hD : va_D A (wD_row_tally cA ad block ties lines pmn row tally) := hD
  refine lv_if_eq (tgt := 31) hx hb dX5_ifSet_8 (by decide) (fun c2 => ?_) (fun c2 => ?_)
  · have h := e_t c2 h
    refine lv_iconst (v := (-1)) hx hb dX5_ifSet_31 (by decide) ?_
    obtain rfl := e_s h
    exact hret hP hS rfl dX5_ifSet_32
  · have h := e_f c2 h
    refine lv_iload_n hx hb dX5_ifSet_11 rfl (lv_at hl 2 rfl) ?_
    obtain ⟨q3, eq3, h⟩ := e_b h
    refine xs_i (As := [.int x2]) (rest := []) ⟨hx, hb, hml, hown, hts⟩ hl.1 (kX5_isValue l D cA   x2  _ eq3) (va_cwS 1 hts gX5_ifSet_X5_isValue rfl rfl rfl (by decide +kernel) ⟨Nat.le_of_ble_eq_true rfl, Nat.le_of_ble_eq_true rfl⟩) rfl hK hP hD hS hA [] rfl (by decide +kernel) rfl (Nat.le_of_ble_eq_true rfl) dX5_ifSet_12 ⟨Nat.zero_le _, Nat.zero_le _⟩ (fun H locs hP hD hS hnq3 => ?_)
    have hP : va_P D vwCl (wD_row_tally cA ad block ties lines pmn row tally) H := hP
    have hD : va_D A (wD_row_tally cA ad block ties lines pmn row tally) := hD
    refine lv_if_eq (tgt := 31) hx hb dX5_ifSet_15 (by decide) (fun c4 => ?_) (fun c4 => ?_)
    · have h := e_t c4 h
      refine lv_iconst (v := (-1)) hx hb dX5_ifSet_31 (by decide) ?_
      obtain rfl := e_s h
      exact hret hP hS rfl dX5_ifSet_32
    · have h := e_f c4 h
      refine lv_aload_n hx hb dX5_ifSet_18 rfl (lv_at hl 0 rfl) ?_
      refine va_get (D := D) (ci := 5) (v := .ref (ad 7)) (C := RX5) (T := TX5) (N := 12) hx hb hts iX5 hown hK hP 0 rfl rfl 2 (Nat.le_of_ble_eq_true rfl) f26 (fun _ h9 => h9) rfl dX5_ifSet_19 ?_
      refine lv_iload_n hx hb dX5_ifSet_22 rfl (lv_at hl 3 rfl) ?_
      refine lv_iload hx hb dX5_ifSet_23 (lv_at hl 4 rfl) ?_
      obtain ⟨q5, eq5, h⟩ := e_b h
      refine xv_i (As := [.int x3, .int x4]) (rest := []) (ci := 2) (b := ad 7) ⟨hx, hb, hml, hown, hts⟩ hl.1 (kX2_hasSpan l D cA (fun i => ad (7 + i)) row x3 x4  _ eq5) (cwV 2 hts gX5_ifSet_X2_hasSpan rfl rfl rfl (by decide +kernel) ⟨Nat.le_of_ble_eq_true rfl, Nat.le_of_ble_eq_true rfl⟩) rfl hK hP hD hS hA 1 rfl rfl rfl [1, 2, 3] rfl (by decide +kernel) rfl (Nat.le_of_ble_eq_true rfl) dX5_ifSet_25 ⟨Nat.zero_le _, Nat.zero_le _⟩ (fun H locs hP hD hS hnq5 => ?_)
      have hP : va_P D vwCl (wD_row_tally cA ad block ties lines pmn row tally) H := hP
      have hD : va_D A (wD_row_tally cA ad block ties lines pmn row tally) := hD
      refine lv_if_ne (tgt := 33) hx hb dX5_ifSet_28 (by decide) (fun c6 => ?_) (fun c6 => ?_)
      · have h := e_t c6 h
        refine lv_aload_n hx hb dX5_ifSet_33 rfl (lv_at hl 0 rfl) ?_
        refine va_get (D := D) (ci := 5) (v := .ref (ad 51)) (C := RX5) (T := TX5) (N := 12) hx hb hts iX5 hown hK hP 0 rfl rfl 5 (Nat.le_of_ble_eq_true rfl) f43 (fun _ h9 => h9) rfl dX5_ifSet_34 ?_
        refine lv_aload_n hx hb dX5_ifSet_37 rfl (lv_at hl 0 rfl) ?_
        refine va_get (D := D) (ci := 5) (v := .int ties) (C := RX5) (T := TX5) (N := 12) hx hb hts iX5 hown hK hP 0 rfl rfl 9 (Nat.le_of_ble_eq_true rfl) f58 (fun _ h9 => h9) rfl dX5_ifSet_38 ?_
        obtain ⟨q7, eq7, h⟩ := e_b h
        refine xv_v (As := [.int ties]) (rest := []) (ci := 3) (b := ad 51) ⟨hx, hb, hml, hown, hts⟩ hl.1 (kX3_begin l D cA (fun i => ad (51 + i)) tally ties  _ eq7) (cwV 1 hts gX5_ifSet_X3_begin rfl rfl rfl (by decide +kernel) ⟨Nat.le_of_ble_eq_true rfl, Nat.le_of_ble_eq_true rfl⟩) rfl hK hP hD hS hA 4 rfl rfl rfl [4, 5, 6, 7, 8] rfl (by decide +kernel) rfl (Nat.le_of_ble_eq_true rfl) dX5_ifSet_41 ⟨Nat.zero_le _, Nat.zero_le _⟩ (fun H locs hP hD hS => ?_)
        have hP : va_P D vwCl (wD_row_tally cA ad block ties lines pmn row q7) H := hP
        have hD : va_D A (wD_row_tally cA ad block ties lines pmn row q7) := hD
        refine lv_iload_n hx hb dX5_ifSet_44 rfl (lv_at hl 3 rfl) ?_
        refine lv_istore (lv' := [(5, .int x3), (0, .ref (ad 0)), (1, .int x1), (2, .int x2), (3, .int x3), (4, .int x4)]) hx hb dX5_ifSet_45 hl (by decide) rfl (fun ls hl => ?_)
        have hL47 : ∀ (n : Nat) (x1 : Int32) (x2 : Int32) (x4 : Int32) (x5 : Int32) (block : Int32) (ties : Int32) (lines : Int32) (pmn : Int32) (row : RowT) (tally : TalT) (z8 : TalT) (ls : Array Slot) (H : Heap) (locs : List Loc), lv_has ls 6 [(0, .ref (ad 0)), (1, .int x1), (2, .int x2), (4, .int x4), (5, .int x5)] → va_P D vwCl (wD_row_tally cA ad block ties lines pmn row tally) H → va_D A (wD_row_tally cA ad block ties lines pmn row tally) → va_S A s.heap H locs → mX5_ifSet_L47 row x1 x2 x4 n x5 tally = some z8 → (∀ (ls : Array Slot) (H : Heap) (locs : List Loc), lv_has ls 6 [(0, .ref (ad 0))] → va_P D vwCl (wD_row_tally cA ad block ties lines pmn row z8) H → va_D A (wD_row_tally cA ad block ties lines pmn row z8) → va_S A s.heap H locs → W p l e (headSpec wsX5_ifSet { frames := 2, cells := 0, slots := 0, locals := 43 }).room s m args below meth c H locs 0 0 Q (F0 m 87 ls [])) → W p l e (headSpec wsX5_ifSet { frames := 2, cells := 0, slots := 0, locals := 43 }).room s m args below meth c H locs 0 0 Q (F0 m 47 ls []) := by
          intro n
          induction n with
          | zero => intro x1 x2 x4 x5 block ties lines pmn row tally z8 ls H locs hl hP hD hS h hk47; exact e_n h
          | succ n ih47 =>
            intro x1 x2 x4 x5 block ties lines pmn row tally z8 ls H locs hl hP hD hS h hk47
            rw [mX5_ifSet_L47.eq_2] at h
            refine lv_iload hx hb dX5_ifSet_47 (lv_at hl 4 rfl) ?_
            refine lv_iload hx hb dX5_ifSet_49 (lv_at hl 3 rfl) ?_
            refine lv_icmp_gt (tgt := 87) hx hb dX5_ifSet_51 (by decide) (fun c9 => ?_) (fun c9 => ?_)
            · have h := e_t c9 h
              obtain rfl := e_s h
              exact hk47 _ _ _ (lv_sub hl [0] rfl) hP hD hS
            · have h := e_f c9 h
              refine lv_aload_n hx hb dX5_ifSet_54 rfl (lv_at hl 0 rfl) ?_
              refine va_get (D := D) (ci := 5) (v := .ref (ad 51)) (C := RX5) (T := TX5) (N := 12) hx hb hts iX5 hown hK hP 0 rfl rfl 5 (Nat.le_of_ble_eq_true rfl) f43 (fun _ h9 => h9) rfl dX5_ifSet_55 ?_
              refine lv_iload hx hb dX5_ifSet_58 (lv_at hl 4 rfl) ?_
              refine lv_iload_n hx hb dX5_ifSet_60 rfl (lv_at hl 1 rfl) ?_
              refine lv_icmp_ne (tgt := 68) hx hb dX5_ifSet_61 (by decide) (fun c10 => ?_) (fun c10 => ?_)
              · have h := e_t c10 h
                refine lv_aload_n hx hb dX5_ifSet_68 rfl (lv_at hl 0 rfl) ?_
                refine va_get (D := D) (ci := 5) (v := .ref (ad 7)) (C := RX5) (T := TX5) (N := 12) hx hb hts iX5 hown hK hP 0 rfl rfl 2 (Nat.le_of_ble_eq_true rfl) f26 (fun _ h9 => h9) rfl dX5_ifSet_69 ?_
                refine va_get (D := D) (ci := 2) (v := .ref (ad 8)) (C := RX2) (T := TX2) (N := 3) hx hb hts iX2 hown hK hP 1 rfl rfl 0 (Nat.le_of_ble_eq_true rfl) f106 (fun _ h9 => h9) rfl dX5_ifSet_72 ?_
                refine lv_iload hx hb dX5_ifSet_75 (lv_at hl 4 rfl) ?_
                obtain ⟨v11, ev11, nv11, h⟩ := e_rd h
                refine xa_iald hx hb hK hP 2 rfl nv11 ev11 dX5_ifSet_77 ?_
                obtain ⟨q12, eq12, h⟩ := e_b h
                refine xv_v (As := [.int v11]) (rest := []) (ci := 3) (b := ad 51) ⟨hx, hb, hml, hown, hts⟩ hl.1 (kX3_push l D cA (fun i => ad (51 + i)) tally v11  _ eq12) (cwV 1 hts gX5_ifSet_X3_push rfl rfl rfl (by decide +kernel) ⟨Nat.le_of_ble_eq_true rfl, Nat.le_of_ble_eq_true rfl⟩) rfl hK hP hD hS hA 4 rfl rfl rfl [4, 5, 6, 7, 8] rfl (by decide +kernel) rfl (Nat.le_of_ble_eq_true rfl) dX5_ifSet_78 ⟨Nat.zero_le _, Nat.zero_le _⟩ (fun H locs hP hD hS => ?_)
                have hP : va_P D vwCl (wD_row_tally cA ad block ties lines pmn row q12) H := hP
                have hD : va_D A (wD_row_tally cA ad block ties lines pmn row q12) := hD
                refine lv_iinc (v := (x5 + 1)) (lv' := [(5, .int (x5 + 1)), (0, .ref (ad 0)), (1, .int x1), (2, .int x2), (4, .int x4)]) hx hb dX5_ifSet_81 hl (k := 4) rfl rfl (by decide) rfl (fun ls hl => ?_)
                refine lv_goto (tgt := 47) hx hb dX5_ifSet_84 (by decide) ?_
                exact ih47 x1 x2 x4 (x5 + 1) block ties lines pmn row q12 z8 _ _ _ (lv_sub hl [1, 2, 3, 4, 0] rfl) hP hD hS h hk47
              · have h := e_f (not_not_intro c10) h
                refine lv_iload_n hx hb dX5_ifSet_64 rfl (lv_at hl 2 rfl) ?_
                refine lv_goto (tgt := 78) hx hb dX5_ifSet_65 (by decide) ?_
                obtain ⟨q13, eq13, h⟩ := e_b h
                refine xv_v (As := [.int x2]) (rest := []) (ci := 3) (b := ad 51) ⟨hx, hb, hml, hown, hts⟩ hl.1 (kX3_push l D cA (fun i => ad (51 + i)) tally x2  _ eq13) (cwV 1 hts gX5_ifSet_X3_push rfl rfl rfl (by decide +kernel) ⟨Nat.le_of_ble_eq_true rfl, Nat.le_of_ble_eq_true rfl⟩) rfl hK hP hD hS hA 4 rfl rfl rfl [4, 5, 6, 7, 8] rfl (by decide +kernel) rfl (Nat.le_of_ble_eq_true rfl) dX5_ifSet_78 ⟨Nat.zero_le _, Nat.zero_le _⟩ (fun H locs hP hD hS => ?_)
                have hP : va_P D vwCl (wD_row_tally cA ad block ties lines pmn row q13) H := hP
                have hD : va_D A (wD_row_tally cA ad block ties lines pmn row q13) := hD
                refine lv_iinc (v := (x5 + 1)) (lv' := [(5, .int (x5 + 1)), (0, .ref (ad 0)), (1, .int x1), (2, .int x2), (4, .int x4)]) hx hb dX5_ifSet_81 hl (k := 4) rfl rfl (by decide) rfl (fun ls hl => ?_)
                refine lv_goto (tgt := 47) hx hb dX5_ifSet_84 (by decide) ?_
                exact ih47 x1 x2 x4 (x5 + 1) block ties lines pmn row q13 z8 _ _ _ (lv_sub hl [1, 2, 3, 4, 0] rfl) hP hD hS h hk47
        obtain ⟨z14, ez14, h⟩ := e_b h
        refine hL47 FU x1 x2 x4 x3 block ties lines pmn row q7 z14 _ _ _ (lv_sub hl [1, 2, 3, 5, 0] rfl) hP hD hS ez14 (fun ls H locs hl hP hD hS => ?_)
        refine lv_aload_n hx hb dX5_ifSet_87 rfl (lv_at hl 0 rfl) ?_
        refine va_get (D := D) (ci := 5) (v := .ref (ad 51)) (C := RX5) (T := TX5) (N := 12) hx hb hts iX5 hown hK hP 0 rfl rfl 5 (Nat.le_of_ble_eq_true rfl) f43 (fun _ h9 => h9) rfl dX5_ifSet_88 ?_
        refine va_get (D := D) (ci := 3) (v := .int z14.2.2.2.2.2.2.1) (C := RX3) (T := TX3) (N := 8) hx hb hts iX3 hown hK hP 4 rfl rfl 6 (Nat.le_of_ble_eq_true rfl) f176 (fun _ h9 => h9) rfl dX5_ifSet_91 ?_
        obtain rfl := e_s h
        exact hret hP hS rfl dX5_ifSet_94
      · have h := e_f (not_not_intro c6) h
        refine lv_iconst (v := (-1)) hx hb dX5_ifSet_31 (by decide) ?_
        obtain rfl := e_s h
        exact hret hP hS rfl dX5_ifSet_32
set_option maxHeartbeats 4000000 in
set_option maxRecDepth 100000 in
theorem kX5_ifOut (l : Launch) (D : va_G) (cA : Nat → ClassId) (ad : Nat → Nat) (block : Int32) (ties : Int32) (lines : Int32) (pmn : Int32) (row : RowT) (tally : TalT) (x1 : Int32) (x2 : Int32) (x3 : Int32) (q : Int32 × TalT) (h : mX5_ifOut ties row tally x1 x2 x3 = some q) : MI l yX5_ifOut wsX5_ifOut { frames := 2, cells := 0, slots := 0, locals := 43 } D cA .int [.ref (ad 0), .int x1, .int x2, .int x3] (wD_row_tally cA ad block ties lines pmn row tally) (wD_row_tally cA ad block ties lines pmn row q.2) q.1 := by
  refine MI.of (cc := cX5_ifOut) (maxL := 5) (by decide +kernel) rfl rfl rfl (Nat.le_of_ble_eq_true rfl) ?_
  intro p e s m args below meth c A ls Q hx hb hml hts hown hK hP hD hA hS hl hret
  have hl : lv_has ls 5 [(0, .ref (ad 0)), (1, .int x1), (2, .int x2), (3, .int x3)] := hl
  have f106 := hts (.fieldLink RX5 106 "ModeDesk$Row" "values" "[I") (by decide +kernel)
  have f176 := hts (.fieldLink RX5 176 "ModeDesk$Tally" "best" "I") (by decide +kernel)
  have f26 := hts (.fieldLink RX5 26 "ModeDesk" "row" "LModeDesk$Row;") (by decide +kernel)
  have f43 := hts (.fieldLink RX5 43 "ModeDesk" "tally" "LModeDesk$Tally;") (by decide +kernel)
  have f58 := hts (.fieldLink RX5 58 "ModeDesk" "ties" "I") (by decide +kernel)
  have iX2 : ∀ w ∈ wsX20, w ∈ wsX5_ifOut := by decide +kernel
  have iX3 : ∀ w ∈ wsX30, w ∈ wsX5_ifOut := by decide +kernel
  have iX5 : ∀ w ∈ wsX50, w ∈ wsX5_ifOut := by decide +kernel
  unfold mX5_ifOut at h
  refine lv_aload_n hx hb dX5_ifOut_0 rfl (lv_at hl 0 rfl) ?_
  refine va_get (D := D) (ci := 5) (v := .ref (ad 7)) (C := RX5) (T := TX5) (N := 12) hx hb hts iX5 hown hK hP 0 rfl rfl 2 (Nat.le_of_ble_eq_true rfl) f26 (fun _ h9 => h9) rfl dX5_ifOut_1 ?_
  refine lv_iload_n hx hb dX5_ifOut_4 rfl (lv_at hl 2 rfl) ?_
  refine lv_iload_n hx hb dX5_ifOut_5 rfl (lv_at hl 3 rfl) ?_
  obtain ⟨q1, eq1, h⟩ := e_b h
  refine xv_i (As := [.int x2, .int x3]) (rest := []) (ci := 2) (b := ad 7) ⟨hx, hb, hml, hown, hts⟩ hl.1 (kX2_hasSpan l D cA (fun i => ad (7 + i)) row x2 x3  _ eq1) (cwV 2 hts gX5_ifOut_X2_hasSpan rfl rfl rfl (by decide +kernel) ⟨Nat.le_of_ble_eq_true rfl, Nat.le_of_ble_eq_true rfl⟩) rfl hK hP hD hS hA 1 rfl rfl rfl [1, 2, 3] rfl (by decide +kernel) rfl (Nat.le_of_ble_eq_true rfl) dX5_ifOut_6 ⟨Nat.zero_le _, Nat.zero_le _⟩ (fun H locs hP hD hS hnq1 => ?_)
  have hP : va_P D vwCl (wD_row_tally cA ad block ties lines pmn row tally) H := hP
  have hD : va_D A (wD_row_tally cA ad block ties lines pmn row tally) := hD
  refine lv_if_eq (tgt := 22) hx hb dX5_ifOut_9 (by decide) (fun c2 => ?_) (fun c2 => ?_)
  · have h := e_t c2 h
    refine lv_iconst (v := (-1)) hx hb dX5_ifOut_22 (by decide) ?_
    obtain rfl := e_s h
    exact hret hP hS rfl dX5_ifOut_23
  · have h := e_f c2 h
    refine lv_iload_n hx hb dX5_ifOut_12 rfl (lv_at hl 1 rfl) ?_
    refine lv_iload_n hx hb dX5_ifOut_13 rfl (lv_at hl 2 rfl) ?_
    refine lv_icmp_lt (tgt := 22) hx hb dX5_ifOut_14 (by decide) (fun c3 => ?_) (fun c3 => ?_)
    · have h := e_t c3 h
      refine lv_iconst (v := (-1)) hx hb dX5_ifOut_22 (by decide) ?_
      obtain rfl := e_s h
      exact hret hP hS rfl dX5_ifOut_23
    · have h := e_f c3 h
      refine lv_iload_n hx hb dX5_ifOut_17 rfl (lv_at hl 1 rfl) ?_
      refine lv_iload_n hx hb dX5_ifOut_18 rfl (lv_at hl 3 rfl) ?_
      refine lv_icmp_le (tgt := 24) hx hb dX5_ifOut_19 (by decide) (fun c4 => ?_) (fun c4 => ?_)
      · have h := e_t c4 h
        refine lv_iload_n hx hb dX5_ifOut_24 rfl (lv_at hl 2 rfl) ?_
        refine lv_iload_n hx hb dX5_ifOut_25 rfl (lv_at hl 3 rfl) ?_
        refine lv_icmp_ne (tgt := 32) hx hb dX5_ifOut_26 (by decide) (fun c5 => ?_) (fun c5 => ?_)
        · have h := e_t c5 h
          refine lv_aload_n hx hb dX5_ifOut_32 rfl (lv_at hl 0 rfl) ?_
          refine va_get (D := D) (ci := 5) (v := .ref (ad 51)) (C := RX5) (T := TX5) (N := 12) hx hb hts iX5 hown hK hP 0 rfl rfl 5 (Nat.le_of_ble_eq_true rfl) f43 (fun _ h9 => h9) rfl dX5_ifOut_33 ?_
          refine lv_aload_n hx hb dX5_ifOut_36 rfl (lv_at hl 0 rfl) ?_
          refine va_get (D := D) (ci := 5) (v := .int ties) (C := RX5) (T := TX5) (N := 12) hx hb hts iX5 hown hK hP 0 rfl rfl 9 (Nat.le_of_ble_eq_true rfl) f58 (fun _ h9 => h9) rfl dX5_ifOut_37 ?_
          obtain ⟨q6, eq6, h⟩ := e_b h
          refine xv_v (As := [.int ties]) (rest := []) (ci := 3) (b := ad 51) ⟨hx, hb, hml, hown, hts⟩ hl.1 (kX3_begin l D cA (fun i => ad (51 + i)) tally ties  _ eq6) (cwV 1 hts gX5_ifOut_X3_begin rfl rfl rfl (by decide +kernel) ⟨Nat.le_of_ble_eq_true rfl, Nat.le_of_ble_eq_true rfl⟩) rfl hK hP hD hS hA 4 rfl rfl rfl [4, 5, 6, 7, 8] rfl (by decide +kernel) rfl (Nat.le_of_ble_eq_true rfl) dX5_ifOut_40 ⟨Nat.zero_le _, Nat.zero_le _⟩ (fun H locs hP hD hS => ?_)
          have hP : va_P D vwCl (wD_row_tally cA ad block ties lines pmn row q6) H := hP
          have hD : va_D A (wD_row_tally cA ad block ties lines pmn row q6) := hD
          refine lv_iload_n hx hb dX5_ifOut_43 rfl (lv_at hl 2 rfl) ?_
          refine lv_istore (lv' := [(4, .int x2), (0, .ref (ad 0)), (1, .int x1), (2, .int x2), (3, .int x3)]) hx hb dX5_ifOut_44 hl (by decide) rfl (fun ls hl => ?_)
          have hL46 : ∀ (n : Nat) (x1 : Int32) (x3 : Int32) (x4 : Int32) (block : Int32) (ties : Int32) (lines : Int32) (pmn : Int32) (row : RowT) (tally : TalT) (z7 : TalT) (ls : Array Slot) (H : Heap) (locs : List Loc), lv_has ls 5 [(0, .ref (ad 0)), (1, .int x1), (3, .int x3), (4, .int x4)] → va_P D vwCl (wD_row_tally cA ad block ties lines pmn row tally) H → va_D A (wD_row_tally cA ad block ties lines pmn row tally) → va_S A s.heap H locs → mX5_ifOut_L46 row x1 x3 n x4 tally = some z7 → (∀ (ls : Array Slot) (H : Heap) (locs : List Loc), lv_has ls 5 [(0, .ref (ad 0))] → va_P D vwCl (wD_row_tally cA ad block ties lines pmn row z7) H → va_D A (wD_row_tally cA ad block ties lines pmn row z7) → va_S A s.heap H locs → W p l e (headSpec wsX5_ifOut { frames := 2, cells := 0, slots := 0, locals := 43 }).room s m args below meth c H locs 0 0 Q (F0 m 81 ls [])) → W p l e (headSpec wsX5_ifOut { frames := 2, cells := 0, slots := 0, locals := 43 }).room s m args below meth c H locs 0 0 Q (F0 m 46 ls []) := by
            intro n
            induction n with
            | zero => intro x1 x3 x4 block ties lines pmn row tally z7 ls H locs hl hP hD hS h hk46; exact e_n h
            | succ n ih46 =>
              intro x1 x3 x4 block ties lines pmn row tally z7 ls H locs hl hP hD hS h hk46
              rw [mX5_ifOut_L46.eq_2] at h
              refine lv_iload hx hb dX5_ifOut_46 (lv_at hl 3 rfl) ?_
              refine lv_iload_n hx hb dX5_ifOut_48 rfl (lv_at hl 2 rfl) ?_
              refine lv_icmp_gt (tgt := 81) hx hb dX5_ifOut_49 (by decide) (fun c8 => ?_) (fun c8 => ?_)
              · have h := e_t c8 h
                obtain rfl := e_s h
                exact hk46 _ _ _ (lv_sub hl [0] rfl) hP hD hS
              · have h := e_f c8 h
                refine lv_iload hx hb dX5_ifOut_52 (lv_at hl 3 rfl) ?_
                refine lv_iload_n hx hb dX5_ifOut_54 rfl (lv_at hl 1 rfl) ?_
                refine lv_icmp_eq (tgt := 75) hx hb dX5_ifOut_55 (by decide) (fun c9 => ?_) (fun c9 => ?_)
                · have h := e_t c9 h
                  refine lv_iinc (v := (x4 + 1)) (lv' := [(4, .int (x4 + 1)), (0, .ref (ad 0)), (1, .int x1), (3, .int x3)]) hx hb dX5_ifOut_75 hl (k := 3) rfl rfl (by decide) rfl (fun ls hl => ?_)
                  refine lv_goto (tgt := 46) hx hb dX5_ifOut_78 (by decide) ?_
                  exact ih46 x1 x3 (x4 + 1) block ties lines pmn row tally z7 _ _ _ (lv_sub hl [1, 2, 3, 0] rfl) hP hD hS h hk46
                · have h := e_f c9 h
                  refine lv_aload_n hx hb dX5_ifOut_58 rfl (lv_at hl 0 rfl) ?_
                  refine va_get (D := D) (ci := 5) (v := .ref (ad 51)) (C := RX5) (T := TX5) (N := 12) hx hb hts iX5 hown hK hP 0 rfl rfl 5 (Nat.le_of_ble_eq_true rfl) f43 (fun _ h9 => h9) rfl dX5_ifOut_59 ?_
                  refine lv_aload_n hx hb dX5_ifOut_62 rfl (lv_at hl 0 rfl) ?_
                  refine va_get (D := D) (ci := 5) (v := .ref (ad 7)) (C := RX5) (T := TX5) (N := 12) hx hb hts iX5 hown hK hP 0 rfl rfl 2 (Nat.le_of_ble_eq_true rfl) f26 (fun _ h9 => h9) rfl dX5_ifOut_63 ?_
                  refine va_get (D := D) (ci := 2) (v := .ref (ad 8)) (C := RX2) (T := TX2) (N := 3) hx hb hts iX2 hown hK hP 1 rfl rfl 0 (Nat.le_of_ble_eq_true rfl) f106 (fun _ h9 => h9) rfl dX5_ifOut_66 ?_
                  refine lv_iload hx hb dX5_ifOut_69 (lv_at hl 3 rfl) ?_
                  obtain ⟨v10, ev10, nv10, h⟩ := e_rd h
                  refine xa_iald hx hb hK hP 2 rfl nv10 ev10 dX5_ifOut_71 ?_
                  obtain ⟨q11, eq11, h⟩ := e_b h
                  refine xv_v (As := [.int v10]) (rest := []) (ci := 3) (b := ad 51) ⟨hx, hb, hml, hown, hts⟩ hl.1 (kX3_push l D cA (fun i => ad (51 + i)) tally v10  _ eq11) (cwV 1 hts gX5_ifOut_X3_push rfl rfl rfl (by decide +kernel) ⟨Nat.le_of_ble_eq_true rfl, Nat.le_of_ble_eq_true rfl⟩) rfl hK hP hD hS hA 4 rfl rfl rfl [4, 5, 6, 7, 8] rfl (by decide +kernel) rfl (Nat.le_of_ble_eq_true rfl) dX5_ifOut_72 ⟨Nat.zero_le _, Nat.zero_le _⟩ (fun H locs hP hD hS => ?_)
                  have hP : va_P D vwCl (wD_row_tally cA ad block ties lines pmn row q11) H := hP
                  have hD : va_D A (wD_row_tally cA ad block ties lines pmn row q11) := hD
                  refine lv_iinc (v := (x4 + 1)) (lv' := [(4, .int (x4 + 1)), (0, .ref (ad 0)), (1, .int x1), (3, .int x3)]) hx hb dX5_ifOut_75 hl (k := 3) rfl rfl (by decide) rfl (fun ls hl => ?_)
                  refine lv_goto (tgt := 46) hx hb dX5_ifOut_78 (by decide) ?_
                  exact ih46 x1 x3 (x4 + 1) block ties lines pmn row q11 z7 _ _ _ (lv_sub hl [1, 2, 3, 0] rfl) hP hD hS h hk46
          obtain ⟨z12, ez12, h⟩ := e_b h
          refine hL46 FU x1 x3 x2 block ties lines pmn row q6 z12 _ _ _ (lv_sub hl [1, 2, 4, 0] rfl) hP hD hS ez12 (fun ls H locs hl hP hD hS => ?_)
          refine lv_aload_n hx hb dX5_ifOut_81 rfl (lv_at hl 0 rfl) ?_
          refine va_get (D := D) (ci := 5) (v := .ref (ad 51)) (C := RX5) (T := TX5) (N := 12) hx hb hts iX5 hown hK hP 0 rfl rfl 5 (Nat.le_of_ble_eq_true rfl) f43 (fun _ h9 => h9) rfl dX5_ifOut_82 ?_
          refine va_get (D := D) (ci := 3) (v := .int z12.2.2.2.2.2.2.1) (C := RX3) (T := TX3) (N := 8) hx hb hts iX3 hown hK hP 4 rfl rfl 6 (Nat.le_of_ble_eq_true rfl) f176 (fun _ h9 => h9) rfl dX5_ifOut_85 ?_
          obtain rfl := e_s h
          exact hret hP hS rfl dX5_ifOut_88
        · have h := e_f (not_not_intro c5) h
          refine lv_bipush (v := (-2)) hx hb dX5_ifOut_29 (by decide) ?_
          obtain rfl := e_s h
          exact hret hP hS rfl dX5_ifOut_31
      · have h := e_f c4 h
        refine lv_iconst (v := (-1)) hx hb dX5_ifOut_22 (by decide) ?_
        obtain rfl := e_s h
        exact hret hP hS rfl dX5_ifOut_23
set_option maxHeartbeats 4000000 in
set_option maxRecDepth 100000 in
theorem kX5_ifTies (l : Launch) (D : va_G) (cA : Nat → ClassId) (ad : Nat → Nat) (block : Int32) (ties : Int32) (lines : Int32) (pmn : Int32) (row : RowT) (tally : TalT) (x1 : Int32) (x2 : Int32) (x3 : Int32) (q : Int32 × TalT) (h : mX5_ifTies row tally x1 x2 x3 = some q) : MI l yX5_ifTies wsX5_ifTies { frames := 2, cells := 0, slots := 0, locals := 43 } D cA .int [.ref (ad 0), .int x1, .int x2, .int x3] (wD_row_tally cA ad block ties lines pmn row tally) (wD_row_tally cA ad block ties lines pmn row q.2) q.1 := by
  refine MI.of (cc := cX5_ifTies) (maxL := 5) (by decide +kernel) rfl rfl rfl (Nat.le_of_ble_eq_true rfl) ?_
  intro p e s m args below meth c A ls Q hx hb hml hts hown hK hP hD hA hS hl hret
  have hl : lv_has ls 5 [(0, .ref (ad 0)), (1, .int x1), (2, .int x2), (3, .int x3)] := hl
  have f106 := hts (.fieldLink RX5 106 "ModeDesk$Row" "values" "[I") (by decide +kernel)
  have f176 := hts (.fieldLink RX5 176 "ModeDesk$Tally" "best" "I") (by decide +kernel)
  have f26 := hts (.fieldLink RX5 26 "ModeDesk" "row" "LModeDesk$Row;") (by decide +kernel)
  have f43 := hts (.fieldLink RX5 43 "ModeDesk" "tally" "LModeDesk$Tally;") (by decide +kernel)
  have iX2 : ∀ w ∈ wsX20, w ∈ wsX5_ifTies := by decide +kernel
  have iX3 : ∀ w ∈ wsX30, w ∈ wsX5_ifTies := by decide +kernel
  have iX5 : ∀ w ∈ wsX50, w ∈ wsX5_ifTies := by decide +kernel
  unfold mX5_ifTies at h
  refine lv_iload_n hx hb dX5_ifTies_0 rfl (lv_at hl 1 rfl) ?_
  refine lv_if_lt (tgt := 21) hx hb dX5_ifTies_1 (by decide) (fun c1 => ?_) (fun c1 => ?_)
  · have h := e_t c1 h
    refine lv_iconst (v := (-1)) hx hb dX5_ifTies_21 (by decide) ?_
    obtain rfl := e_s h
    exact hret hP hS rfl dX5_ifTies_22
  · have h := e_f c1 h
    refine lv_iload_n hx hb dX5_ifTies_4 rfl (lv_at hl 1 rfl) ?_
    refine lv_iconst (v := 3) hx hb dX5_ifTies_5 (by decide) ?_
    refine lv_icmp_gt (tgt := 21) hx hb dX5_ifTies_6 (by decide) (fun c2 => ?_) (fun c2 => ?_)
    · have h := e_t c2 h
      refine lv_iconst (v := (-1)) hx hb dX5_ifTies_21 (by decide) ?_
      obtain rfl := e_s h
      exact hret hP hS rfl dX5_ifTies_22
    · have h := e_f c2 h
      refine lv_aload_n hx hb dX5_ifTies_9 rfl (lv_at hl 0 rfl) ?_
      refine va_get (D := D) (ci := 5) (v := .ref (ad 7)) (C := RX5) (T := TX5) (N := 12) hx hb hts iX5 hown hK hP 0 rfl rfl 2 (Nat.le_of_ble_eq_true rfl) f26 (fun _ h9 => h9) rfl dX5_ifTies_10 ?_
      refine lv_iload_n hx hb dX5_ifTies_13 rfl (lv_at hl 2 rfl) ?_
      refine lv_iload_n hx hb dX5_ifTies_14 rfl (lv_at hl 3 rfl) ?_
      obtain ⟨q3, eq3, h⟩ := e_b h
      refine xv_i (As := [.int x2, .int x3]) (rest := []) (ci := 2) (b := ad 7) ⟨hx, hb, hml, hown, hts⟩ hl.1 (kX2_hasSpan l D cA (fun i => ad (7 + i)) row x2 x3  _ eq3) (cwV 2 hts gX5_ifTies_X2_hasSpan rfl rfl rfl (by decide +kernel) ⟨Nat.le_of_ble_eq_true rfl, Nat.le_of_ble_eq_true rfl⟩) rfl hK hP hD hS hA 1 rfl rfl rfl [1, 2, 3] rfl (by decide +kernel) rfl (Nat.le_of_ble_eq_true rfl) dX5_ifTies_15 ⟨Nat.zero_le _, Nat.zero_le _⟩ (fun H locs hP hD hS hnq3 => ?_)
      have hP : va_P D vwCl (wD_row_tally cA ad block ties lines pmn row tally) H := hP
      have hD : va_D A (wD_row_tally cA ad block ties lines pmn row tally) := hD
      refine lv_if_ne (tgt := 23) hx hb dX5_ifTies_18 (by decide) (fun c4 => ?_) (fun c4 => ?_)
      · have h := e_t c4 h
        refine lv_aload_n hx hb dX5_ifTies_23 rfl (lv_at hl 0 rfl) ?_
        refine va_get (D := D) (ci := 5) (v := .ref (ad 51)) (C := RX5) (T := TX5) (N := 12) hx hb hts iX5 hown hK hP 0 rfl rfl 5 (Nat.le_of_ble_eq_true rfl) f43 (fun _ h9 => h9) rfl dX5_ifTies_24 ?_
        refine lv_iload_n hx hb dX5_ifTies_27 rfl (lv_at hl 1 rfl) ?_
        obtain ⟨q5, eq5, h⟩ := e_b h
        refine xv_v (As := [.int x1]) (rest := []) (ci := 3) (b := ad 51) ⟨hx, hb, hml, hown, hts⟩ hl.1 (kX3_begin l D cA (fun i => ad (51 + i)) tally x1  _ eq5) (cwV 1 hts gX5_ifTies_X3_begin rfl rfl rfl (by decide +kernel) ⟨Nat.le_of_ble_eq_true rfl, Nat.le_of_ble_eq_true rfl⟩) rfl hK hP hD hS hA 4 rfl rfl rfl [4, 5, 6, 7, 8] rfl (by decide +kernel) rfl (Nat.le_of_ble_eq_true rfl) dX5_ifTies_28 ⟨Nat.zero_le _, Nat.zero_le _⟩ (fun H locs hP hD hS => ?_)
        have hP : va_P D vwCl (wD_row_tally cA ad block ties lines pmn row q5) H := hP
        have hD : va_D A (wD_row_tally cA ad block ties lines pmn row q5) := hD
        refine lv_iload_n hx hb dX5_ifTies_31 rfl (lv_at hl 2 rfl) ?_
        refine lv_istore (lv' := [(4, .int x2), (0, .ref (ad 0)), (1, .int x1), (2, .int x2), (3, .int x3)]) hx hb dX5_ifTies_32 hl (by decide) rfl (fun ls hl => ?_)
        have hL34 : ∀ (n : Nat) (x3 : Int32) (x4 : Int32) (block : Int32) (ties : Int32) (lines : Int32) (pmn : Int32) (row : RowT) (tally : TalT) (z6 : TalT) (ls : Array Slot) (H : Heap) (locs : List Loc), lv_has ls 5 [(0, .ref (ad 0)), (3, .int x3), (4, .int x4)] → va_P D vwCl (wD_row_tally cA ad block ties lines pmn row tally) H → va_D A (wD_row_tally cA ad block ties lines pmn row tally) → va_S A s.heap H locs → mX5_ifTies_L34 row x3 n x4 tally = some z6 → (∀ (ls : Array Slot) (H : Heap) (locs : List Loc), lv_has ls 5 [(0, .ref (ad 0))] → va_P D vwCl (wD_row_tally cA ad block ties lines pmn row z6) H → va_D A (wD_row_tally cA ad block ties lines pmn row z6) → va_S A s.heap H locs → W p l e (headSpec wsX5_ifTies { frames := 2, cells := 0, slots := 0, locals := 43 }).room s m args below meth c H locs 0 0 Q (F0 m 63 ls [])) → W p l e (headSpec wsX5_ifTies { frames := 2, cells := 0, slots := 0, locals := 43 }).room s m args below meth c H locs 0 0 Q (F0 m 34 ls []) := by
          intro n
          induction n with
          | zero => intro x3 x4 block ties lines pmn row tally z6 ls H locs hl hP hD hS h hk34; exact e_n h
          | succ n ih34 =>
            intro x3 x4 block ties lines pmn row tally z6 ls H locs hl hP hD hS h hk34
            rw [mX5_ifTies_L34.eq_2] at h
            refine lv_iload hx hb dX5_ifTies_34 (lv_at hl 2 rfl) ?_
            refine lv_iload_n hx hb dX5_ifTies_36 rfl (lv_at hl 1 rfl) ?_
            refine lv_icmp_gt (tgt := 63) hx hb dX5_ifTies_37 (by decide) (fun c7 => ?_) (fun c7 => ?_)
            · have h := e_t c7 h
              obtain rfl := e_s h
              exact hk34 _ _ _ (lv_sub hl [0] rfl) hP hD hS
            · have h := e_f c7 h
              refine lv_aload_n hx hb dX5_ifTies_40 rfl (lv_at hl 0 rfl) ?_
              refine va_get (D := D) (ci := 5) (v := .ref (ad 51)) (C := RX5) (T := TX5) (N := 12) hx hb hts iX5 hown hK hP 0 rfl rfl 5 (Nat.le_of_ble_eq_true rfl) f43 (fun _ h9 => h9) rfl dX5_ifTies_41 ?_
              refine lv_aload_n hx hb dX5_ifTies_44 rfl (lv_at hl 0 rfl) ?_
              refine va_get (D := D) (ci := 5) (v := .ref (ad 7)) (C := RX5) (T := TX5) (N := 12) hx hb hts iX5 hown hK hP 0 rfl rfl 2 (Nat.le_of_ble_eq_true rfl) f26 (fun _ h9 => h9) rfl dX5_ifTies_45 ?_
              refine va_get (D := D) (ci := 2) (v := .ref (ad 8)) (C := RX2) (T := TX2) (N := 3) hx hb hts iX2 hown hK hP 1 rfl rfl 0 (Nat.le_of_ble_eq_true rfl) f106 (fun _ h9 => h9) rfl dX5_ifTies_48 ?_
              refine lv_iload hx hb dX5_ifTies_51 (lv_at hl 2 rfl) ?_
              obtain ⟨v8, ev8, nv8, h⟩ := e_rd h
              refine xa_iald hx hb hK hP 2 rfl nv8 ev8 dX5_ifTies_53 ?_
              obtain ⟨q9, eq9, h⟩ := e_b h
              refine xv_v (As := [.int v8]) (rest := []) (ci := 3) (b := ad 51) ⟨hx, hb, hml, hown, hts⟩ hl.1 (kX3_push l D cA (fun i => ad (51 + i)) tally v8  _ eq9) (cwV 1 hts gX5_ifTies_X3_push rfl rfl rfl (by decide +kernel) ⟨Nat.le_of_ble_eq_true rfl, Nat.le_of_ble_eq_true rfl⟩) rfl hK hP hD hS hA 4 rfl rfl rfl [4, 5, 6, 7, 8] rfl (by decide +kernel) rfl (Nat.le_of_ble_eq_true rfl) dX5_ifTies_54 ⟨Nat.zero_le _, Nat.zero_le _⟩ (fun H locs hP hD hS => ?_)
              have hP : va_P D vwCl (wD_row_tally cA ad block ties lines pmn row q9) H := hP
              have hD : va_D A (wD_row_tally cA ad block ties lines pmn row q9) := hD
              refine lv_iinc (v := (x4 + 1)) (lv' := [(4, .int (x4 + 1)), (0, .ref (ad 0)), (3, .int x3)]) hx hb dX5_ifTies_57 hl (k := 2) rfl rfl (by decide) rfl (fun ls hl => ?_)
              refine lv_goto (tgt := 34) hx hb dX5_ifTies_60 (by decide) ?_
              exact ih34 x3 (x4 + 1) block ties lines pmn row q9 z6 _ _ _ (lv_sub hl [1, 2, 0] rfl) hP hD hS h hk34
        obtain ⟨z10, ez10, h⟩ := e_b h
        refine hL34 FU x3 x2 block ties lines pmn row q5 z10 _ _ _ (lv_sub hl [1, 4, 0] rfl) hP hD hS ez10 (fun ls H locs hl hP hD hS => ?_)
        refine lv_aload_n hx hb dX5_ifTies_63 rfl (lv_at hl 0 rfl) ?_
        refine va_get (D := D) (ci := 5) (v := .ref (ad 51)) (C := RX5) (T := TX5) (N := 12) hx hb hts iX5 hown hK hP 0 rfl rfl 5 (Nat.le_of_ble_eq_true rfl) f43 (fun _ h9 => h9) rfl dX5_ifTies_64 ?_
        refine va_get (D := D) (ci := 3) (v := .int z10.2.2.2.2.2.2.1) (C := RX3) (T := TX3) (N := 8) hx hb hts iX3 hown hK hP 4 rfl rfl 6 (Nat.le_of_ble_eq_true rfl) f176 (fun _ h9 => h9) rfl dX5_ifTies_67 ?_
        obtain rfl := e_s h
        exact hret hP hS rfl dX5_ifTies_70
      · have h := e_f (not_not_intro c4) h
        refine lv_iconst (v := (-1)) hx hb dX5_ifTies_21 (by decide) ?_
        obtain rfl := e_s h
        exact hret hP hS rfl dX5_ifTies_22

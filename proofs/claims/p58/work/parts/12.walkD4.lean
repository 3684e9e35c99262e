set_option maxHeartbeats 4000000 in
set_option maxRecDepth 100000 in
theorem kX5_ifTies (l : Launch) (D : va_G) (cA : Nat → ClassId) (ad : Nat → Nat) (block : Int32) (ties : Int32) (lines : Int32) (pmn : Int32) (row : RowT) (tally : TalT) (x1 : Int32) (x2 : Int32) (x3 : Int32) (q : Int32 × TalT) (h : mX5_ifTies row tally x1 x2 x3 = some q) : MI l yX5_ifTies wsX5_ifTies { frames := 2, cells := 0, slots := 0, locals := 43 } D cA .int [.ref (ad 0), .int x1, .int x2, .int x3] (wD_row_tally cA ad block ties lines pmn row tally) (wD_row_tally cA ad block ties lines pmn row q.2) q.1 := by
  refine MI.of (cc := cX5_ifTies) (maxL := 5) (by decide +kernel) rfl rfl rfl (Nat.le_of_ble_eq_true rfl) ?_
  intro p e s m args below meth c A ls Q hx hb hml hts hown hK hP hD hA hS hl hret
  have hl : lv_has ls 5 [(0, .ref (ad 0)), (1, .int x1), (2, .int x2), (3, .int x3)] := hl
  have f106 := hts (.fieldLink RX5 106 "ModeDesk$Row" "values" "[I") (by decide +kernel)
  have f176 := hts (.fieldLink RX5 176 "ModeDesk$Tally" "best" "I") (by decide +kernel)
  have f26 := hts (.fieldLink RX5 26 "ModeDesk" "row" "LModeDesk$Row;") (by decide +kernel)
  have f43 := hts (.fieldLink RX5 43 "ModeDesk" "tally" "LModeDesk$Tally;") (by decide +kernel)
  have iX2 : ∀ w ∈ wsX20, w ∈ wsX5_ifTies := by decide +kernel
  have iX3 : ∀ w ∈ wsX30, w ∈ wsX5_ifTies := by decide +kernel
  have iX5 : ∀ w ∈ wsX50, w ∈ wsX5_ifTies := by decide +kernel
  unfold mX5_ifTies at h
  refine lv_iload_n hx hb dX5_ifTies_0 rfl (lv_at hl 1 rfl) ?_
  refine lv_if_lt (tgt := 21) hx hb dX5_ifTies_1 (by decide) (fun c1 => ?_) (fun c1 => ?_)
  · have h := e_t c1 h
    refine lv_iconst (v := (-1)) hx hb dX5_ifTies_21 (by decide) ?_
    obtain rfl := e_s h
    exact hret hP hS rfl dX5_ifTies_22
  · have h := e_f c1 h
    refine lv_iload_n hx hb dX5_ifTies_4 rfl (lv_at hl 1 rfl) ?_
    refine lv_iconst (v := 3) hx hb dX5_ifTies_5 (by decide) ?_
    refine lv_icmp_gt (tgt := 21) hx hb dX5_ifTies_6 (by decide) (fun c2 => ?_) (fun c2 => ?_)
    · have h := e_t c2 h
      refine lv_iconst (v := (-1)) hx hb dX5_ifTies_21 (by decide) ?_
      obtain rfl := e_s h
      exact hret hP hS rfl dX5_ifTies_22
    · have h := e_f c2 h
      refine lv_aload_n hx hb dX5_ifTies_9 rfl (lv_at hl 0 rfl) ?_
      refine va_get (D := D) (ci := 5) (v := .ref (ad 7)) (C := RX5) (T := TX5) (N := 12) hx hb hts iX5 hown hK hP 0 rfl rfl 2 (Nat.le_of_ble_eq_true rfl) f26 (fun _ h9 => h9) rfl dX5_ifTies_10 ?_
      refine lv_iload_n hx hb dX5_ifTies_13 rfl (lv_at hl 2 rfl) ?_
      refine lv_iload_n hx hb dX5_ifTies_14 rfl (lv_at hl 3 rfl) ?_
      obtain ⟨q3, eq3, h⟩ := e_b h
      refine xv_i (As := [.int x2, .int x3]) (rest := []) (ci := 2) (b := ad 7) ⟨hx, hb, hml, hown, hts⟩ hl.1 (kX2_hasSpan l D cA (fun i => ad (7 + i)) row x2 x3  _ eq3) (cwV 2 hts gX5_ifTies_X2_hasSpan rfl rfl rfl (by decide +kernel) ⟨Nat.le_of_ble_eq_true rfl, Nat.le_of_ble_eq_true rfl⟩) rfl hK hP hD hS hA 1 rfl rfl rfl [1, 2, 3] rfl (by decide +kernel) rfl (Nat.le_of_ble_eq_true rfl) dX5_ifTies_15 ⟨Nat.zero_le _, Nat.zero_le _⟩ (fun H locs hP hD hS hnq3 => ?_)
      have hP : va_P D vwCl (wD_row_tally cA ad block ties lines pmn row tally) H := hP
      have hD : va_D A (wD_row_tally cA ad block ties lines pmn row tally) := hD
      refine lv_if_ne (tgt := 23) hx hb dX5_ifTies_18 (by decide) (fun c4 => ?_) (fun c4 => ?_)
      · have h := e_t c4 h
        refine lv_aload_n hx hb dX5_ifTies_23 rfl (lv_at hl 0 rfl) ?_
        refine va_get (D := D) (ci := 5) (v := .ref (ad 51)) (C := RX5) (T := TX5) (N := 12) hx hb hts iX5 hown hK hP 0 rfl rfl 5 (Nat.le_of_ble_eq_true rfl) f43 (fun _ h9 => h9) rfl dX5_ifTies_24 ?_
        refine lv_iload_n hx hb dX5_ifTies_27 rfl (lv_at hl 1 rfl) ?_
        obtain ⟨q5, eq5, h⟩ := e_b h
        refine xv_v (As := [.int x1]) (rest := []) (ci := 3) (b := ad 51) ⟨hx, hb, hml, hown, hts⟩ hl.1 (kX3_begin l D cA (fun i => ad (51 + i)) tally x1  _ eq5) (cwV 1 hts gX5_ifTies_X3_begin rfl rfl rfl (by decide +kernel) ⟨Nat.le_of_ble_eq_true rfl, Nat.le_of_ble_eq_true rfl⟩) rfl hK hP hD hS hA 4 rfl rfl rfl [4, 5, 6, 7, 8] rfl (by decide +kernel) rfl (Nat.le_of_ble_eq_true rfl) dX5_ifTies_28 ⟨Nat.zero_le _, Nat.zero_le _⟩ (fun H locs hP hD hS => ?_)
        have hP : va_P D vwCl (wD_row_tally cA ad block ties lines pmn row q5) H := hP
        have hD : va_D A (wD_row_tally cA ad block ties lines pmn row q5) := hD
        refine lv_iload_n hx hb dX5_ifTies_31 rfl (lv_at hl 2 rfl) ?_
        refine lv_istore (lv' := [(4, .int x2), (0, .ref (ad 0)), (1, .int x1), (2, .int x2), (3, .int x3)]) hx hb dX5_ifTies_32 hl (by decide) rfl (fun ls hl => ?_)
        have hL34 : ∀ (n : Nat) (x3 : Int32) (x4 : Int32) (block : Int32) (ties : Int32) (lines : Int32) (pmn : Int32) (row : RowT) (tally : TalT) (z6 : TalT) (ls : Array Slot) (H : Heap) (locs : List Loc), lv_has ls 5 [(0, .ref (ad 0)), (3, .int x3), (4, .int x4)] → va_P D vwCl (wD_row_tally cA ad block ties lines pmn row tally) H → va_D A (wD_row_tally cA ad block ties lines pmn row tally) → va_S A s.heap H locs → mX5_ifTies_L34 row x3 n x4 tally = some z6 → (∀ (ls : Array Slot) (H : Heap) (locs : List Loc), lv_has ls 5 [(0, .ref (ad 0))] → va_P D vwCl (wD_row_tally cA ad block ties lines pmn row z6) H → va_D A (wD_row_tally cA ad block ties lines pmn row z6) → va_S A s.heap H locs → W p l e (headSpec wsX5_ifTies { frames := 2, cells := 0, slots := 0, locals := 43 }).room s m args below meth c H locs 0 0 Q (F0 m 63 ls [])) → W p l e (headSpec wsX5_ifTies { frames := 2, cells := 0, slots := 0, locals := 43 }).room s m args below meth c H locs 0 0 Q (F0 m 34 ls []) := by
          intro n
          induction n with
          | zero => intro x3 x4 block ties lines pmn row tally z6 ls H locs hl hP hD hS h hk34; exact e_n h
          | succ n ih34 =>
            intro x3 x4 block ties lines pmn row tally z6 ls H locs hl hP hD hS h hk34
            rw [mX5_ifTies_L34.eq_2] at h
            refine lv_iload hx hb dX5_ifTies_34 (lv_at hl 2 rfl) ?_
            refine lv_iload_n hx hb dX5_ifTies_36 rfl (lv_at hl 1 rfl) ?_
            refine lv_icmp_gt (tgt := 63) hx hb dX5_ifTies_37 (by decide) (fun c7 => ?_) (fun c7 => ?_)
            · have h := e_t c7 h
              obtain rfl := e_s h
              exact hk34 _ _ _ (lv_sub hl [0] rfl) hP hD hS
            · have h := e_f c7 h
              refine lv_aload_n hx hb dX5_ifTies_40 rfl (lv_at hl 0 rfl) ?_
              refine va_get (D := D) (ci := 5) (v := .ref (ad 51)) (C := RX5) (T := TX5) (N := 12) hx hb hts iX5 hown hK hP 0 rfl rfl 5 (Nat.le_of_ble_eq_true rfl) f43 (fun _ h9 => h9) rfl dX5_ifTies_41 ?_
              refine lv_aload_n hx hb dX5_ifTies_44 rfl (lv_at hl 0 rfl) ?_
              refine va_get (D := D) (ci := 5) (v := .ref (ad 7)) (C := RX5) (T := TX5) (N := 12) hx hb hts iX5 hown hK hP 0 rfl rfl 2 (Nat.le_of_ble_eq_true rfl) f26 (fun _ h9 => h9) rfl dX5_ifTies_45 ?_
              refine va_get (D := D) (ci := 2) (v := .ref (ad 8)) (C := RX2) (T := TX2) (N := 3) hx hb hts iX2 hown hK hP 1 rfl rfl 0 (Nat.le_of_ble_eq_true rfl) f106 (fun _ h9 => h9) rfl dX5_ifTies_48 ?_
              refine lv_iload hx hb dX5_ifTies_51 (lv_at hl 2 rfl) ?_
              obtain ⟨v8, ev8, nv8, h⟩ := e_rd h
              refine xa_iald hx hb hK hP 2 rfl nv8 ev8 dX5_ifTies_53 ?_
              obtain ⟨q9, eq9, h⟩ := e_b h
              refine xv_v (As := [.int v8]) (rest := []) (ci := 3) (b := ad 51) ⟨hx, hb, hml, hown, hts⟩ hl.1 (kX3_push l D cA (fun i => ad (51 + i)) tally v8  _ eq9) (cwV 1 hts gX5_ifTies_X3_push rfl rfl rfl (by decide +kernel) ⟨Nat.le_of_ble_eq_true rfl, Nat.le_of_ble_eq_true rfl⟩) rfl hK hP hD hS hA 4 rfl rfl rfl [4, 5, 6, 7, 8] rfl (by decide +kernel) rfl (Nat.le_of_ble_eq_true rfl) dX5_ifTies_54 ⟨Nat.zero_le _, Nat.zero_le _⟩ (fun H locs hP hD hS => ?_)
              have hP : va_P D vwCl (wD_row_tally cA ad block ties lines pmn row q9) H := hP
              have hD : va_D A (wD_row_tally cA ad block ties lines pmn row q9) := hD
              refine lv_iinc (v := (x4 + 1)) (lv' := [(4, .int (x4 + 1)), (0, .ref (ad 0)), (3, .int x3)]) hx hb dX5_ifTies_57 hl (k := 2) rfl rfl (by decide) rfl (fun ls hl => ?_)
              refine lv_goto (tgt := 34) hx hb dX5_ifTies_60 (by decide) ?_
              exact ih34 x3 (x4 + 1) block ties lines pmn row q9 z6 _ _ _ (lv_sub hl [1, 2, 0] rfl) hP hD hS h hk34
        obtain ⟨z10, ez10, h⟩ := e_b h
        refine hL34 FU x3 x2 block ties lines pmn row q5 z10 _ _ _ (lv_sub hl [1, 4, 0] rfl) hP hD hS ez10 (fun ls H locs hl hP hD hS => ?_)
        refine lv_aload_n hx hb dX5_ifTies_63 rfl (lv_at hl 0 rfl) ?_
        refine va_get (D := D) (ci := 5) (v := .ref (ad 51)) (C := RX5) (T := TX5) (N := 12) hx hb hts iX5 hown hK hP 0 rfl rfl 5 (Nat.le_of_ble_eq_true rfl) f43 (fun _ h9 => h9) rfl dX5_ifTies_64 ?_
        refine va_get (D := D) (ci := 3) (v := .int z10.2.2.2.2.2.2.1) (C := RX3) (T := TX3) (N := 8) hx hb hts iX3 hown hK hP 4 rfl rfl 6 (Nat.le_of_ble_eq_true rfl) f176 (fun _ h9 => h9) rfl dX5_ifTies_67 ?_
        obtain rfl := e_s h
        exact hret hP hS rfl dX5_ifTies_70
      · have h := e_f (not_not_intro c4) h
        refine lv_iconst (v := (-1)) hx hb dX5_ifTies_21 (by decide) ?_
        obtain rfl := e_s h
        exact hret hP hS rfl dX5_ifTies_22
set_option maxHeartbeats 4000000 in
set_option maxRecDepth 100000 in
theorem kX5_count (l : Launch) (D : va_G) (cA : Nat → ClassId) (ad : Nat → Nat) (block : Int32) (ties : Int32) (lines : Int32) (pmn : Int32) (tape : TapT) (row : RowT) (past : PasT) (tally : TalT) (x1 : Int32) (q : Int32 × TalT) (h : mX5_count block ties lines tape row past tally x1 = some q) : MI l yX5_count wsX5_count { frames := 3, cells := 0, slots := 0, locals := 66 } D cA .int [.ref (ad 0), .int x1] (wD_tape_row_past_tally cA ad block ties lines pmn tape row past tally) (wD_tape_row_past_tally cA ad block ties lines pmn tape row past q.2) q.1 := by
  refine MI.of (cc := cX5_count) (maxL := 2) (by decide +kernel) rfl rfl rfl (Nat.le_of_ble_eq_true rfl) ?_
  intro p e s m args below meth c A ls Q hx hb hml hts hown hK hP hD hA hS hl hret
  have hl : lv_has ls 2 [(0, .ref (ad 0)), (1, .int x1)] := hl
  have f10 := hts (.fieldLink RX5 10 "ModeDesk" "tape" "LModeDesk$Tape;") (by decide +kernel)
  have f135 := hts (.fieldLink RX5 135 "ModeDesk$Row" "size" "I") (by decide +kernel)
  have f182 := hts (.fieldLink RX5 182 "ModeDesk$Tally" "kinds" "I") (by decide +kernel)
  have f26 := hts (.fieldLink RX5 26 "ModeDesk" "row" "LModeDesk$Row;") (by decide +kernel)
  have f36 := hts (.fieldLink RX5 36 "ModeDesk" "past" "LModeDesk$Past;") (by decide +kernel)
  have f43 := hts (.fieldLink RX5 43 "ModeDesk" "tally" "LModeDesk$Tally;") (by decide +kernel)
  have f54 := hts (.fieldLink RX5 54 "ModeDesk" "block" "I") (by decide +kernel)
  have f58 := hts (.fieldLink RX5 58 "ModeDesk" "ties" "I") (by decide +kernel)
  have f61 := hts (.fieldLink RX5 61 "ModeDesk" "lines" "I") (by decide +kernel)
  have f67 := hts (.fieldLink RX5 67 "ModeDesk$Tape" "fed" "I") (by decide +kernel)
  have f86 := hts (.fieldLink RX5 86 "ModeDesk$Past" "held" "I") (by decide +kernel)
  have iX0 : ∀ w ∈ wsX00, w ∈ wsX5_count := by decide +kernel
  have iX2 : ∀ w ∈ wsX20, w ∈ wsX5_count := by decide +kernel
  have iX3 : ∀ w ∈ wsX30, w ∈ wsX5_count := by decide +kernel
  have iX4 : ∀ w ∈ wsX40, w ∈ wsX5_count := by decide +kernel
  have iX5 : ∀ w ∈ wsX50, w ∈ wsX5_count := by decide +kernel
  unfold mX5_count at h
  refine lv_iload_n hx hb dX5_count_0 rfl (lv_at hl 1 rfl) ?_
  by_cases c1 : x1 = 0
  · have h := e_t c1 h
    refine lv_tableIn (off := 51) (tgt := 52) hx hb dX5_count_1 (by rw [c1]; decide) (by rw [c1]; decide) (by rw [c1]; rfl) (by decide) ?_
    refine lv_aload_n hx hb dX5_count_52 rfl (lv_at hl 0 rfl) ?_
    refine va_get (D := D) (ci := 5) (v := .ref (ad 7)) (C := RX5) (T := TX5) (N := 12) hx hb hts iX5 hown hK hP 0 rfl rfl 2 (Nat.le_of_ble_eq_true rfl) f26 (fun _ h9 => h9) rfl dX5_count_53 ?_
    refine va_get (D := D) (ci := 2) (v := .int row.2.2) (C := RX2) (T := TX2) (N := 3) hx hb hts iX2 hown hK hP 3 rfl rfl 2 (Nat.le_of_ble_eq_true rfl) f135 (fun _ h9 => h9) rfl dX5_count_56 ?_
    obtain rfl := e_s h
    exact hret hP hS rfl dX5_count_59
  have h := e_f c1 h
  by_cases c2 : x1 = 1
  · have h := e_t c2 h
    refine lv_tableIn (off := 59) (tgt := 60) hx hb dX5_count_1 (by rw [c2]; decide) (by rw [c2]; decide) (by rw [c2]; rfl) (by decide) ?_
    refine lv_aload_n hx hb dX5_count_60 rfl (lv_at hl 0 rfl) ?_
    refine va_get (D := D) (ci := 5) (v := .int block) (C := RX5) (T := TX5) (N := 12) hx hb hts iX5 hown hK hP 0 rfl rfl 8 (Nat.le_of_ble_eq_true rfl) f54 (fun _ h9 => h9) rfl dX5_count_61 ?_
    obtain rfl := e_s h
    exact hret hP hS rfl dX5_count_64
  have h := e_f c2 h
  by_cases c4 : x1 = 2
  · have h := e_t c4 h
    refine lv_tableIn (off := 64) (tgt := 65) hx hb dX5_count_1 (by rw [c4]; decide) (by rw [c4]; decide) (by rw [c4]; rfl) (by decide) ?_
    refine lv_aload_n hx hb dX5_count_65 rfl (lv_at hl 0 rfl) ?_
    refine lv_aload_n hx hb dX5_count_66 rfl (lv_at hl 0 rfl) ?_
    refine va_get (D := D) (ci := 5) (v := .ref (ad 7)) (C := RX5) (T := TX5) (N := 12) hx hb hts iX5 hown hK hP 0 rfl rfl 2 (Nat.le_of_ble_eq_true rfl) f26 (fun _ h9 => h9) rfl dX5_count_67 ?_
    obtain ⟨q3, eq3, h⟩ := e_b h
    refine xv_i (As := [.ref (ad 7)]) (rest := []) (ci := 5) (b := ad 0) ⟨hx, hb, hml, hown, hts⟩ hl.1 (kX5_blocksOf l D cA ad (fun i => ad (7 + i)) block ties lines pmn row   _ eq3) (cwV 1 hts gX5_count_X5_blocksOf rfl rfl rfl (by decide +kernel) ⟨Nat.le_of_ble_eq_true rfl, Nat.le_of_ble_eq_true rfl⟩) rfl hK hP hD hS hA 0 rfl rfl rfl [0, 3, 4, 5] rfl (by decide +kernel) rfl (Nat.le_of_ble_eq_true rfl) dX5_count_70 ⟨Nat.zero_le _, Nat.zero_le _⟩ (fun H locs hP hD hS hnq3 => ?_)
    have hP : va_P D vwCl (wD_tape_row_past_tally cA ad block ties lines pmn tape row past tally) H := hP
    have hD : va_D A (wD_tape_row_past_tally cA ad block ties lines pmn tape row past tally) := hD
    obtain rfl := e_s h
    exact hret hP hS rfl dX5_count_73
  have h := e_f c4 h
  by_cases c5 : x1 = 3
  · have h := e_t c5 h
    refine lv_tableIn (off := 73) (tgt := 74) hx hb dX5_count_1 (by rw [c5]; decide) (by rw [c5]; decide) (by rw [c5]; rfl) (by decide) ?_
    refine lv_aload_n hx hb dX5_count_74 rfl (lv_at hl 0 rfl) ?_
    refine va_get (D := D) (ci := 5) (v := .int ties) (C := RX5) (T := TX5) (N := 12) hx hb hts iX5 hown hK hP 0 rfl rfl 9 (Nat.le_of_ble_eq_true rfl) f58 (fun _ h9 => h9) rfl dX5_count_75 ?_
    obtain rfl := e_s h
    exact hret hP hS rfl dX5_count_78
  have h := e_f c5 h
  by_cases c6 : x1 = 4
  · have h := e_t c6 h
    refine lv_tableIn (off := 78) (tgt := 79) hx hb dX5_count_1 (by rw [c6]; decide) (by rw [c6]; decide) (by rw [c6]; rfl) (by decide) ?_
    refine lv_aload_n hx hb dX5_count_79 rfl (lv_at hl 0 rfl) ?_
    refine va_get (D := D) (ci := 5) (v := .int lines) (C := RX5) (T := TX5) (N := 12) hx hb hts iX5 hown hK hP 0 rfl rfl 10 (Nat.le_of_ble_eq_true rfl) f61 (fun _ h9 => h9) rfl dX5_count_80 ?_
    obtain rfl := e_s h
    exact hret hP hS rfl dX5_count_83
  have h := e_f c6 h
  by_cases c8 : x1 = 5
  · have h := e_t c8 h
    refine lv_tableIn (off := 83) (tgt := 84) hx hb dX5_count_1 (by rw [c8]; decide) (by rw [c8]; decide) (by rw [c8]; rfl) (by decide) ?_
    refine lv_aload_n hx hb dX5_count_84 rfl (lv_at hl 0 rfl) ?_
    refine lv_iconst (v := 0) hx hb dX5_count_85 (by decide) ?_
    refine lv_aload_n hx hb dX5_count_86 rfl (lv_at hl 0 rfl) ?_
    refine va_get (D := D) (ci := 5) (v := .ref (ad 7)) (C := RX5) (T := TX5) (N := 12) hx hb hts iX5 hown hK hP 0 rfl rfl 2 (Nat.le_of_ble_eq_true rfl) f26 (fun _ h9 => h9) rfl dX5_count_87 ?_
    refine va_get (D := D) (ci := 2) (v := .int row.2.2) (C := RX2) (T := TX2) (N := 3) hx hb hts iX2 hown hK hP 3 rfl rfl 2 (Nat.le_of_ble_eq_true rfl) f135 (fun _ h9 => h9) rfl dX5_count_90 ?_
    refine lv_iconst (v := 1) hx hb dX5_count_93 (by decide) ?_
    refine lv_isub hx hb dX5_count_94 ?_
    obtain ⟨q7, eq7, h⟩ := e_b h
    refine xv_v (As := [.int 0, .int (row.2.2 - 1)]) (rest := []) (ci := 5) (b := ad 0) ⟨hx, hb, hml, hown, hts⟩ hl.1 (kX5_tallySpan l D cA ad block ties lines pmn row tally 0 (row.2.2 - 1)  _ eq7) (cwV 2 hts gX5_count_X5_tallySpan rfl rfl rfl (by decide +kernel) ⟨Nat.le_of_ble_eq_true rfl, Nat.le_of_ble_eq_true rfl⟩) rfl hK hP hD hS hA 0 rfl rfl rfl [0, 3, 4, 5, 44, 45, 46, 47, 48] rfl (by decide +kernel) rfl (Nat.le_of_ble_eq_true rfl) dX5_count_95 ⟨Nat.zero_le _, Nat.zero_le _⟩ (fun H locs hP hD hS => ?_)
    have hP : va_P D vwCl (wD_tape_row_past_tally cA ad block ties lines pmn tape row past q7) H := hP
    have hD : va_D A (wD_tape_row_past_tally cA ad block ties lines pmn tape row past q7) := hD
    refine lv_aload_n hx hb dX5_count_98 rfl (lv_at hl 0 rfl) ?_
    refine va_get (D := D) (ci := 5) (v := .ref (ad 51)) (C := RX5) (T := TX5) (N := 12) hx hb hts iX5 hown hK hP 0 rfl rfl 5 (Nat.le_of_ble_eq_true rfl) f43 (fun _ h9 => h9) rfl dX5_count_99 ?_
    refine va_get (D := D) (ci := 3) (v := .int q7.2.2.2.2.1) (C := RX3) (T := TX3) (N := 8) hx hb hts iX3 hown hK hP 44 rfl rfl 4 (Nat.le_of_ble_eq_true rfl) f182 (fun _ h9 => h9) rfl dX5_count_102 ?_
    obtain rfl := e_s h
    exact hret hP hS rfl dX5_count_105
  have h := e_f c8 h
  by_cases c9 : x1 = 6
  · have h := e_t c9 h
    refine lv_tableIn (off := 105) (tgt := 106) hx hb dX5_count_1 (by rw [c9]; decide) (by rw [c9]; decide) (by rw [c9]; rfl) (by decide) ?_
    refine lv_aload_n hx hb dX5_count_106 rfl (lv_at hl 0 rfl) ?_
    refine va_get (D := D) (ci := 5) (v := .ref (ad 13)) (C := RX5) (T := TX5) (N := 12) hx hb hts iX5 hown hK hP 0 rfl rfl 4 (Nat.le_of_ble_eq_true rfl) f36 (fun _ h9 => h9) rfl dX5_count_107 ?_
    refine va_get (D := D) (ci := 0) (v := .int past.2.1) (C := RX0) (T := TX0) (N := 3) hx hb hts iX0 hown hK hP 6 rfl rfl 1 (Nat.le_of_ble_eq_true rfl) f86 (fun _ h9 => h9) rfl dX5_count_110 ?_
    obtain rfl := e_s h
    exact hret hP hS rfl dX5_count_113
  have h := e_f c9 h
  by_cases c11 : x1 = 7
  · have h := e_t c11 h
    refine lv_tableIn (off := 113) (tgt := 114) hx hb dX5_count_1 (by rw [c11]; decide) (by rw [c11]; decide) (by rw [c11]; rfl) (by decide) ?_
    refine lv_aload_n hx hb dX5_count_114 rfl (lv_at hl 0 rfl) ?_
    refine va_get (D := D) (ci := 5) (v := .ref (ad 7)) (C := RX5) (T := TX5) (N := 12) hx hb hts iX5 hown hK hP 0 rfl rfl 2 (Nat.le_of_ble_eq_true rfl) f26 (fun _ h9 => h9) rfl dX5_count_115 ?_
    obtain ⟨q10, eq10, h⟩ := e_b h
    refine xv_i (As := []) (rest := []) (ci := 2) (b := ad 7) ⟨hx, hb, hml, hown, hts⟩ hl.1 (kX2_allWeights l D cA (fun i => ad (7 + i)) row   _ eq10) (cwV 0 hts gX5_count_X2_allWeights rfl rfl rfl (by decide +kernel) ⟨Nat.le_of_ble_eq_true rfl, Nat.le_of_ble_eq_true rfl⟩) rfl hK hP hD hS hA 3 rfl rfl rfl [3, 4, 5] rfl (by decide +kernel) rfl (Nat.le_of_ble_eq_true rfl) dX5_count_118 ⟨Nat.zero_le _, Nat.zero_le _⟩ (fun H locs hP hD hS hnq10 => ?_)
    have hP : va_P D vwCl (wD_tape_row_past_tally cA ad block ties lines pmn tape row past tally) H := hP
    have hD : va_D A (wD_tape_row_past_tally cA ad block ties lines pmn tape row past tally) := hD
    obtain rfl := e_s h
    exact hret hP hS rfl dX5_count_121
  have h := e_f c11 h
  by_cases c12 : x1 = 8
  · have h := e_t c12 h
    refine lv_tableIn (off := 121) (tgt := 122) hx hb dX5_count_1 (by rw [c12]; decide) (by rw [c12]; decide) (by rw [c12]; rfl) (by decide) ?_
    refine lv_aload_n hx hb dX5_count_122 rfl (lv_at hl 0 rfl) ?_
    refine va_get (D := D) (ci := 5) (v := .ref (ad 1)) (C := RX5) (T := TX5) (N := 12) hx hb hts iX5 hown hK hP 0 rfl rfl 0 (Nat.le_of_ble_eq_true rfl) f10 (fun _ h9 => h9) rfl dX5_count_123 ?_
    refine va_get (D := D) (ci := 4) (v := .int tape.2.1) (C := RX4) (T := TX4) (N := 7) hx hb hts iX4 hown hK hP 1 rfl rfl 1 (Nat.le_of_ble_eq_true rfl) f67 (fun _ h9 => h9) rfl dX5_count_126 ?_
    obtain rfl := e_s h
    exact hret hP hS rfl dX5_count_129
  have h := e_f c12 h
  refine lv_tableOut (tgt := 130) hx hb dX5_count_1 (sw_out 8 (fun k hk => by match k, hk with | 0, _ => exact c1 | 1, _ => exact c2 | 2, _ => exact c4 | 3, _ => exact c5 | 4, _ => exact c6 | 5, _ => exact c8 | 6, _ => exact c9 | 7, _ => exact c11 | 8, _ => exact c12 | (n + 9), hk => exact absurd hk (by omega)) (by decide)) (by decide) ?_
  refine lv_iconst (v := (-1)) hx hb dX5_count_130 (by decide) ?_
  obtain rfl := e_s h
  exact hret hP hS rfl dX5_count_131

set_option maxHeartbeats 4000000 in
set_option maxRecDepth 100000 in
theorem kX6_rank (l : Launch) (D : va_G) (cA : Nat → ClassId) (ad : Nat → Nat) (thrown : Int32) (tape : Nat → Int32) (taped : Int32) (value : Nat → Int32) (weight : Nat → Int32) (many : Int32) (block : Int32) (ties : Int32) (lines : Int32) (pastValue : Nat → Int32) (pastWeight : Nat → Int32) (pastMany : Nat → Int32) (undos : Int32) (fresh : Int32) (newValue : Nat → Int32) (newWeight : Nat → Int32) (newMany : Int32) (newBlock : Int32) (newTies : Int32) (newLines : Int32) (hasBlock : Int32) (hasTies : Int32) (size : Int32) (att : Int32) (place : Int32) (sort : Int32) (number : Int32) (fault : Int32) (faultPlace : Int32) (lastFault : Int32) (lastPlace : Int32) (toValue : Nat → Int32) (toWeight : Nat → Int32) (toMany : Int32) (often : Nat → Int32) (firstOf : Nat → Int32) (lastOf : Nat → Int32) (unlikes : Nat → Int32) (unlikeMany : Int32) (isCandidate : Nat → Int32) (modes : Nat → Int32) (fewest : Nat → Int32) (x1 : Int32) (x2 : Int32) (x3 : Int32) (q : Int32 × Int32 × (Nat → Int32) × (Nat → Int32) × (Nat → Int32) × (Nat → Int32) × Int32) (h : mX6_rank thrown value many ties often firstOf lastOf unlikes unlikeMany x1 x2 x3 = some q) : MI l yX6_rank wsX6_rank { frames := 2, cells := 0, slots := 0, locals := 47 } D cA .int [.ref (ad 0), .int x1, .int x2, .int x3] (wX6 cA ad thrown tape taped value weight many block ties lines pastValue pastWeight pastMany undos fresh newValue newWeight newMany newBlock newTies newLines hasBlock hasTies size att place sort number fault faultPlace lastFault lastPlace toValue toWeight toMany often firstOf lastOf unlikes unlikeMany isCandidate modes fewest) (wX6 cA ad q.2.1 tape taped value weight many block ties lines pastValue pastWeight pastMany undos fresh newValue newWeight newMany newBlock newTies newLines hasBlock hasTies size att place sort number fault faultPlace lastFault lastPlace toValue toWeight toMany q.2.2.1 q.2.2.2.1 q.2.2.2.2.1 q.2.2.2.2.2.1 q.2.2.2.2.2.2 isCandidate modes fewest) q.1 := by
  refine MI.of (cc := cX6_rank) (maxL := 4) (by decide +kernel) rfl rfl rfl (Nat.le_of_ble_eq_true rfl) ?_
  intro p e s m args below meth c A ls Q hx hb hml hts hown hK hP hD hA hS hl hret
  have hl : lv_has ls 4 [(0, .ref (ad 0)), (1, .int x1), (2, .int x2), (3, .int x3)] := hl
  have f178 := hts (.fieldLink RX6 178 "ModeDeskModel" "ties" "I") (by decide +kernel)
  have f47 := hts (.fieldLink RX6 47 "ModeDeskModel" "often" "[I") (by decide +kernel)
  have f72 := hts (.fieldLink RX6 72 "ModeDeskModel" "thrown" "I") (by decide +kernel)
  have iX6 : ∀ w ∈ wsX60, w ∈ wsX6_rank := by decide +kernel
  unfold mX6_rank at h
  refine lv_aload_n hx hb dX6_rank_0 rfl (lv_at hl 0 rfl) ?_
  refine lv_iconst (v := 0) hx hb dX6_rank_1 (by decide) ?_
  refine va_put (D := D) (ci := 6) (v := .int 0) (ty := .int) (C := RX6) (T := TX6) (N := 42) hx hb hts iX6 tyX6 tyX6_ok nmX6 hown hK hP hD hS 0 rfl rfl 0 (Nat.le_of_ble_eq_true rfl) f72 (fun _ h9 => h9) rfl (tyX6_ok 0 (Nat.le_of_ble_eq_true rfl)) rfl rfl (Nat.le_of_ble_eq_true rfl) dX6_rank_2 (fun H locs hP hD hS => ?_)
  have hP : va_P D vwCl (wX6 cA ad 0 tape taped value weight many block ties lines pastValue pastWeight pastMany undos fresh newValue newWeight newMany newBlock newTies newLines hasBlock hasTies size att place sort number fault faultPlace lastFault lastPlace toValue toWeight toMany often firstOf lastOf unlikes unlikeMany isCandidate modes fewest) H := hP
  have hD : va_D A (wX6 cA ad 0 tape taped value weight many block ties lines pastValue pastWeight pastMany undos fresh newValue newWeight newMany newBlock newTies newLines hasBlock hasTies size att place sort number fault faultPlace lastFault lastPlace toValue toWeight toMany often firstOf lastOf unlikes unlikeMany isCandidate modes fewest) := hD
  refine lv_aload_n hx hb dX6_rank_5 rfl (lv_at hl 0 rfl) ?_
  refine lv_iload_n hx hb dX6_rank_6 rfl (lv_at hl 1 rfl) ?_
  refine lv_iload_n hx hb dX6_rank_7 rfl (lv_at hl 2 rfl) ?_
  obtain ⟨q1, eq1, h⟩ := e_b h
  refine xv_i0 (As := [.int x1, .int x2]) (rest := []) (ci := 6) (b := ad 0) ⟨hx, hb, hml, hown, hts⟩ hl.1 (kX6_isSpan l D cA ad 0 tape taped value weight many block ties lines pastValue pastWeight pastMany undos fresh newValue newWeight newMany newBlock newTies newLines hasBlock hasTies size att place sort number fault faultPlace lastFault lastPlace toValue toWeight toMany often firstOf lastOf unlikes unlikeMany isCandidate modes fewest x1 x2  _ eq1) (cwV 2 hts gX6_rank_X6_isSpan rfl rfl rfl (by decide +kernel) ⟨Nat.le_of_ble_eq_true rfl, Nat.le_of_ble_eq_true rfl⟩) rfl hK hP hD hS hA 0 rfl rfl rfl rfl (Nat.le_of_ble_eq_true rfl) dX6_rank_8 ⟨Nat.zero_le _, Nat.zero_le _⟩ (fun H locs hP hD hS hnq1 => ?_)
  have hP : va_P D vwCl (wX6 cA ad 0 tape taped value weight many block ties lines pastValue pastWeight pastMany undos fresh newValue newWeight newMany newBlock newTies newLines hasBlock hasTies size att place sort number fault faultPlace lastFault lastPlace toValue toWeight toMany often firstOf lastOf unlikes unlikeMany isCandidate modes fewest) H := hP
  have hD : va_D A (wX6 cA ad 0 tape taped value weight many block ties lines pastValue pastWeight pastMany undos fresh newValue newWeight newMany newBlock newTies newLines hasBlock hasTies size att place sort number fault faultPlace lastFault lastPlace toValue toWeight toMany often firstOf lastOf unlikes unlikeMany isCandidate modes fewest) := hD
  refine lv_if_eq (tgt := 21) hx hb dX6_rank_11 (by decide) (fun c2 => ?_) (fun c2 => ?_)
  · have h := e_t c2 h
    refine lv_iconst (v := (-1)) hx hb dX6_rank_21 (by decide) ?_
    obtain rfl := e_s h
    exact hret hP hS rfl dX6_rank_22
  · have h := e_f c2 h
    refine lv_iload_n hx hb dX6_rank_14 rfl (lv_at hl 3 rfl) ?_
    obtain ⟨q3, eq3, h⟩ := e_b h
    refine xs_i (As := [.int x3]) (rest := []) ⟨hx, hb, hml, hown, hts⟩ hl.1 (kX6_isValue l D cA   x3  _ eq3) (va_cwS 1 hts gX6_rank_X6_isValue rfl rfl rfl (by decide +kernel) ⟨Nat.le_of_ble_eq_true rfl, Nat.le_of_ble_eq_true rfl⟩) rfl hK hP hD hS hA [] rfl (by decide +kernel) rfl (Nat.le_of_ble_eq_true rfl) dX6_rank_15 ⟨Nat.zero_le _, Nat.zero_le _⟩ (fun H locs hP hD hS hnq3 => ?_)
    have hP : va_P D vwCl (wX6 cA ad 0 tape taped value weight many block ties lines pastValue pastWeight pastMany undos fresh newValue newWeight newMany newBlock newTies newLines hasBlock hasTies size att place sort number fault faultPlace lastFault lastPlace toValue toWeight toMany often firstOf lastOf unlikes unlikeMany isCandidate modes fewest) H := hP
    have hD : va_D A (wX6 cA ad 0 tape taped value weight many block ties lines pastValue pastWeight pastMany undos fresh newValue newWeight newMany newBlock newTies newLines hasBlock hasTies size att place sort number fault faultPlace lastFault lastPlace toValue toWeight toMany often firstOf lastOf unlikes unlikeMany isCandidate modes fewest) := hD
    refine lv_if_ne (tgt := 23) hx hb dX6_rank_18 (by decide) (fun c4 => ?_) (fun c4 => ?_)
    · have h := e_t c4 h
      refine lv_aload_n hx hb dX6_rank_23 rfl (lv_at hl 0 rfl) ?_
      refine lv_iload_n hx hb dX6_rank_24 rfl (lv_at hl 1 rfl) ?_
      refine lv_iload_n hx hb dX6_rank_25 rfl (lv_at hl 2 rfl) ?_
      refine lv_iconst (v := (-1)) hx hb dX6_rank_26 (by decide) ?_
      obtain ⟨q5, eq5, h⟩ := e_b h
      refine xv_v0 (As := [.int x1, .int x2, .int (-1)]) (rest := []) (ci := 6) (b := ad 0) ⟨hx, hb, hml, hown, hts⟩ hl.1 (kX6_counts l D cA ad 0 tape taped value weight many block ties lines pastValue pastWeight pastMany undos fresh newValue newWeight newMany newBlock newTies newLines hasBlock hasTies size att place sort number fault faultPlace lastFault lastPlace toValue toWeight toMany often firstOf lastOf unlikes unlikeMany isCandidate modes fewest x1 x2 (-1)  _ eq5) (cwV 3 hts gX6_rank_X6_counts rfl rfl rfl (by decide +kernel) ⟨Nat.le_of_ble_eq_true rfl, Nat.le_of_ble_eq_true rfl⟩) rfl hK hP hD hS hA 0 rfl rfl rfl rfl (Nat.le_of_ble_eq_true rfl) dX6_rank_27 ⟨Nat.zero_le _, Nat.zero_le _⟩ (fun H locs hP hD hS => ?_)
      have hP : va_P D vwCl (wX6 cA ad 0 tape taped value weight many block ties lines pastValue pastWeight pastMany undos fresh newValue newWeight newMany newBlock newTies newLines hasBlock hasTies size att place sort number fault faultPlace lastFault lastPlace toValue toWeight toMany q5.1 q5.2.1 q5.2.2.1 q5.2.2.2.1 q5.2.2.2.2 isCandidate modes fewest) H := hP
      have hD : va_D A (wX6 cA ad 0 tape taped value weight many block ties lines pastValue pastWeight pastMany undos fresh newValue newWeight newMany newBlock newTies newLines hasBlock hasTies size att place sort number fault faultPlace lastFault lastPlace toValue toWeight toMany q5.1 q5.2.1 q5.2.2.1 q5.2.2.2.1 q5.2.2.2.2 isCandidate modes fewest) := hD
      refine lv_aload_n hx hb dX6_rank_30 rfl (lv_at hl 0 rfl) ?_
      refine va_get (D := D) (ci := 6) (v := .ref (ad 11)) (C := RX6) (T := TX6) (N := 42) hx hb hts iX6 hown hK hP 0 rfl rfl 34 (Nat.le_of_ble_eq_true rfl) f47 (fun _ h9 => h9) rfl dX6_rank_31 ?_
      refine lv_iload_n hx hb dX6_rank_34 rfl (lv_at hl 3 rfl) ?_
      obtain ⟨v6, ev6, nv6, h⟩ := e_rd h
      refine xa_iald hx hb hK hP 11 rfl nv6 ev6 dX6_rank_35 ?_
      refine lv_if_ne (tgt := 44) hx hb dX6_rank_36 (by decide) (fun c7 => ?_) (fun c7 => ?_)
      · have h := e_t c7 h
        refine lv_aload_n hx hb dX6_rank_44 rfl (lv_at hl 0 rfl) ?_
        refine lv_iload_n hx hb dX6_rank_45 rfl (lv_at hl 3 rfl) ?_
        refine lv_aload_n hx hb dX6_rank_46 rfl (lv_at hl 0 rfl) ?_
        refine va_get (D := D) (ci := 6) (v := .int ties) (C := RX6) (T := TX6) (N := 42) hx hb hts iX6 hown hK hP 0 rfl rfl 7 (Nat.le_of_ble_eq_true rfl) f178 (fun _ h9 => h9) rfl dX6_rank_47 ?_
        obtain ⟨q8, eq8, h⟩ := e_b h
        refine xv_i0 (As := [.int x3, .int ties]) (rest := []) (ci := 6) (b := ad 0) ⟨hx, hb, hml, hown, hts⟩ hl.1 (kX6_rankOf l D cA ad 0 tape taped value weight many block ties lines pastValue pastWeight pastMany undos fresh newValue newWeight newMany newBlock newTies newLines hasBlock hasTies size att place sort number fault faultPlace lastFault lastPlace toValue toWeight toMany q5.1 q5.2.1 q5.2.2.1 q5.2.2.2.1 q5.2.2.2.2 isCandidate modes fewest x3 ties  _ eq8) (cwV 2 hts gX6_rank_X6_rankOf rfl rfl rfl (by decide +kernel) ⟨Nat.le_of_ble_eq_true rfl, Nat.le_of_ble_eq_true rfl⟩) rfl hK hP hD hS hA 0 rfl rfl rfl rfl (Nat.le_of_ble_eq_true rfl) dX6_rank_50 ⟨Nat.zero_le _, Nat.zero_le _⟩ (fun H locs hP hD hS hnq8 => ?_)
        have hP : va_P D vwCl (wX6 cA ad 0 tape taped value weight many block ties lines pastValue pastWeight pastMany undos fresh newValue newWeight newMany newBlock newTies newLines hasBlock hasTies size att place sort number fault faultPlace lastFault lastPlace toValue toWeight toMany q5.1 q5.2.1 q5.2.2.1 q5.2.2.2.1 q5.2.2.2.2 isCandidate modes fewest) H := hP
        have hD : va_D A (wX6 cA ad 0 tape taped value weight many block ties lines pastValue pastWeight pastMany undos fresh newValue newWeight newMany newBlock newTies newLines hasBlock hasTies size att place sort number fault faultPlace lastFault lastPlace toValue toWeight toMany q5.1 q5.2.1 q5.2.2.1 q5.2.2.2.1 q5.2.2.2.2 isCandidate modes fewest) := hD
        obtain rfl := e_s h
        exact hret hP hS rfl dX6_rank_53
      · have h := e_f (not_not_intro c7) h
        refine lv_bipush (v := (-2)) hx hb dX6_rank_39 (by decide) ?_
        refine lv_goto (tgt := 53) hx hb dX6_rank_41 (by decide) ?_
        obtain rfl := e_s h
        exact hret hP hS rfl dX6_rank_53
    · have h := e_f (not_not_intro c4) h
      refine lv_iconst (v := (-1)) hx hb dX6_rank_21 (by decide) ?_
      obtain rfl := e_s h
      exact hret hP hS rfl dX6_rank_22
set_option maxHeartbeats 4000000 in
set_option maxRecDepth 100000 in
theorem kX6_often (l : Launch) (D : va_G) (cA : Nat → ClassId) (ad : Nat → Nat) (thrown : Int32) (tape : Nat → Int32) (taped : Int32) (value : Nat → Int32) (weight : Nat → Int32) (many : Int32) (block : Int32) (ties : Int32) (lines : Int32) (pastValue : Nat → Int32) (pastWeight : Nat → Int32) (pastMany : Nat → Int32) (undos : Int32) (fresh : Int32) (newValue : Nat → Int32) (newWeight : Nat → Int32) (newMany : Int32) (newBlock : Int32) (newTies : Int32) (newLines : Int32) (hasBlock : Int32) (hasTies : Int32) (size : Int32) (att : Int32) (place : Int32) (sort : Int32) (number : Int32) (fault : Int32) (faultPlace : Int32) (lastFault : Int32) (lastPlace : Int32) (toValue : Nat → Int32) (toWeight : Nat → Int32) (toMany : Int32) (often : Nat → Int32) (firstOf : Nat → Int32) (lastOf : Nat → Int32) (unlikes : Nat → Int32) (unlikeMany : Int32) (isCandidate : Nat → Int32) (modes : Nat → Int32) (fewest : Nat → Int32) (x1 : Int32) (x2 : Int32) (x3 : Int32) (q : Int32 × Int32) (h : mX6_often thrown value many x1 x2 x3 = some q) : MI l yX6_often wsX6_often { frames := 1, cells := 0, slots := 0, locals := 25 } D cA .int [.ref (ad 0), .int x1, .int x2, .int x3] (wX6 cA ad thrown tape taped value weight many block ties lines pastValue pastWeight pastMany undos fresh newValue newWeight newMany newBlock newTies newLines hasBlock hasTies size att place sort number fault faultPlace lastFault lastPlace toValue toWeight toMany often firstOf lastOf unlikes unlikeMany isCandidate modes fewest) (wX6 cA ad q.2 tape taped value weight many block ties lines pastValue pastWeight pastMany undos fresh newValue newWeight newMany newBlock newTies newLines hasBlock hasTies size att place sort number fault faultPlace lastFault lastPlace toValue toWeight toMany often firstOf lastOf unlikes unlikeMany isCandidate modes fewest) q.1 := by
  refine MI.of (cc := cX6_often) (maxL := 4) (by decide +kernel) rfl rfl rfl (Nat.le_of_ble_eq_true rfl) ?_
  intro p e s m args below meth c A ls Q hx hb hml hts hown hK hP hD hA hS hl hret
  have hl : lv_has ls 4 [(0, .ref (ad 0)), (1, .int x1), (2, .int x2), (3, .int x3)] := hl
  have f72 := hts (.fieldLink RX6 72 "ModeDeskModel" "thrown" "I") (by decide +kernel)
  have iX6 : ∀ w ∈ wsX60, w ∈ wsX6_often := by decide +kernel
  unfold mX6_often at h
  refine lv_aload_n hx hb dX6_often_0 rfl (lv_at hl 0 rfl) ?_
  refine lv_iconst (v := 0) hx hb dX6_often_1 (by decide) ?_
  refine va_put (D := D) (ci := 6) (v := .int 0) (ty := .int) (C := RX6) (T := TX6) (N := 42) hx hb hts iX6 tyX6 tyX6_ok nmX6 hown hK hP hD hS 0 rfl rfl 0 (Nat.le_of_ble_eq_true rfl) f72 (fun _ h9 => h9) rfl (tyX6_ok 0 (Nat.le_of_ble_eq_true rfl)) rfl rfl (Nat.le_of_ble_eq_true rfl) dX6_often_2 (fun H locs hP hD hS => ?_)
  have hP : va_P D vwCl (wX6 cA ad 0 tape taped value weight many block ties lines pastValue pastWeight pastMany undos fresh newValue newWeight newMany newBlock newTies newLines hasBlock hasTies size att place sort number fault faultPlace lastFault lastPlace toValue toWeight toMany often firstOf lastOf unlikes unlikeMany isCandidate modes fewest) H := hP
  have hD : va_D A (wX6 cA ad 0 tape taped value weight many block ties lines pastValue pastWeight pastMany undos fresh newValue newWeight newMany newBlock newTies newLines hasBlock hasTies size att place sort number fault faultPlace lastFault lastPlace toValue toWeight toMany often firstOf lastOf unlikes unlikeMany isCandidate modes fewest) := hD
  refine lv_aload_n hx hb dX6_often_5 rfl (lv_at hl 0 rfl) ?_
  refine lv_iload_n hx hb dX6_often_6 rfl (lv_at hl 1 rfl) ?_
  refine lv_iload_n hx hb dX6_often_7 rfl (lv_at hl 2 rfl) ?_
  obtain ⟨q1, eq1, h⟩ := e_b h
  refine xv_i0 (As := [.int x1, .int x2]) (rest := []) (ci := 6) (b := ad 0) ⟨hx, hb, hml, hown, hts⟩ hl.1 (kX6_isSpan l D cA ad 0 tape taped value weight many block ties lines pastValue pastWeight pastMany undos fresh newValue newWeight newMany newBlock newTies newLines hasBlock hasTies size att place sort number fault faultPlace lastFault lastPlace toValue toWeight toMany often firstOf lastOf unlikes unlikeMany isCandidate modes fewest x1 x2  _ eq1) (cwV 2 hts gX6_often_X6_isSpan rfl rfl rfl (by decide +kernel) ⟨Nat.le_of_ble_eq_true rfl, Nat.le_of_ble_eq_true rfl⟩) rfl hK hP hD hS hA 0 rfl rfl rfl rfl (Nat.le_of_ble_eq_true rfl) dX6_often_8 ⟨Nat.zero_le _, Nat.zero_le _⟩ (fun H locs hP hD hS hnq1 => ?_)
  have hP : va_P D vwCl (wX6 cA ad 0 tape taped value weight many block ties lines pastValue pastWeight pastMany undos fresh newValue newWeight newMany newBlock newTies newLines hasBlock hasTies size att place sort number fault faultPlace lastFault lastPlace toValue toWeight toMany often firstOf lastOf unlikes unlikeMany isCandidate modes fewest) H := hP
  have hD : va_D A (wX6 cA ad 0 tape taped value weight many block ties lines pastValue pastWeight pastMany undos fresh newValue newWeight newMany newBlock newTies newLines hasBlock hasTies size att place sort number fault faultPlace lastFault lastPlace toValue toWeight toMany often firstOf lastOf unlikes unlikeMany isCandidate modes fewest) := hD
  refine lv_if_eq (tgt := 21) hx hb dX6_often_11 (by decide) (fun c2 => ?_) (fun c2 => ?_)
  · have h := e_t c2 h
    refine lv_iconst (v := (-1)) hx hb dX6_often_21 (by decide) ?_
    refine lv_goto (tgt := 32) hx hb dX6_often_22 (by decide) ?_
    obtain rfl := e_s h
    exact hret hP hS rfl dX6_often_32
  · have h := e_f c2 h
    refine lv_iload_n hx hb dX6_often_14 rfl (lv_at hl 3 rfl) ?_
    obtain ⟨q3, eq3, h⟩ := e_b h
    refine xs_i (As := [.int x3]) (rest := []) ⟨hx, hb, hml, hown, hts⟩ hl.1 (kX6_isValue l D cA   x3  _ eq3) (va_cwS 1 hts gX6_often_X6_isValue rfl rfl rfl (by decide +kernel) ⟨Nat.le_of_ble_eq_true rfl, Nat.le_of_ble_eq_true rfl⟩) rfl hK hP hD hS hA [] rfl (by decide +kernel) rfl (Nat.le_of_ble_eq_true rfl) dX6_often_15 ⟨Nat.zero_le _, Nat.zero_le _⟩ (fun H locs hP hD hS hnq3 => ?_)
    have hP : va_P D vwCl (wX6 cA ad 0 tape taped value weight many block ties lines pastValue pastWeight pastMany undos fresh newValue newWeight newMany newBlock newTies newLines hasBlock hasTies size att place sort number fault faultPlace lastFault lastPlace toValue toWeight toMany often firstOf lastOf unlikes unlikeMany isCandidate modes fewest) H := hP
    have hD : va_D A (wX6 cA ad 0 tape taped value weight many block ties lines pastValue pastWeight pastMany undos fresh newValue newWeight newMany newBlock newTies newLines hasBlock hasTies size att place sort number fault faultPlace lastFault lastPlace toValue toWeight toMany often firstOf lastOf unlikes unlikeMany isCandidate modes fewest) := hD
    refine lv_if_ne (tgt := 25) hx hb dX6_often_18 (by decide) (fun c4 => ?_) (fun c4 => ?_)
    · have h := e_t c4 h
      refine lv_aload_n hx hb dX6_often_25 rfl (lv_at hl 0 rfl) ?_
      refine lv_iload_n hx hb dX6_often_26 rfl (lv_at hl 1 rfl) ?_
      refine lv_iload_n hx hb dX6_often_27 rfl (lv_at hl 2 rfl) ?_
      refine lv_iload_n hx hb dX6_often_28 rfl (lv_at hl 3 rfl) ?_
      obtain ⟨q5, eq5, h⟩ := e_b h
      refine xv_i0 (As := [.int x1, .int x2, .int x3]) (rest := []) (ci := 6) (b := ad 0) ⟨hx, hb, hml, hown, hts⟩ hl.1 (kX6_timesIn l D cA ad 0 tape taped value weight many block ties lines pastValue pastWeight pastMany undos fresh newValue newWeight newMany newBlock newTies newLines hasBlock hasTies size att place sort number fault faultPlace lastFault lastPlace toValue toWeight toMany often firstOf lastOf unlikes unlikeMany isCandidate modes fewest x1 x2 x3  _ eq5) (cwV 3 hts gX6_often_X6_timesIn rfl rfl rfl (by decide +kernel) ⟨Nat.le_of_ble_eq_true rfl, Nat.le_of_ble_eq_true rfl⟩) rfl hK hP hD hS hA 0 rfl rfl rfl rfl (Nat.le_of_ble_eq_true rfl) dX6_often_29 ⟨Nat.zero_le _, Nat.zero_le _⟩ (fun H locs hP hD hS hnq5 => ?_)
      have hP : va_P D vwCl (wX6 cA ad 0 tape taped value weight many block ties lines pastValue pastWeight pastMany undos fresh newValue newWeight newMany newBlock newTies newLines hasBlock hasTies size att place sort number fault faultPlace lastFault lastPlace toValue toWeight toMany often firstOf lastOf unlikes unlikeMany isCandidate modes fewest) H := hP
      have hD : va_D A (wX6 cA ad 0 tape taped value weight many block ties lines pastValue pastWeight pastMany undos fresh newValue newWeight newMany newBlock newTies newLines hasBlock hasTies size att place sort number fault faultPlace lastFault lastPlace toValue toWeight toMany often firstOf lastOf unlikes unlikeMany isCandidate modes fewest) := hD
      obtain rfl := e_s h
      exact hret hP hS rfl dX6_often_32
    · have h := e_f (not_not_intro c4) h
      refine lv_iconst (v := (-1)) hx hb dX6_often_21 (by decide) ?_
      refine lv_goto (tgt := 32) hx hb dX6_often_22 (by decide) ?_
      obtain rfl := e_s h
      exact hret hP hS rfl dX6_often_32
set_option maxHeartbeats 4000000 in
set_option maxRecDepth 100000 in
theorem kX6_at (l : Launch) (D : va_G) (cA : Nat → ClassId) (ad : Nat → Nat) (thrown : Int32) (tape : Nat → Int32) (taped : Int32) (value : Nat → Int32) (weight : Nat → Int32) (many : Int32) (block : Int32) (ties : Int32) (lines : Int32) (pastValue : Nat → Int32) (pastWeight : Nat → Int32) (pastMany : Nat → Int32) (undos : Int32) (fresh : Int32) (newValue : Nat → Int32) (newWeight : Nat → Int32) (newMany : Int32) (newBlock : Int32) (newTies : Int32) (newLines : Int32) (hasBlock : Int32) (hasTies : Int32) (size : Int32) (att : Int32) (place : Int32) (sort : Int32) (number : Int32) (fault : Int32) (faultPlace : Int32) (lastFault : Int32) (lastPlace : Int32) (toValue : Nat → Int32) (toWeight : Nat → Int32) (toMany : Int32) (often : Nat → Int32) (firstOf : Nat → Int32) (lastOf : Nat → Int32) (unlikes : Nat → Int32) (unlikeMany : Int32) (isCandidate : Nat → Int32) (modes : Nat → Int32) (fewest : Nat → Int32) (x1 : Int32) (x2 : Int32) (q : Int32 × Int32) (h : mX6_at thrown value many x1 x2 = some q) : MI l yX6_at wsX6_at { frames := 1, cells := 0, slots := 0, locals := 20 } D cA .int [.ref (ad 0), .int x1, .int x2] (wX6 cA ad thrown tape taped value weight many block ties lines pastValue pastWeight pastMany undos fresh newValue newWeight newMany newBlock newTies newLines hasBlock hasTies size att place sort number fault faultPlace lastFault lastPlace toValue toWeight toMany often firstOf lastOf unlikes unlikeMany isCandidate modes fewest) (wX6 cA ad q.2 tape taped value weight many block ties lines pastValue pastWeight pastMany undos fresh newValue newWeight newMany newBlock newTies newLines hasBlock hasTies size att place sort number fault faultPlace lastFault lastPlace toValue toWeight toMany often firstOf lastOf unlikes unlikeMany isCandidate modes fewest) q.1 := by
  refine MI.of (cc := cX6_at) (maxL := 5) (by decide +kernel) rfl rfl rfl (Nat.le_of_ble_eq_true rfl) ?_
  intro p e s m args below meth c A ls Q hx hb hml hts hown hK hP hD hA hS hl hret
  have hl : lv_has ls 5 [(0, .ref (ad 0)), (1, .int x1), (2, .int x2)] := hl
  have f13 := hts (.fieldLink RX6 13 "ModeDeskModel" "value" "[I") (by decide +kernel)
  have f175 := hts (.fieldLink RX6 175 "ModeDeskModel" "many" "I") (by decide +kernel)
  have f72 := hts (.fieldLink RX6 72 "ModeDeskModel" "thrown" "I") (by decide +kernel)
  have iX6 : ∀ w ∈ wsX60, w ∈ wsX6_at := by decide +kernel
  unfold mX6_at at h
  refine lv_aload_n hx hb dX6_at_0 rfl (lv_at hl 0 rfl) ?_
  refine lv_iconst (v := 0) hx hb dX6_at_1 (by decide) ?_
  refine va_put (D := D) (ci := 6) (v := .int 0) (ty := .int) (C := RX6) (T := TX6) (N := 42) hx hb hts iX6 tyX6 tyX6_ok nmX6 hown hK hP hD hS 0 rfl rfl 0 (Nat.le_of_ble_eq_true rfl) f72 (fun _ h9 => h9) rfl (tyX6_ok 0 (Nat.le_of_ble_eq_true rfl)) rfl rfl (Nat.le_of_ble_eq_true rfl) dX6_at_2 (fun H locs hP hD hS => ?_)
  have hP : va_P D vwCl (wX6 cA ad 0 tape taped value weight many block ties lines pastValue pastWeight pastMany undos fresh newValue newWeight newMany newBlock newTies newLines hasBlock hasTies size att place sort number fault faultPlace lastFault lastPlace toValue toWeight toMany often firstOf lastOf unlikes unlikeMany isCandidate modes fewest) H := hP
  have hD : va_D A (wX6 cA ad 0 tape taped value weight many block ties lines pastValue pastWeight pastMany undos fresh newValue newWeight newMany newBlock newTies newLines hasBlock hasTies size att place sort number fault faultPlace lastFault lastPlace toValue toWeight toMany often firstOf lastOf unlikes unlikeMany isCandidate modes fewest) := hD
  refine lv_iload_n hx hb dX6_at_5 rfl (lv_at hl 1 rfl) ?_
  obtain ⟨q1, eq1, h⟩ := e_b h
  refine xs_i (As := [.int x1]) (rest := []) ⟨hx, hb, hml, hown, hts⟩ hl.1 (kX6_isValue l D cA   x1  _ eq1) (va_cwS 1 hts gX6_at_X6_isValue rfl rfl rfl (by decide +kernel) ⟨Nat.le_of_ble_eq_true rfl, Nat.le_of_ble_eq_true rfl⟩) rfl hK hP hD hS hA [] rfl (by decide +kernel) rfl (Nat.le_of_ble_eq_true rfl) dX6_at_6 ⟨Nat.zero_le _, Nat.zero_le _⟩ (fun H locs hP hD hS hnq1 => ?_)
  have hP : va_P D vwCl (wX6 cA ad 0 tape taped value weight many block ties lines pastValue pastWeight pastMany undos fresh newValue newWeight newMany newBlock newTies newLines hasBlock hasTies size att place sort number fault faultPlace lastFault lastPlace toValue toWeight toMany often firstOf lastOf unlikes unlikeMany isCandidate modes fewest) H := hP
  have hD : va_D A (wX6 cA ad 0 tape taped value weight many block ties lines pastValue pastWeight pastMany undos fresh newValue newWeight newMany newBlock newTies newLines hasBlock hasTies size att place sort number fault faultPlace lastFault lastPlace toValue toWeight toMany often firstOf lastOf unlikes unlikeMany isCandidate modes fewest) := hD
  refine lv_if_eq (tgt := 16) hx hb dX6_at_9 (by decide) (fun c2 => ?_) (fun c2 => ?_)
  · have h := e_t c2 h
    refine lv_iconst (v := (-1)) hx hb dX6_at_16 (by decide) ?_
    obtain rfl := e_s h
    exact hret hP hS rfl dX6_at_17
  · have h := e_f c2 h
    refine lv_iload_n hx hb dX6_at_12 rfl (lv_at hl 2 rfl) ?_
    refine lv_if_ge (tgt := 18) hx hb dX6_at_13 (by decide) (fun c3 => ?_) (fun c3 => ?_)
    · have h := e_t c3 h
      refine lv_iload_n hx hb dX6_at_18 rfl (lv_at hl 2 rfl) ?_
      refine lv_istore_n (lv' := [(3, .int x2), (0, .ref (ad 0)), (1, .int x1), (2, .int x2)]) hx hb dX6_at_19 rfl hl (by decide) rfl (fun ls hl => ?_)
      refine lv_iconst (v := 0) hx hb dX6_at_20 (by decide) ?_
      refine lv_istore (lv' := [(4, .int 0), (3, .int x2), (0, .ref (ad 0)), (1, .int x1), (2, .int x2)]) hx hb dX6_at_21 hl (by decide) rfl (fun ls hl => ?_)
      have hL23 : ∀ (n : Nat) (x1 : Int32) (x3 : Int32) (x4 : Int32) (ls : Array Slot) (H : Heap) (locs : List Loc), lv_has ls 5 [(0, .ref (ad 0)), (1, .int x1), (3, .int x3), (4, .int x4)] → va_P D vwCl (wX6 cA ad 0 tape taped value weight many block ties lines pastValue pastWeight pastMany undos fresh newValue newWeight newMany newBlock newTies newLines hasBlock hasTies size att place sort number fault faultPlace lastFault lastPlace toValue toWeight toMany often firstOf lastOf unlikes unlikeMany isCandidate modes fewest) H → va_D A (wX6 cA ad 0 tape taped value weight many block ties lines pastValue pastWeight pastMany undos fresh newValue newWeight newMany newBlock newTies newLines hasBlock hasTies size att place sort number fault faultPlace lastFault lastPlace toValue toWeight toMany often firstOf lastOf unlikes unlikeMany isCandidate modes fewest) → va_S A s.heap H locs → mX6_at_L23 0 value many x1 n x3 x4 = some q → W p l e (headSpec wsX6_at { frames := 1, cells := 0, slots := 0, locals := 20 }).room s m args below meth c H locs 0 0 Q (F0 m 23 ls []) := by
        intro n
        induction n with
        | zero => intro x1 x3 x4 ls H locs hl hP hD hS h; exact e_n h
        | succ n ih23 =>
          intro x1 x3 x4 ls H locs hl hP hD hS h
          rw [mX6_at_L23.eq_2] at h
          refine lv_iload hx hb dX6_at_23 (lv_at hl 3 rfl) ?_
          refine lv_aload_n hx hb dX6_at_25 rfl (lv_at hl 0 rfl) ?_
          refine va_get (D := D) (ci := 6) (v := .int many) (C := RX6) (T := TX6) (N := 42) hx hb hts iX6 hown hK hP 0 rfl rfl 5 (Nat.le_of_ble_eq_true rfl) f175 (fun _ h9 => h9) rfl dX6_at_26 ?_
          refine lv_icmp_ge (tgt := 62) hx hb dX6_at_29 (by decide) (fun c5 => ?_) (fun c5 => ?_)
          · have h := e_t c5 h
            refine lv_bipush (v := (-2)) hx hb dX6_at_62 (by decide) ?_
            obtain rfl := e_s h
            exact hret hP hS rfl dX6_at_64
          · have h := e_f c5 h
            refine lv_aload_n hx hb dX6_at_32 rfl (lv_at hl 0 rfl) ?_
            refine va_get (D := D) (ci := 6) (v := .ref (ad 2)) (C := RX6) (T := TX6) (N := 42) hx hb hts iX6 hown hK hP 0 rfl rfl 3 (Nat.le_of_ble_eq_true rfl) f13 (fun _ h9 => h9) rfl dX6_at_33 ?_
            refine lv_iload hx hb dX6_at_36 (lv_at hl 3 rfl) ?_
            obtain ⟨v6, ev6, nv6, h⟩ := e_rd h
            refine xa_iald hx hb hK hP 2 rfl nv6 ev6 dX6_at_38 ?_
            refine lv_iload_n hx hb dX6_at_39 rfl (lv_at hl 1 rfl) ?_
            refine lv_icmp_eq (tgt := 46) hx hb dX6_at_40 (by decide) (fun c7 => ?_) (fun c7 => ?_)
            · have h := e_t c7 h
              refine lv_iload_n hx hb dX6_at_46 rfl (lv_at hl 2 rfl) ?_
              refine lv_if_ne (tgt := 53) hx hb dX6_at_47 (by decide) (fun c8 => ?_) (fun c8 => ?_)
              · have h := e_t c8 h
                refine lv_iinc (v := (x3 + (-1))) (lv' := [(3, .int (x3 + (-1))), (0, .ref (ad 0)), (1, .int x1), (4, .int x4)]) hx hb dX6_at_53 hl (k := 2) rfl rfl (by decide) rfl (fun ls hl => ?_)
                refine lv_iinc (v := (x4 + 1)) (lv' := [(4, .int (x4 + 1)), (3, .int (x3 + (-1))), (0, .ref (ad 0)), (1, .int x1)]) hx hb dX6_at_56 hl (k := 3) rfl rfl (by decide) rfl (fun ls hl => ?_)
                refine lv_goto (tgt := 23) hx hb dX6_at_59 (by decide) ?_
                exact ih23 x1 (x3 + (-1)) (x4 + 1) _ _ _ (lv_sub hl [2, 3, 1, 0] rfl) hP hD hS h
              · have h := e_f (not_not_intro c8) h
                refine lv_iload hx hb dX6_at_50 (lv_at hl 3 rfl) ?_
                obtain rfl := e_s h
                exact hret hP hS rfl dX6_at_52
            · have h := e_f c7 h
              refine lv_goto (tgt := 56) hx hb dX6_at_43 (by decide) ?_
              refine lv_iinc (v := (x4 + 1)) (lv' := [(4, .int (x4 + 1)), (0, .ref (ad 0)), (1, .int x1), (3, .int x3)]) hx hb dX6_at_56 hl (k := 3) rfl rfl (by decide) rfl (fun ls hl => ?_)
              refine lv_goto (tgt := 23) hx hb dX6_at_59 (by decide) ?_
              exact ih23 x1 x3 (x4 + 1) _ _ _ (lv_sub hl [1, 2, 3, 0] rfl) hP hD hS h
      exact hL23 FU x1 x2 0 _ _ _ (lv_sub hl [2, 3, 1, 0] rfl) hP hD hS h
    · have h := e_f c3 h
      refine lv_iconst (v := (-1)) hx hb dX6_at_16 (by decide) ?_
      obtain rfl := e_s h
      exact hret hP hS rfl dX6_at_17
set_option maxHeartbeats 4000000 in
set_option maxRecDepth 100000 in
theorem kX6_unlike (l : Launch) (D : va_G) (cA : Nat → ClassId) (ad : Nat → Nat) (thrown : Int32) (tape : Nat → Int32) (taped : Int32) (value : Nat → Int32) (weight : Nat → Int32) (many : Int32) (block : Int32) (ties : Int32) (lines : Int32) (pastValue : Nat → Int32) (pastWeight : Nat → Int32) (pastMany : Nat → Int32) (undos : Int32) (fresh : Int32) (newValue : Nat → Int32) (newWeight : Nat → Int32) (newMany : Int32) (newBlock : Int32) (newTies : Int32) (newLines : Int32) (hasBlock : Int32) (hasTies : Int32) (size : Int32) (att : Int32) (place : Int32) (sort : Int32) (number : Int32) (fault : Int32) (faultPlace : Int32) (lastFault : Int32) (lastPlace : Int32) (toValue : Nat → Int32) (toWeight : Nat → Int32) (toMany : Int32) (often : Nat → Int32) (firstOf : Nat → Int32) (lastOf : Nat → Int32) (unlikes : Nat → Int32) (unlikeMany : Int32) (isCandidate : Nat → Int32) (modes : Nat → Int32) (fewest : Nat → Int32) (x1 : Int32) (x2 : Int32) (q : Int32 × Int32 × (Nat → Int32) × (Nat → Int32) × (Nat → Int32) × (Nat → Int32) × Int32) (h : mX6_unlike thrown value many often firstOf lastOf unlikes unlikeMany x1 x2 = some q) : MI l yX6_unlike wsX6_unlike { frames := 1, cells := 0, slots := 0, locals := 25 } D cA .int [.ref (ad 0), .int x1, .int x2] (wX6 cA ad thrown tape taped value weight many block ties lines pastValue pastWeight pastMany undos fresh newValue newWeight newMany newBlock newTies newLines hasBlock hasTies size att place sort number fault faultPlace lastFault lastPlace toValue toWeight toMany often firstOf lastOf unlikes unlikeMany isCandidate modes fewest) (wX6 cA ad q.2.1 tape taped value weight many block ties lines pastValue pastWeight pastMany undos fresh newValue newWeight newMany newBlock newTies newLines hasBlock hasTies size att place sort number fault faultPlace lastFault lastPlace toValue toWeight toMany q.2.2.1 q.2.2.2.1 q.2.2.2.2.1 q.2.2.2.2.2.1 q.2.2.2.2.2.2 isCandidate modes fewest) q.1 := by
  refine MI.of (cc := cX6_unlike) (maxL := 3) (by decide +kernel) rfl rfl rfl (Nat.le_of_ble_eq_true rfl) ?_
  intro p e s m args below meth c A ls Q hx hb hml hts hown hK hP hD hA hS hl hret
  have hl : lv_has ls 3 [(0, .ref (ad 0)), (1, .int x1), (2, .int x2)] := hl
  have f242 := hts (.fieldLink RX6 242 "ModeDeskModel" "unlikeMany" "I") (by decide +kernel)
  have f72 := hts (.fieldLink RX6 72 "ModeDeskModel" "thrown" "I") (by decide +kernel)
  have iX6 : ∀ w ∈ wsX60, w ∈ wsX6_unlike := by decide +kernel
  unfold mX6_unlike at h
  refine lv_aload_n hx hb dX6_unlike_0 rfl (lv_at hl 0 rfl) ?_
  refine lv_iconst (v := 0) hx hb dX6_unlike_1 (by decide) ?_
  refine va_put (D := D) (ci := 6) (v := .int 0) (ty := .int) (C := RX6) (T := TX6) (N := 42) hx hb hts iX6 tyX6 tyX6_ok nmX6 hown hK hP hD hS 0 rfl rfl 0 (Nat.le_of_ble_eq_true rfl) f72 (fun _ h9 => h9) rfl (tyX6_ok 0 (Nat.le_of_ble_eq_true rfl)) rfl rfl (Nat.le_of_ble_eq_true rfl) dX6_unlike_2 (fun H locs hP hD hS => ?_)
  have hP : va_P D vwCl (wX6 cA ad 0 tape taped value weight many block ties lines pastValue pastWeight pastMany undos fresh newValue newWeight newMany newBlock newTies newLines hasBlock hasTies size att place sort number fault faultPlace lastFault lastPlace toValue toWeight toMany often firstOf lastOf unlikes unlikeMany isCandidate modes fewest) H := hP
  have hD : va_D A (wX6 cA ad 0 tape taped value weight many block ties lines pastValue pastWeight pastMany undos fresh newValue newWeight newMany newBlock newTies newLines hasBlock hasTies size att place sort number fault faultPlace lastFault lastPlace toValue toWeight toMany often firstOf lastOf unlikes unlikeMany isCandidate modes fewest) := hD
  refine lv_aload_n hx hb dX6_unlike_5 rfl (lv_at hl 0 rfl) ?_
  refine lv_iload_n hx hb dX6_unlike_6 rfl (lv_at hl 1 rfl) ?_
  refine lv_iload_n hx hb dX6_unlike_7 rfl (lv_at hl 2 rfl) ?_
  obtain ⟨q1, eq1, h⟩ := e_b h
  refine xv_i0 (As := [.int x1, .int x2]) (rest := []) (ci := 6) (b := ad 0) ⟨hx, hb, hml, hown, hts⟩ hl.1 (kX6_isSpan l D cA ad 0 tape taped value weight many block ties lines pastValue pastWeight pastMany undos fresh newValue newWeight newMany newBlock newTies newLines hasBlock hasTies size att place sort number fault faultPlace lastFault lastPlace toValue toWeight toMany often firstOf lastOf unlikes unlikeMany isCandidate modes fewest x1 x2  _ eq1) (cwV 2 hts gX6_unlike_X6_isSpan rfl rfl rfl (by decide +kernel) ⟨Nat.le_of_ble_eq_true rfl, Nat.le_of_ble_eq_true rfl⟩) rfl hK hP hD hS hA 0 rfl rfl rfl rfl (Nat.le_of_ble_eq_true rfl) dX6_unlike_8 ⟨Nat.zero_le _, Nat.zero_le _⟩ (fun H locs hP hD hS hnq1 => ?_)
  have hP : va_P D vwCl (wX6 cA ad 0 tape taped value weight many block ties lines pastValue pastWeight pastMany undos fresh newValue newWeight newMany newBlock newTies newLines hasBlock hasTies size att place sort number fault faultPlace lastFault lastPlace toValue toWeight toMany often firstOf lastOf unlikes unlikeMany isCandidate modes fewest) H := hP
  have hD : va_D A (wX6 cA ad 0 tape taped value weight many block ties lines pastValue pastWeight pastMany undos fresh newValue newWeight newMany newBlock newTies newLines hasBlock hasTies size att place sort number fault faultPlace lastFault lastPlace toValue toWeight toMany often firstOf lastOf unlikes unlikeMany isCandidate modes fewest) := hD
  refine lv_if_ne (tgt := 16) hx hb dX6_unlike_11 (by decide) (fun c2 => ?_) (fun c2 => ?_)
  · have h := e_t c2 h
    refine lv_aload_n hx hb dX6_unlike_16 rfl (lv_at hl 0 rfl) ?_
    refine lv_iload_n hx hb dX6_unlike_17 rfl (lv_at hl 1 rfl) ?_
    refine lv_iload_n hx hb dX6_unlike_18 rfl (lv_at hl 2 rfl) ?_
    refine lv_iconst (v := (-1)) hx hb dX6_unlike_19 (by decide) ?_
    obtain ⟨q3, eq3, h⟩ := e_b h
    refine xv_v0 (As := [.int x1, .int x2, .int (-1)]) (rest := []) (ci := 6) (b := ad 0) ⟨hx, hb, hml, hown, hts⟩ hl.1 (kX6_counts l D cA ad 0 tape taped value weight many block ties lines pastValue pastWeight pastMany undos fresh newValue newWeight newMany newBlock newTies newLines hasBlock hasTies size att place sort number fault faultPlace lastFault lastPlace toValue toWeight toMany often firstOf lastOf unlikes unlikeMany isCandidate modes fewest x1 x2 (-1)  _ eq3) (cwV 3 hts gX6_unlike_X6_counts rfl rfl rfl (by decide +kernel) ⟨Nat.le_of_ble_eq_true rfl, Nat.le_of_ble_eq_true rfl⟩) rfl hK hP hD hS hA 0 rfl rfl rfl rfl (Nat.le_of_ble_eq_true rfl) dX6_unlike_20 ⟨Nat.zero_le _, Nat.zero_le _⟩ (fun H locs hP hD hS => ?_)
    have hP : va_P D vwCl (wX6 cA ad 0 tape taped value weight many block ties lines pastValue pastWeight pastMany undos fresh newValue newWeight newMany newBlock newTies newLines hasBlock hasTies size att place sort number fault faultPlace lastFault lastPlace toValue toWeight toMany q3.1 q3.2.1 q3.2.2.1 q3.2.2.2.1 q3.2.2.2.2 isCandidate modes fewest) H := hP
    have hD : va_D A (wX6 cA ad 0 tape taped value weight many block ties lines pastValue pastWeight pastMany undos fresh newValue newWeight newMany newBlock newTies newLines hasBlock hasTies size att place sort number fault faultPlace lastFault lastPlace toValue toWeight toMany q3.1 q3.2.1 q3.2.2.1 q3.2.2.2.1 q3.2.2.2.2 isCandidate modes fewest) := hD
    refine lv_aload_n hx hb dX6_unlike_23 rfl (lv_at hl 0 rfl) ?_
    refine va_get (D := D) (ci := 6) (v := .int q3.2.2.2.2) (C := RX6) (T := TX6) (N := 42) hx hb hts iX6 hown hK hP 0 rfl rfl 38 (Nat.le_of_ble_eq_true rfl) f242 (fun _ h9 => h9) rfl dX6_unlike_24 ?_
    obtain rfl := e_s h
    exact hret hP hS rfl dX6_unlike_27
  · have h := e_f (not_not_intro c2) h
    refine lv_iconst (v := (-1)) hx hb dX6_unlike_14 (by decide) ?_
    obtain rfl := e_s h
    exact hret hP hS rfl dX6_unlike_15
set_option maxHeartbeats 4000000 in
set_option maxRecDepth 100000 in
theorem kX6_times (l : Launch) (D : va_G) (cA : Nat → ClassId) (ad : Nat → Nat) (thrown : Int32) (tape : Nat → Int32) (taped : Int32) (value : Nat → Int32) (weight : Nat → Int32) (many : Int32) (block : Int32) (ties : Int32) (lines : Int32) (pastValue : Nat → Int32) (pastWeight : Nat → Int32) (pastMany : Nat → Int32) (undos : Int32) (fresh : Int32) (newValue : Nat → Int32) (newWeight : Nat → Int32) (newMany : Int32) (newBlock : Int32) (newTies : Int32) (newLines : Int32) (hasBlock : Int32) (hasTies : Int32) (size : Int32) (att : Int32) (place : Int32) (sort : Int32) (number : Int32) (fault : Int32) (faultPlace : Int32) (lastFault : Int32) (lastPlace : Int32) (toValue : Nat → Int32) (toWeight : Nat → Int32) (toMany : Int32) (often : Nat → Int32) (firstOf : Nat → Int32) (lastOf : Nat → Int32) (unlikes : Nat → Int32) (unlikeMany : Int32) (isCandidate : Nat → Int32) (modes : Nat → Int32) (fewest : Nat → Int32) (x1 : Int32) (x2 : Int32) (x3 : Int32) (q : Int32 × Int32 × (Nat → Int32) × (Nat → Int32) × (Nat → Int32) × (Nat → Int32) × Int32) (h : mX6_times thrown value many often firstOf lastOf unlikes unlikeMany x1 x2 x3 = some q) : MI l yX6_times wsX6_times { frames := 1, cells := 0, slots := 0, locals := 25 } D cA .int [.ref (ad 0), .int x1, .int x2, .int x3] (wX6 cA ad thrown tape taped value weight many block ties lines pastValue pastWeight pastMany undos fresh newValue newWeight newMany newBlock newTies newLines hasBlock hasTies size att place sort number fault faultPlace lastFault lastPlace toValue toWeight toMany often firstOf lastOf unlikes unlikeMany isCandidate modes fewest) (wX6 cA ad q.2.1 tape taped value weight many block ties lines pastValue pastWeight pastMany undos fresh newValue newWeight newMany newBlock newTies newLines hasBlock hasTies size att place sort number fault faultPlace lastFault lastPlace toValue toWeight toMany q.2.2.1 q.2.2.2.1 q.2.2.2.2.1 q.2.2.2.2.2.1 q.2.2.2.2.2.2 isCandidate modes fewest) q.1 := by
  refine MI.of (cc := cX6_times) (maxL := 6) (by decide +kernel) rfl rfl rfl (Nat.le_of_ble_eq_true rfl) ?_
  intro p e s m args below meth c A ls Q hx hb hml hts hown hK hP hD hA hS hl hret
  have hl : lv_has ls 6 [(0, .ref (ad 0)), (1, .int x1), (2, .int x2), (3, .int x3)] := hl
  have f242 := hts (.fieldLink RX6 242 "ModeDeskModel" "unlikeMany" "I") (by decide +kernel)
  have f47 := hts (.fieldLink RX6 47 "ModeDeskModel" "often" "[I") (by decide +kernel)
  have f56 := hts (.fieldLink RX6 56 "ModeDeskModel" "unlikes" "[I") (by decide +kernel)
  have f72 := hts (.fieldLink RX6 72 "ModeDeskModel" "thrown" "I") (by decide +kernel)
  have iX6 : ∀ w ∈ wsX60, w ∈ wsX6_times := by decide +kernel
  unfold mX6_times at h
  refine lv_aload_n hx hb dX6_times_0 rfl (lv_at hl 0 rfl) ?_
  refine lv_iconst (v := 0) hx hb dX6_times_1 (by decide) ?_
  refine va_put (D := D) (ci := 6) (v := .int 0) (ty := .int) (C := RX6) (T := TX6) (N := 42) hx hb hts iX6 tyX6 tyX6_ok nmX6 hown hK hP hD hS 0 rfl rfl 0 (Nat.le_of_ble_eq_true rfl) f72 (fun _ h9 => h9) rfl (tyX6_ok 0 (Nat.le_of_ble_eq_true rfl)) rfl rfl (Nat.le_of_ble_eq_true rfl) dX6_times_2 (fun H locs hP hD hS => ?_)
  have hP : va_P D vwCl (wX6 cA ad 0 tape taped value weight many block ties lines pastValue pastWeight pastMany undos fresh newValue newWeight newMany newBlock newTies newLines hasBlock hasTies size att place sort number fault faultPlace lastFault lastPlace toValue toWeight toMany often firstOf lastOf unlikes unlikeMany isCandidate modes fewest) H := hP
  have hD : va_D A (wX6 cA ad 0 tape taped value weight many block ties lines pastValue pastWeight pastMany undos fresh newValue newWeight newMany newBlock newTies newLines hasBlock hasTies size att place sort number fault faultPlace lastFault lastPlace toValue toWeight toMany often firstOf lastOf unlikes unlikeMany isCandidate modes fewest) := hD
  refine lv_aload_n hx hb dX6_times_5 rfl (lv_at hl 0 rfl) ?_
  refine lv_iload_n hx hb dX6_times_6 rfl (lv_at hl 1 rfl) ?_
  refine lv_iload_n hx hb dX6_times_7 rfl (lv_at hl 2 rfl) ?_
  obtain ⟨q1, eq1, h⟩ := e_b h
  refine xv_i0 (As := [.int x1, .int x2]) (rest := []) (ci := 6) (b := ad 0) ⟨hx, hb, hml, hown, hts⟩ hl.1 (kX6_isSpan l D cA ad 0 tape taped value weight many block ties lines pastValue pastWeight pastMany undos fresh newValue newWeight newMany newBlock newTies newLines hasBlock hasTies size att place sort number fault faultPlace lastFault lastPlace toValue toWeight toMany often firstOf lastOf unlikes unlikeMany isCandidate modes fewest x1 x2  _ eq1) (cwV 2 hts gX6_times_X6_isSpan rfl rfl rfl (by decide +kernel) ⟨Nat.le_of_ble_eq_true rfl, Nat.le_of_ble_eq_true rfl⟩) rfl hK hP hD hS hA 0 rfl rfl rfl rfl (Nat.le_of_ble_eq_true rfl) dX6_times_8 ⟨Nat.zero_le _, Nat.zero_le _⟩ (fun H locs hP hD hS hnq1 => ?_)
  have hP : va_P D vwCl (wX6 cA ad 0 tape taped value weight many block ties lines pastValue pastWeight pastMany undos fresh newValue newWeight newMany newBlock newTies newLines hasBlock hasTies size att place sort number fault faultPlace lastFault lastPlace toValue toWeight toMany often firstOf lastOf unlikes unlikeMany isCandidate modes fewest) H := hP
  have hD : va_D A (wX6 cA ad 0 tape taped value weight many block ties lines pastValue pastWeight pastMany undos fresh newValue newWeight newMany newBlock newTies newLines hasBlock hasTies size att place sort number fault faultPlace lastFault lastPlace toValue toWeight toMany often firstOf lastOf unlikes unlikeMany isCandidate modes fewest) := hD
  refine lv_if_eq (tgt := 19) hx hb dX6_times_11 (by decide) (fun c2 => ?_) (fun c2 => ?_)
  · have h := e_t c2 h
    refine lv_iconst (v := (-1)) hx hb dX6_times_19 (by decide) ?_
    obtain rfl := e_s h
    exact hret hP hS rfl dX6_times_20
  · have h := e_f c2 h
    refine lv_iload_n hx hb dX6_times_14 rfl (lv_at hl 3 rfl) ?_
    refine lv_iconst (v := 1) hx hb dX6_times_15 (by decide) ?_
    refine lv_icmp_ge (tgt := 21) hx hb dX6_times_16 (by decide) (fun c3 => ?_) (fun c3 => ?_)
    · have h := e_t c3 h
      refine lv_aload_n hx hb dX6_times_21 rfl (lv_at hl 0 rfl) ?_
      refine lv_iload_n hx hb dX6_times_22 rfl (lv_at hl 1 rfl) ?_
      refine lv_iload_n hx hb dX6_times_23 rfl (lv_at hl 2 rfl) ?_
      refine lv_iconst (v := (-1)) hx hb dX6_times_24 (by decide) ?_
      obtain ⟨q4, eq4, h⟩ := e_b h
      refine xv_v0 (As := [.int x1, .int x2, .int (-1)]) (rest := []) (ci := 6) (b := ad 0) ⟨hx, hb, hml, hown, hts⟩ hl.1 (kX6_counts l D cA ad 0 tape taped value weight many block ties lines pastValue pastWeight pastMany undos fresh newValue newWeight newMany newBlock newTies newLines hasBlock hasTies size att place sort number fault faultPlace lastFault lastPlace toValue toWeight toMany often firstOf lastOf unlikes unlikeMany isCandidate modes fewest x1 x2 (-1)  _ eq4) (cwV 3 hts gX6_times_X6_counts rfl rfl rfl (by decide +kernel) ⟨Nat.le_of_ble_eq_true rfl, Nat.le_of_ble_eq_true rfl⟩) rfl hK hP hD hS hA 0 rfl rfl rfl rfl (Nat.le_of_ble_eq_true rfl) dX6_times_25 ⟨Nat.zero_le _, Nat.zero_le _⟩ (fun H locs hP hD hS => ?_)
      have hP : va_P D vwCl (wX6 cA ad 0 tape taped value weight many block ties lines pastValue pastWeight pastMany undos fresh newValue newWeight newMany newBlock newTies newLines hasBlock hasTies size att place sort number fault faultPlace lastFault lastPlace toValue toWeight toMany q4.1 q4.2.1 q4.2.2.1 q4.2.2.2.1 q4.2.2.2.2 isCandidate modes fewest) H := hP
      have hD : va_D A (wX6 cA ad 0 tape taped value weight many block ties lines pastValue pastWeight pastMany undos fresh newValue newWeight newMany newBlock newTies newLines hasBlock hasTies size att place sort number fault faultPlace lastFault lastPlace toValue toWeight toMany q4.1 q4.2.1 q4.2.2.1 q4.2.2.2.1 q4.2.2.2.2 isCandidate modes fewest) := hD
      refine lv_iconst (v := 0) hx hb dX6_times_28 (by decide) ?_
      refine lv_istore (lv' := [(4, .int 0), (0, .ref (ad 0)), (1, .int x1), (2, .int x2), (3, .int x3)]) hx hb dX6_times_29 hl (by decide) rfl (fun ls hl => ?_)
      refine lv_iconst (v := 0) hx hb dX6_times_31 (by decide) ?_
      refine lv_istore (lv' := [(5, .int 0), (4, .int 0), (0, .ref (ad 0)), (1, .int x1), (2, .int x2), (3, .int x3)]) hx hb dX6_times_32 hl (by decide) rfl (fun ls hl => ?_)
      have hL34 : ∀ (n : Nat) (x3 : Int32) (x4 : Int32) (x5 : Int32) (thrown : Int32) (tape : Nat → Int32) (taped : Int32) (value : Nat → Int32) (weight : Nat → Int32) (many : Int32) (block : Int32) (ties : Int32) (lines : Int32) (pastValue : Nat → Int32) (pastWeight : Nat → Int32) (pastMany : Nat → Int32) (undos : Int32) (fresh : Int32) (newValue : Nat → Int32) (newWeight : Nat → Int32) (newMany : Int32) (newBlock : Int32) (newTies : Int32) (newLines : Int32) (hasBlock : Int32) (hasTies : Int32) (size : Int32) (att : Int32) (place : Int32) (sort : Int32) (number : Int32) (fault : Int32) (faultPlace : Int32) (lastFault : Int32) (lastPlace : Int32) (toValue : Nat → Int32) (toWeight : Nat → Int32) (toMany : Int32) (often : Nat → Int32) (firstOf : Nat → Int32) (lastOf : Nat → Int32) (unlikes : Nat → Int32) (unlikeMany : Int32) (isCandidate : Nat → Int32) (modes : Nat → Int32) (fewest : Nat → Int32) (z5 : Int32) (ls : Array Slot) (H : Heap) (locs : List Loc), lv_has ls 6 [(0, .ref (ad 0)), (3, .int x3), (4, .int x4), (5, .int x5)] → va_P D vwCl (wX6 cA ad thrown tape taped value weight many block ties lines pastValue pastWeight pastMany undos fresh newValue newWeight newMany newBlock newTies newLines hasBlock hasTies size att place sort number fault faultPlace lastFault lastPlace toValue toWeight toMany often firstOf lastOf unlikes unlikeMany isCandidate modes fewest) H → va_D A (wX6 cA ad thrown tape taped value weight many block ties lines pastValue pastWeight pastMany undos fresh newValue newWeight newMany newBlock newTies newLines hasBlock hasTies size att place sort number fault faultPlace lastFault lastPlace toValue toWeight toMany often firstOf lastOf unlikes unlikeMany isCandidate modes fewest) → va_S A s.heap H locs → mX6_times_L34 often unlikes unlikeMany x3 n x4 x5 = some z5 → (∀ (ls : Array Slot) (H : Heap) (locs : List Loc), lv_has ls 6 [(4, .int z5)] → va_P D vwCl (wX6 cA ad thrown tape taped value weight many block ties lines pastValue pastWeight pastMany undos fresh newValue newWeight newMany newBlock newTies newLines hasBlock hasTies size att place sort number fault faultPlace lastFault lastPlace toValue toWeight toMany often firstOf lastOf unlikes unlikeMany isCandidate modes fewest) H → va_D A (wX6 cA ad thrown tape taped value weight many block ties lines pastValue pastWeight pastMany undos fresh newValue newWeight newMany newBlock newTies newLines hasBlock hasTies size att place sort number fault faultPlace lastFault lastPlace toValue toWeight toMany often firstOf lastOf unlikes unlikeMany isCandidate modes fewest) → va_S A s.heap H locs → W p l e (headSpec wsX6_times { frames := 1, cells := 0, slots := 0, locals := 25 }).room s m args below meth c H locs 0 0 Q (F0 m 75 ls [])) → W p l e (headSpec wsX6_times { frames := 1, cells := 0, slots := 0, locals := 25 }).room s m args below meth c H locs 0 0 Q (F0 m 34 ls []) := by
        intro n
        induction n with
        | zero => intro x3 x4 x5 thrown tape taped value weight many block ties lines pastValue pastWeight pastMany undos fresh newValue newWeight newMany newBlock newTies newLines hasBlock hasTies size att place sort number fault faultPlace lastFault lastPlace toValue toWeight toMany often firstOf lastOf unlikes unlikeMany isCandidate modes fewest z5 ls H locs hl hP hD hS h hk34; exact e_n h
        | succ n ih34 =>
          intro x3 x4 x5 thrown tape taped value weight many block ties lines pastValue pastWeight pastMany undos fresh newValue newWeight newMany newBlock newTies newLines hasBlock hasTies size att place sort number fault faultPlace lastFault lastPlace toValue toWeight toMany often firstOf lastOf unlikes unlikeMany isCandidate modes fewest z5 ls H locs hl hP hD hS h hk34
          rw [mX6_times_L34.eq_2] at h
          refine lv_iload hx hb dX6_times_34 (lv_at hl 3 rfl) ?_
          refine lv_aload_n hx hb dX6_times_36 rfl (lv_at hl 0 rfl) ?_
          refine va_get (D := D) (ci := 6) (v := .int unlikeMany) (C := RX6) (T := TX6) (N := 42) hx hb hts iX6 hown hK hP 0 rfl rfl 38 (Nat.le_of_ble_eq_true rfl) f242 (fun _ h9 => h9) rfl dX6_times_37 ?_
          refine lv_icmp_ge (tgt := 75) hx hb dX6_times_40 (by decide) (fun c6 => ?_) (fun c6 => ?_)
          · have h := e_t c6 h
            obtain rfl := e_s h
            exact hk34 _ _ _ (lv_sub hl [2] rfl) hP hD hS
          · have h := e_f c6 h
            refine lv_iload hx hb dX6_times_43 (lv_at hl 2 rfl) ?_
            refine lv_aload_n hx hb dX6_times_45 rfl (lv_at hl 0 rfl) ?_
            refine va_get (D := D) (ci := 6) (v := .ref (ad 11)) (C := RX6) (T := TX6) (N := 42) hx hb hts iX6 hown hK hP 0 rfl rfl 34 (Nat.le_of_ble_eq_true rfl) f47 (fun _ h9 => h9) rfl dX6_times_46 ?_
            refine lv_aload_n hx hb dX6_times_49 rfl (lv_at hl 0 rfl) ?_
            refine va_get (D := D) (ci := 6) (v := .ref (ad 14)) (C := RX6) (T := TX6) (N := 42) hx hb hts iX6 hown hK hP 0 rfl rfl 37 (Nat.le_of_ble_eq_true rfl) f56 (fun _ h9 => h9) rfl dX6_times_50 ?_
            refine lv_iload hx hb dX6_times_53 (lv_at hl 3 rfl) ?_
            obtain ⟨v7, ev7, nv7, h⟩ := e_rd h
            refine xa_iald hx hb hK hP 14 rfl nv7 ev7 dX6_times_55 ?_
            obtain ⟨v8, ev8, nv8, h⟩ := e_rd h
            refine xa_iald hx hb hK hP 11 rfl nv8 ev8 dX6_times_56 ?_
            refine lv_iload_n hx hb dX6_times_57 rfl (lv_at hl 1 rfl) ?_
            refine lv_icmp_ne (tgt := 65) hx hb dX6_times_58 (by decide) (fun c9 => ?_) (fun c9 => ?_)
            · have h := e_t c9 h
              refine lv_iconst (v := 0) hx hb dX6_times_65 (by decide) ?_
              refine lv_iadd hx hb dX6_times_66 ?_
              refine lv_istore (lv' := [(4, .int (x4 + 0)), (0, .ref (ad 0)), (3, .int x3), (5, .int x5)]) hx hb dX6_times_67 hl (by decide) rfl (fun ls hl => ?_)
              refine lv_iinc (v := (x5 + 1)) (lv' := [(5, .int (x5 + 1)), (4, .int (x4 + 0)), (0, .ref (ad 0)), (3, .int x3)]) hx hb dX6_times_69 hl (k := 3) rfl rfl (by decide) rfl (fun ls hl => ?_)
              refine lv_goto (tgt := 34) hx hb dX6_times_72 (by decide) ?_
              exact ih34 x3 (x4 + 0) (x5 + 1) thrown tape taped value weight many block ties lines pastValue pastWeight pastMany undos fresh newValue newWeight newMany newBlock newTies newLines hasBlock hasTies size att place sort number fault faultPlace lastFault lastPlace toValue toWeight toMany often firstOf lastOf unlikes unlikeMany isCandidate modes fewest z5 _ _ _ (lv_sub hl [2, 3, 1, 0] rfl) hP hD hS h hk34
            · have h := e_f (not_not_intro c9) h
              refine lv_iconst (v := 1) hx hb dX6_times_61 (by decide) ?_
              refine lv_goto (tgt := 66) hx hb dX6_times_62 (by decide) ?_
              refine lv_iadd hx hb dX6_times_66 ?_
              refine lv_istore (lv' := [(4, .int (x4 + 1)), (0, .ref (ad 0)), (3, .int x3), (5, .int x5)]) hx hb dX6_times_67 hl (by decide) rfl (fun ls hl => ?_)
              refine lv_iinc (v := (x5 + 1)) (lv' := [(5, .int (x5 + 1)), (4, .int (x4 + 1)), (0, .ref (ad 0)), (3, .int x3)]) hx hb dX6_times_69 hl (k := 3) rfl rfl (by decide) rfl (fun ls hl => ?_)
              refine lv_goto (tgt := 34) hx hb dX6_times_72 (by decide) ?_
              exact ih34 x3 (x4 + 1) (x5 + 1) thrown tape taped value weight many block ties lines pastValue pastWeight pastMany undos fresh newValue newWeight newMany newBlock newTies newLines hasBlock hasTies size att place sort number fault faultPlace lastFault lastPlace toValue toWeight toMany often firstOf lastOf unlikes unlikeMany isCandidate modes fewest z5 _ _ _ (lv_sub hl [2, 3, 1, 0] rfl) hP hD hS h hk34
      obtain ⟨z10, ez10, h⟩ := e_b h
      refine hL34 FU x3 0 0 0 tape taped value weight many block ties lines pastValue pastWeight pastMany undos fresh newValue newWeight newMany newBlock newTies newLines hasBlock hasTies size att place sort number fault faultPlace lastFault lastPlace toValue toWeight toMany q4.1 q4.2.1 q4.2.2.1 q4.2.2.2.1 q4.2.2.2.2 isCandidate modes fewest z10 _ _ _ (lv_sub hl [2, 5, 1, 0] rfl) hP hD hS ez10 (fun ls H locs hl hP hD hS => ?_)
      refine lv_iload hx hb dX6_times_75 (lv_at hl 0 rfl) ?_
      obtain rfl := e_s h
      exact hret hP hS rfl dX6_times_77
    · have h := e_f c3 h
      refine lv_iconst (v := (-1)) hx hb dX6_times_19 (by decide) ?_
      obtain rfl := e_s h
      exact hret hP hS rfl dX6_times_20
set_option maxHeartbeats 4000000 in
set_option maxRecDepth 100000 in
theorem kX6_majorityOf (l : Launch) (D : va_G) (cA : Nat → ClassId) (ad : Nat → Nat) (thrown : Int32) (tape : Nat → Int32) (taped : Int32) (value : Nat → Int32) (weight : Nat → Int32) (many : Int32) (block : Int32) (ties : Int32) (lines : Int32) (pastValue : Nat → Int32) (pastWeight : Nat → Int32) (pastMany : Nat → Int32) (undos : Int32) (fresh : Int32) (newValue : Nat → Int32) (newWeight : Nat → Int32) (newMany : Int32) (newBlock : Int32) (newTies : Int32) (newLines : Int32) (hasBlock : Int32) (hasTies : Int32) (size : Int32) (att : Int32) (place : Int32) (sort : Int32) (number : Int32) (fault : Int32) (faultPlace : Int32) (lastFault : Int32) (lastPlace : Int32) (toValue : Nat → Int32) (toWeight : Nat → Int32) (toMany : Int32) (often : Nat → Int32) (firstOf : Nat → Int32) (lastOf : Nat → Int32) (unlikes : Nat → Int32) (unlikeMany : Int32) (isCandidate : Nat → Int32) (modes : Nat → Int32) (fewest : Nat → Int32) (x1 : Int32) (x2 : Int32) (q : Int32 × (Nat → Int32) × (Nat → Int32) × (Nat → Int32) × (Nat → Int32) × Int32) (h : mX6_majorityOf value ties often firstOf lastOf unlikes unlikeMany x1 x2 = some q) : MI l yX6_majorityOf wsX6_majorityOf { frames := 3, cells := 0, slots := 0, locals := 68 } D cA .int [.ref (ad 0), .int x1, .int x2] (wX6 cA ad thrown tape taped value weight many block ties lines pastValue pastWeight pastMany undos fresh newValue newWeight newMany newBlock newTies newLines hasBlock hasTies size att place sort number fault faultPlace lastFault lastPlace toValue toWeight toMany often firstOf lastOf unlikes unlikeMany isCandidate modes fewest) (wX6 cA ad thrown tape taped value weight many block ties lines pastValue pastWeight pastMany undos fresh newValue newWeight newMany newBlock newTies newLines hasBlock hasTies size att place sort number fault faultPlace lastFault lastPlace toValue toWeight toMany q.2.1 q.2.2.1 q.2.2.2.1 q.2.2.2.2.1 q.2.2.2.2.2 isCandidate modes fewest) q.1 := by
  refine MI.of (cc := cX6_majorityOf) (maxL := 4) (by decide +kernel) rfl rfl rfl (Nat.le_of_ble_eq_true rfl) ?_
  intro p e s m args below meth c A ls Q hx hb hml hts hown hK hP hD hA hS hl hret
  have hl : lv_has ls 4 [(0, .ref (ad 0)), (1, .int x1), (2, .int x2)] := hl
  have f47 := hts (.fieldLink RX6 47 "ModeDeskModel" "often" "[I") (by decide +kernel)
  have iX6 : ∀ w ∈ wsX60, w ∈ wsX6_majorityOf := by decide +kernel
  unfold mX6_majorityOf at h
  refine lv_aload_n hx hb dX6_majorityOf_0 rfl (lv_at hl 0 rfl) ?_
  refine lv_iload_n hx hb dX6_majorityOf_1 rfl (lv_at hl 1 rfl) ?_
  refine lv_iload_n hx hb dX6_majorityOf_2 rfl (lv_at hl 2 rfl) ?_
  obtain ⟨q1, eq1, h⟩ := e_b h
  refine xv_i0 (As := [.int x1, .int x2]) (rest := []) (ci := 6) (b := ad 0) ⟨hx, hb, hml, hown, hts⟩ hl.1 (kX6_modeOf l D cA ad thrown tape taped value weight many block ties lines pastValue pastWeight pastMany undos fresh newValue newWeight newMany newBlock newTies newLines hasBlock hasTies size att place sort number fault faultPlace lastFault lastPlace toValue toWeight toMany often firstOf lastOf unlikes unlikeMany isCandidate modes fewest x1 x2  _ eq1) (cwV 2 hts gX6_majorityOf_X6_modeOf rfl rfl rfl (by decide +kernel) ⟨Nat.le_of_ble_eq_true rfl, Nat.le_of_ble_eq_true rfl⟩) rfl hK hP hD hS hA 0 rfl rfl rfl rfl (Nat.le_of_ble_eq_true rfl) dX6_majorityOf_3 ⟨Nat.zero_le _, Nat.zero_le _⟩ (fun H locs hP hD hS hnq1 => ?_)
  have hP : va_P D vwCl (wX6 cA ad thrown tape taped value weight many block ties lines pastValue pastWeight pastMany undos fresh newValue newWeight newMany newBlock newTies newLines hasBlock hasTies size att place sort number fault faultPlace lastFault lastPlace toValue toWeight toMany q1.2.1 q1.2.2.1 q1.2.2.2.1 q1.2.2.2.2.1 q1.2.2.2.2.2 isCandidate modes fewest) H := hP
  have hD : va_D A (wX6 cA ad thrown tape taped value weight many block ties lines pastValue pastWeight pastMany undos fresh newValue newWeight newMany newBlock newTies newLines hasBlock hasTies size att place sort number fault faultPlace lastFault lastPlace toValue toWeight toMany q1.2.1 q1.2.2.1 q1.2.2.2.1 q1.2.2.2.2.1 q1.2.2.2.2.2 isCandidate modes fewest) := hD
  refine lv_istore_n (lv' := [(3, .int q1.1), (0, .ref (ad 0)), (1, .int x1), (2, .int x2)]) hx hb dX6_majorityOf_6 rfl hl (by decide) rfl (fun ls hl => ?_)
  refine lv_iconst (v := 2) hx hb dX6_majorityOf_7 (by decide) ?_
  refine lv_aload_n hx hb dX6_majorityOf_8 rfl (lv_at hl 1 rfl) ?_
  refine va_get (D := D) (ci := 6) (v := .ref (ad 11)) (C := RX6) (T := TX6) (N := 42) hx hb hts iX6 hown hK hP 0 rfl rfl 34 (Nat.le_of_ble_eq_true rfl) f47 (fun _ h9 => h9) rfl dX6_majorityOf_9 ?_
  refine lv_iload_n hx hb dX6_majorityOf_12 rfl (lv_at hl 0 rfl) ?_
  obtain ⟨v2, ev2, nv2, h⟩ := e_rd h
  refine xa_iald hx hb hK hP 11 rfl nv2 ev2 dX6_majorityOf_13 ?_
  refine lv_imul hx hb dX6_majorityOf_14 ?_
  refine lv_iload_n hx hb dX6_majorityOf_15 rfl (lv_at hl 3 rfl) ?_
  refine lv_iload_n hx hb dX6_majorityOf_16 rfl (lv_at hl 2 rfl) ?_
  refine lv_isub hx hb dX6_majorityOf_17 ?_
  refine lv_iconst (v := 1) hx hb dX6_majorityOf_18 (by decide) ?_
  refine lv_iadd hx hb dX6_majorityOf_19 ?_
  refine lv_icmp_le (tgt := 27) hx hb dX6_majorityOf_20 (by decide) (fun c3 => ?_) (fun c3 => ?_)
  · have h := e_t c3 h
    refine lv_iconst (v := (-1)) hx hb dX6_majorityOf_27 (by decide) ?_
    obtain rfl := e_s h
    exact hret hP hS rfl dX6_majorityOf_28
  · have h := e_f c3 h
    refine lv_iload_n hx hb dX6_majorityOf_23 rfl (lv_at hl 0 rfl) ?_
    refine lv_goto (tgt := 28) hx hb dX6_majorityOf_24 (by decide) ?_
    obtain rfl := e_s h
    exact hret hP hS rfl dX6_majorityOf_28
set_option maxHeartbeats 4000000 in
set_option maxRecDepth 100000 in
theorem kX6_majority (l : Launch) (D : va_G) (cA : Nat → ClassId) (ad : Nat → Nat) (thrown : Int32) (tape : Nat → Int32) (taped : Int32) (value : Nat → Int32) (weight : Nat → Int32) (many : Int32) (block : Int32) (ties : Int32) (lines : Int32) (pastValue : Nat → Int32) (pastWeight : Nat → Int32) (pastMany : Nat → Int32) (undos : Int32) (fresh : Int32) (newValue : Nat → Int32) (newWeight : Nat → Int32) (newMany : Int32) (newBlock : Int32) (newTies : Int32) (newLines : Int32) (hasBlock : Int32) (hasTies : Int32) (size : Int32) (att : Int32) (place : Int32) (sort : Int32) (number : Int32) (fault : Int32) (faultPlace : Int32) (lastFault : Int32) (lastPlace : Int32) (toValue : Nat → Int32) (toWeight : Nat → Int32) (toMany : Int32) (often : Nat → Int32) (firstOf : Nat → Int32) (lastOf : Nat → Int32) (unlikes : Nat → Int32) (unlikeMany : Int32) (isCandidate : Nat → Int32) (modes : Nat → Int32) (fewest : Nat → Int32) (x1 : Int32) (x2 : Int32) (q : Int32 × Int32 × (Nat → Int32) × (Nat → Int32) × (Nat → Int32) × (Nat → Int32) × Int32) (h : mX6_majority thrown value many ties often firstOf lastOf unlikes unlikeMany x1 x2 = some q) : MI l yX6_majority wsX6_majority { frames := 4, cells := 0, slots := 0, locals := 91 } D cA .int [.ref (ad 0), .int x1, .int x2] (wX6 cA ad thrown tape taped value weight many block ties lines pastValue pastWeight pastMany undos fresh newValue newWeight newMany newBlock newTies newLines hasBlock hasTies size att place sort number fault faultPlace lastFault lastPlace toValue toWeight toMany often firstOf lastOf unlikes unlikeMany isCandidate modes fewest) (wX6 cA ad q.2.1 tape taped value weight many block ties lines pastValue pastWeight pastMany undos fresh newValue newWeight newMany newBlock newTies newLines hasBlock hasTies size att place sort number fault faultPlace lastFault lastPlace toValue toWeight toMany q.2.2.1 q.2.2.2.1 q.2.2.2.2.1 q.2.2.2.2.2.1 q.2.2.2.2.2.2 isCandidate modes fewest) q.1 := by
  refine MI.of (cc := cX6_majority) (maxL := 4) (by decide +kernel) rfl rfl rfl (Nat.le_of_ble_eq_true rfl) ?_
  intro p e s m args below meth c A ls Q hx hb hml hts hown hK hP hD hA hS hl hret
  have hl : lv_has ls 4 [(0, .ref (ad 0)), (1, .int x1), (2, .int x2)] := hl
  have f72 := hts (.fieldLink RX6 72 "ModeDeskModel" "thrown" "I") (by decide +kernel)
  have iX6 : ∀ w ∈ wsX60, w ∈ wsX6_majority := by decide +kernel
  unfold mX6_majority at h
  refine lv_aload_n hx hb dX6_majority_0 rfl (lv_at hl 0 rfl) ?_
  refine lv_iconst (v := 0) hx hb dX6_majority_1 (by decide) ?_
  refine va_put (D := D) (ci := 6) (v := .int 0) (ty := .int) (C := RX6) (T := TX6) (N := 42) hx hb hts iX6 tyX6 tyX6_ok nmX6 hown hK hP hD hS 0 rfl rfl 0 (Nat.le_of_ble_eq_true rfl) f72 (fun _ h9 => h9) rfl (tyX6_ok 0 (Nat.le_of_ble_eq_true rfl)) rfl rfl (Nat.le_of_ble_eq_true rfl) dX6_majority_2 (fun H locs hP hD hS => ?_)
  have hP : va_P D vwCl (wX6 cA ad 0 tape taped value weight many block ties lines pastValue pastWeight pastMany undos fresh newValue newWeight newMany newBlock newTies newLines hasBlock hasTies size att place sort number fault faultPlace lastFault lastPlace toValue toWeight toMany often firstOf lastOf unlikes unlikeMany isCandidate modes fewest) H := hP
  have hD : va_D A (wX6 cA ad 0 tape taped value weight many block ties lines pastValue pastWeight pastMany undos fresh newValue newWeight newMany newBlock newTies newLines hasBlock hasTies size att place sort number fault faultPlace lastFault lastPlace toValue toWeight toMany often firstOf lastOf unlikes unlikeMany isCandidate modes fewest) := hD
  refine lv_aload_n hx hb dX6_majority_5 rfl (lv_at hl 0 rfl) ?_
  refine lv_iload_n hx hb dX6_majority_6 rfl (lv_at hl 1 rfl) ?_
  refine lv_iload_n hx hb dX6_majority_7 rfl (lv_at hl 2 rfl) ?_
  obtain ⟨q1, eq1, h⟩ := e_b h
  refine xv_i0 (As := [.int x1, .int x2]) (rest := []) (ci := 6) (b := ad 0) ⟨hx, hb, hml, hown, hts⟩ hl.1 (kX6_isSpan l D cA ad 0 tape taped value weight many block ties lines pastValue pastWeight pastMany undos fresh newValue newWeight newMany newBlock newTies newLines hasBlock hasTies size att place sort number fault faultPlace lastFault lastPlace toValue toWeight toMany often firstOf lastOf unlikes unlikeMany isCandidate modes fewest x1 x2  _ eq1) (cwV 2 hts gX6_majority_X6_isSpan rfl rfl rfl (by decide +kernel) ⟨Nat.le_of_ble_eq_true rfl, Nat.le_of_ble_eq_true rfl⟩) rfl hK hP hD hS hA 0 rfl rfl rfl rfl (Nat.le_of_ble_eq_true rfl) dX6_majority_8 ⟨Nat.zero_le _, Nat.zero_le _⟩ (fun H locs hP hD hS hnq1 => ?_)
  have hP : va_P D vwCl (wX6 cA ad 0 tape taped value weight many block ties lines pastValue pastWeight pastMany undos fresh newValue newWeight newMany newBlock newTies newLines hasBlock hasTies size att place sort number fault faultPlace lastFault lastPlace toValue toWeight toMany often firstOf lastOf unlikes unlikeMany isCandidate modes fewest) H := hP
  have hD : va_D A (wX6 cA ad 0 tape taped value weight many block ties lines pastValue pastWeight pastMany undos fresh newValue newWeight newMany newBlock newTies newLines hasBlock hasTies size att place sort number fault faultPlace lastFault lastPlace toValue toWeight toMany often firstOf lastOf unlikes unlikeMany isCandidate modes fewest) := hD
  refine lv_if_ne (tgt := 16) hx hb dX6_majority_11 (by decide) (fun c2 => ?_) (fun c2 => ?_)
  · have h := e_t c2 h
    refine lv_aload_n hx hb dX6_majority_16 rfl (lv_at hl 0 rfl) ?_
    refine lv_iload_n hx hb dX6_majority_17 rfl (lv_at hl 1 rfl) ?_
    refine lv_iload_n hx hb dX6_majority_18 rfl (lv_at hl 2 rfl) ?_
    obtain ⟨q3, eq3, h⟩ := e_b h
    refine xv_i0 (As := [.int x1, .int x2]) (rest := []) (ci := 6) (b := ad 0) ⟨hx, hb, hml, hown, hts⟩ hl.1 (kX6_majorityOf l D cA ad 0 tape taped value weight many block ties lines pastValue pastWeight pastMany undos fresh newValue newWeight newMany newBlock newTies newLines hasBlock hasTies size att place sort number fault faultPlace lastFault lastPlace toValue toWeight toMany often firstOf lastOf unlikes unlikeMany isCandidate modes fewest x1 x2  _ eq3) (cwV 2 hts gX6_majority_X6_majorityOf rfl rfl rfl (by decide +kernel) ⟨Nat.le_of_ble_eq_true rfl, Nat.le_of_ble_eq_true rfl⟩) rfl hK hP hD hS hA 0 rfl rfl rfl rfl (Nat.le_of_ble_eq_true rfl) dX6_majority_19 ⟨Nat.zero_le _, Nat.zero_le _⟩ (fun H locs hP hD hS hnq3 => ?_)
    have hP : va_P D vwCl (wX6 cA ad 0 tape taped value weight many block ties lines pastValue pastWeight pastMany undos fresh newValue newWeight newMany newBlock newTies newLines hasBlock hasTies size att place sort number fault faultPlace lastFault lastPlace toValue toWeight toMany q3.2.1 q3.2.2.1 q3.2.2.2.1 q3.2.2.2.2.1 q3.2.2.2.2.2 isCandidate modes fewest) H := hP
    have hD : va_D A (wX6 cA ad 0 tape taped value weight many block ties lines pastValue pastWeight pastMany undos fresh newValue newWeight newMany newBlock newTies newLines hasBlock hasTies size att place sort number fault faultPlace lastFault lastPlace toValue toWeight toMany q3.2.1 q3.2.2.1 q3.2.2.2.1 q3.2.2.2.2.1 q3.2.2.2.2.2 isCandidate modes fewest) := hD
    refine lv_istore_n (lv' := [(3, .int q3.1), (0, .ref (ad 0)), (1, .int x1), (2, .int x2)]) hx hb dX6_majority_22 rfl hl (by decide) rfl (fun ls hl => ?_)
    refine lv_iload_n hx hb dX6_majority_23 rfl (lv_at hl 0 rfl) ?_
    refine lv_iconst (v := (-1)) hx hb dX6_majority_24 (by decide) ?_
    refine lv_icmp_ne (tgt := 33) hx hb dX6_majority_25 (by decide) (fun c4 => ?_) (fun c4 => ?_)
    · have h := e_t c4 h
      refine lv_iload_n hx hb dX6_majority_33 rfl (lv_at hl 0 rfl) ?_
      obtain rfl := e_s h
      exact hret hP hS rfl dX6_majority_34
    · have h := e_f (not_not_intro c4) h
      refine lv_bipush (v := (-2)) hx hb dX6_majority_28 (by decide) ?_
      refine lv_goto (tgt := 34) hx hb dX6_majority_30 (by decide) ?_
      obtain rfl := e_s h
      exact hret hP hS rfl dX6_majority_34
  · have h := e_f (not_not_intro c2) h
    refine lv_iconst (v := (-1)) hx hb dX6_majority_14 (by decide) ?_
    obtain rfl := e_s h
    exact hret hP hS rfl dX6_majority_15
set_option maxHeartbeats 4000000 in
set_option maxRecDepth 100000 in
theorem kX6_weightsOf (l : Launch) (D : va_G) (cA : Nat → ClassId) (ad : Nat → Nat) (thrown : Int32) (tape : Nat → Int32) (taped : Int32) (value : Nat → Int32) (weight : Nat → Int32) (many : Int32) (block : Int32) (ties : Int32) (lines : Int32) (pastValue : Nat → Int32) (pastWeight : Nat → Int32) (pastMany : Nat → Int32) (undos : Int32) (fresh : Int32) (newValue : Nat → Int32) (newWeight : Nat → Int32) (newMany : Int32) (newBlock : Int32) (newTies : Int32) (newLines : Int32) (hasBlock : Int32) (hasTies : Int32) (size : Int32) (att : Int32) (place : Int32) (sort : Int32) (number : Int32) (fault : Int32) (faultPlace : Int32) (lastFault : Int32) (lastPlace : Int32) (toValue : Nat → Int32) (toWeight : Nat → Int32) (toMany : Int32) (often : Nat → Int32) (firstOf : Nat → Int32) (lastOf : Nat → Int32) (unlikes : Nat → Int32) (unlikeMany : Int32) (isCandidate : Nat → Int32) (modes : Nat → Int32) (fewest : Nat → Int32) (x1 : Int32) (x2 : Int32) (x3 : Int32) (q : Int32) (h : mX6_weightsOf value weight x1 x2 x3 = some q) : MI l yX6_weightsOf wsX6_weightsOf { frames := 0, cells := 0, slots := 0, locals := 0 } D cA .int [.ref (ad 0), .int x1, .int x2, .int x3] (wX6 cA ad thrown tape taped value weight many block ties lines pastValue pastWeight pastMany undos fresh newValue newWeight newMany newBlock newTies newLines hasBlock hasTies size att place sort number fault faultPlace lastFault lastPlace toValue toWeight toMany often firstOf lastOf unlikes unlikeMany isCandidate modes fewest) (wX6 cA ad thrown tape taped value weight many block ties lines pastValue pastWeight pastMany undos fresh newValue newWeight newMany newBlock newTies newLines hasBlock hasTies size att place sort number fault faultPlace lastFault lastPlace toValue toWeight toMany often firstOf lastOf unlikes unlikeMany isCandidate modes fewest) q := by
  refine MI.of (cc := cX6_weightsOf) (maxL := 6) (by decide +kernel) rfl rfl rfl (Nat.le_of_ble_eq_true rfl) ?_
  intro p e s m args below meth c A ls Q hx hb hml hts hown hK hP hD hA hS hl hret
  have hl : lv_has ls 6 [(0, .ref (ad 0)), (1, .int x1), (2, .int x2), (3, .int x3)] := hl
  have f13 := hts (.fieldLink RX6 13 "ModeDeskModel" "value" "[I") (by decide +kernel)
  have f16 := hts (.fieldLink RX6 16 "ModeDeskModel" "weight" "[I") (by decide +kernel)
  have iX6 : ∀ w ∈ wsX60, w ∈ wsX6_weightsOf := by decide +kernel
  unfold mX6_weightsOf at h
  refine lv_iconst (v := 0) hx hb dX6_weightsOf_0 (by decide) ?_
  refine lv_istore (lv' := [(4, .int 0), (0, .ref (ad 0)), (1, .int x1), (2, .int x2), (3, .int x3)]) hx hb dX6_weightsOf_1 hl (by decide) rfl (fun ls hl => ?_)
  refine lv_iload_n hx hb dX6_weightsOf_3 rfl (lv_at hl 2 rfl) ?_
  refine lv_istore (lv' := [(5, .int x1), (4, .int 0), (0, .ref (ad 0)), (1, .int x1), (2, .int x2), (3, .int x3)]) hx hb dX6_weightsOf_4 hl (by decide) rfl (fun ls hl => ?_)
  have hL6 : ∀ (n : Nat) (x2 : Int32) (x3 : Int32) (x4 : Int32) (x5 : Int32) (thrown : Int32) (tape : Nat → Int32) (taped : Int32) (value : Nat → Int32) (weight : Nat → Int32) (many : Int32) (block : Int32) (ties : Int32) (lines : Int32) (pastValue : Nat → Int32) (pastWeight : Nat → Int32) (pastMany : Nat → Int32) (undos : Int32) (fresh : Int32) (newValue : Nat → Int32) (newWeight : Nat → Int32) (newMany : Int32) (newBlock : Int32) (newTies : Int32) (newLines : Int32) (hasBlock : Int32) (hasTies : Int32) (size : Int32) (att : Int32) (place : Int32) (sort : Int32) (number : Int32) (fault : Int32) (faultPlace : Int32) (lastFault : Int32) (lastPlace : Int32) (toValue : Nat → Int32) (toWeight : Nat → Int32) (toMany : Int32) (often : Nat → Int32) (firstOf : Nat → Int32) (lastOf : Nat → Int32) (unlikes : Nat → Int32) (unlikeMany : Int32) (isCandidate : Nat → Int32) (modes : Nat → Int32) (fewest : Nat → Int32) (z1 : Int32) (ls : Array Slot) (H : Heap) (locs : List Loc), lv_has ls 6 [(0, .ref (ad 0)), (2, .int x2), (3, .int x3), (4, .int x4), (5, .int x5)] → va_P D vwCl (wX6 cA ad thrown tape taped value weight many block ties lines pastValue pastWeight pastMany undos fresh newValue newWeight newMany newBlock newTies newLines hasBlock hasTies size att place sort number fault faultPlace lastFault lastPlace toValue toWeight toMany often firstOf lastOf unlikes unlikeMany isCandidate modes fewest) H → va_D A (wX6 cA ad thrown tape taped value weight many block ties lines pastValue pastWeight pastMany undos fresh newValue newWeight newMany newBlock newTies newLines hasBlock hasTies size att place sort number fault faultPlace lastFault lastPlace toValue toWeight toMany often firstOf lastOf unlikes unlikeMany isCandidate modes fewest) → va_S A s.heap H locs → mX6_weightsOf_L6 value weight x2 x3 n x4 x5 = some z1 → (∀ (ls : Array Slot) (H : Heap) (locs : List Loc), lv_has ls 6 [(4, .int z1)] → va_P D vwCl (wX6 cA ad thrown tape taped value weight many block ties lines pastValue pastWeight pastMany undos fresh newValue newWeight newMany newBlock newTies newLines hasBlock hasTies size att place sort number fault faultPlace lastFault lastPlace toValue toWeight toMany often firstOf lastOf unlikes unlikeMany isCandidate modes fewest) H → va_D A (wX6 cA ad thrown tape taped value weight many block ties lines pastValue pastWeight pastMany undos fresh newValue newWeight newMany newBlock newTies newLines hasBlock hasTies size att place sort number fault faultPlace lastFault lastPlace toValue toWeight toMany often firstOf lastOf unlikes unlikeMany isCandidate modes fewest) → va_S A s.heap H locs → W p l e (headSpec wsX6_weightsOf { frames := 0, cells := 0, slots := 0, locals := 0 }).room s m args below meth c H locs 0 0 Q (F0 m 45 ls [])) → W p l e (headSpec wsX6_weightsOf { frames := 0, cells := 0, slots := 0, locals := 0 }).room s m args below meth c H locs 0 0 Q (F0 m 6 ls []) := by
    intro n
    induction n with
    | zero => intro x2 x3 x4 x5 thrown tape taped value weight many block ties lines pastValue pastWeight pastMany undos fresh newValue newWeight newMany newBlock newTies newLines hasBlock hasTies size att place sort number fault faultPlace lastFault lastPlace toValue toWeight toMany often firstOf lastOf unlikes unlikeMany isCandidate modes fewest z1 ls H locs hl hP hD hS h hk6; exact e_n h
    | succ n ih6 =>
      intro x2 x3 x4 x5 thrown tape taped value weight many block ties lines pastValue pastWeight pastMany undos fresh newValue newWeight newMany newBlock newTies newLines hasBlock hasTies size att place sort number fault faultPlace lastFault lastPlace toValue toWeight toMany often firstOf lastOf unlikes unlikeMany isCandidate modes fewest z1 ls H locs hl hP hD hS h hk6
      rw [mX6_weightsOf_L6.eq_2] at h
      refine lv_iload hx hb dX6_weightsOf_6 (lv_at hl 4 rfl) ?_
      refine lv_iload_n hx hb dX6_weightsOf_8 rfl (lv_at hl 1 rfl) ?_
      refine lv_icmp_gt (tgt := 45) hx hb dX6_weightsOf_9 (by decide) (fun c2 => ?_) (fun c2 => ?_)
      · have h := e_t c2 h
        obtain rfl := e_s h
        exact hk6 _ _ _ (lv_sub hl [3] rfl) hP hD hS
      · have h := e_f c2 h
        refine lv_iload hx hb dX6_weightsOf_12 (lv_at hl 3 rfl) ?_
        refine lv_aload_n hx hb dX6_weightsOf_14 rfl (lv_at hl 0 rfl) ?_
        refine va_get (D := D) (ci := 6) (v := .ref (ad 2)) (C := RX6) (T := TX6) (N := 42) hx hb hts iX6 hown hK hP 0 rfl rfl 3 (Nat.le_of_ble_eq_true rfl) f13 (fun _ h9 => h9) rfl dX6_weightsOf_15 ?_
        refine lv_iload hx hb dX6_weightsOf_18 (lv_at hl 4 rfl) ?_
        obtain ⟨v3, ev3, nv3, h⟩ := e_rd h
        refine xa_iald hx hb hK hP 2 rfl nv3 ev3 dX6_weightsOf_20 ?_
        refine lv_iload_n hx hb dX6_weightsOf_21 rfl (lv_at hl 2 rfl) ?_
        refine lv_icmp_ne (tgt := 35) hx hb dX6_weightsOf_22 (by decide) (fun c4 => ?_) (fun c4 => ?_)
        · have h := e_t c4 h
          refine lv_iconst (v := 0) hx hb dX6_weightsOf_35 (by decide) ?_
          refine lv_iadd hx hb dX6_weightsOf_36 ?_
          refine lv_istore (lv' := [(4, .int (x4 + 0)), (0, .ref (ad 0)), (2, .int x2), (3, .int x3), (5, .int x5)]) hx hb dX6_weightsOf_37 hl (by decide) rfl (fun ls hl => ?_)
          refine lv_iinc (v := (x5 + 1)) (lv' := [(5, .int (x5 + 1)), (4, .int (x4 + 0)), (0, .ref (ad 0)), (2, .int x2), (3, .int x3)]) hx hb dX6_weightsOf_39 hl (k := 4) rfl rfl (by decide) rfl (fun ls hl => ?_)
          refine lv_goto (tgt := 6) hx hb dX6_weightsOf_42 (by decide) ?_
          exact ih6 x2 x3 (x4 + 0) (x5 + 1) thrown tape taped value weight many block ties lines pastValue pastWeight pastMany undos fresh newValue newWeight newMany newBlock newTies newLines hasBlock hasTies size att place sort number fault faultPlace lastFault lastPlace toValue toWeight toMany often firstOf lastOf unlikes unlikeMany isCandidate modes fewest z1 _ _ _ (lv_sub hl [2, 3, 4, 1, 0] rfl) hP hD hS h hk6
        · have h := e_f (not_not_intro c4) h
          refine lv_aload_n hx hb dX6_weightsOf_25 rfl (lv_at hl 0 rfl) ?_
          refine va_get (D := D) (ci := 6) (v := .ref (ad 3)) (C := RX6) (T := TX6) (N := 42) hx hb hts iX6 hown hK hP 0 rfl rfl 4 (Nat.le_of_ble_eq_true rfl) f16 (fun _ h9 => h9) rfl dX6_weightsOf_26 ?_
          refine lv_iload hx hb dX6_weightsOf_29 (lv_at hl 4 rfl) ?_
          obtain ⟨v5, ev5, nv5, h⟩ := e_rd h
          refine xa_iald hx hb hK hP 3 rfl nv5 ev5 dX6_weightsOf_31 ?_
          refine lv_goto (tgt := 36) hx hb dX6_weightsOf_32 (by decide) ?_
          refine lv_iadd hx hb dX6_weightsOf_36 ?_
          refine lv_istore (lv' := [(4, .int (x4 + v5)), (0, .ref (ad 0)), (2, .int x2), (3, .int x3), (5, .int x5)]) hx hb dX6_weightsOf_37 hl (by decide) rfl (fun ls hl => ?_)
          refine lv_iinc (v := (x5 + 1)) (lv' := [(5, .int (x5 + 1)), (4, .int (x4 + v5)), (0, .ref (ad 0)), (2, .int x2), (3, .int x3)]) hx hb dX6_weightsOf_39 hl (k := 4) rfl rfl (by decide) rfl (fun ls hl => ?_)
          refine lv_goto (tgt := 6) hx hb dX6_weightsOf_42 (by decide) ?_
          exact ih6 x2 x3 (x4 + v5) (x5 + 1) thrown tape taped value weight many block ties lines pastValue pastWeight pastMany undos fresh newValue newWeight newMany newBlock newTies newLines hasBlock hasTies size att place sort number fault faultPlace lastFault lastPlace toValue toWeight toMany often firstOf lastOf unlikes unlikeMany isCandidate modes fewest z1 _ _ _ (lv_sub hl [2, 3, 4, 1, 0] rfl) hP hD hS h hk6
  obtain ⟨z6, ez6, h⟩ := e_b h
  refine hL6 FU x2 x3 0 x1 thrown tape taped value weight many block ties lines pastValue pastWeight pastMany undos fresh newValue newWeight newMany newBlock newTies newLines hasBlock hasTies size att place sort number fault faultPlace lastFault lastPlace toValue toWeight toMany often firstOf lastOf unlikes unlikeMany isCandidate modes fewest z6 _ _ _ (lv_sub hl [2, 4, 5, 1, 0] rfl) hP hD hS ez6 (fun ls H locs hl hP hD hS => ?_)
  refine lv_iload hx hb dX6_weightsOf_45 (lv_at hl 0 rfl) ?_
  obtain rfl := e_s h
  exact hret hP hS rfl dX6_weightsOf_47
set_option maxHeartbeats 4000000 in
set_option maxRecDepth 100000 in
theorem kX6_heaviest (l : Launch) (D : va_G) (cA : Nat → ClassId) (ad : Nat → Nat) (thrown : Int32) (tape : Nat → Int32) (taped : Int32) (value : Nat → Int32) (weight : Nat → Int32) (many : Int32) (block : Int32) (ties : Int32) (lines : Int32) (pastValue : Nat → Int32) (pastWeight : Nat → Int32) (pastMany : Nat → Int32) (undos : Int32) (fresh : Int32) (newValue : Nat → Int32) (newWeight : Nat → Int32) (newMany : Int32) (newBlock : Int32) (newTies : Int32) (newLines : Int32) (hasBlock : Int32) (hasTies : Int32) (size : Int32) (att : Int32) (place : Int32) (sort : Int32) (number : Int32) (fault : Int32) (faultPlace : Int32) (lastFault : Int32) (lastPlace : Int32) (toValue : Nat → Int32) (toWeight : Nat → Int32) (toMany : Int32) (often : Nat → Int32) (firstOf : Nat → Int32) (lastOf : Nat → Int32) (unlikes : Nat → Int32) (unlikeMany : Int32) (isCandidate : Nat → Int32) (modes : Nat → Int32) (fewest : Nat → Int32) (x1 : Int32) (x2 : Int32) (x3 : Int32) (q : Int32 × Int32 × (Nat → Int32) × (Nat → Int32) × (Nat → Int32) × (Nat → Int32) × Int32) (h : mX6_heaviest thrown value weight many ties often firstOf lastOf unlikes unlikeMany x1 x2 x3 = some q) : MI l yX6_heaviest wsX6_heaviest { frames := 1, cells := 0, slots := 0, locals := 25 } D cA .int [.ref (ad 0), .int x1, .int x2, .int x3] (wX6 cA ad thrown tape taped value weight many block ties lines pastValue pastWeight pastMany undos fresh newValue newWeight newMany newBlock newTies newLines hasBlock hasTies size att place sort number fault faultPlace lastFault lastPlace toValue toWeight toMany often firstOf lastOf unlikes unlikeMany isCandidate modes fewest) (wX6 cA ad q.2.1 tape taped value weight many block ties lines pastValue pastWeight pastMany undos fresh newValue newWeight newMany newBlock newTies newLines hasBlock hasTies size att place sort number fault faultPlace lastFault lastPlace toValue toWeight toMany q.2.2.1 q.2.2.2.1 q.2.2.2.2.1 q.2.2.2.2.2.1 q.2.2.2.2.2.2 isCandidate modes fewest) q.1 := by
  refine MI.of (cc := cX6_heaviest) (maxL := 10) (by decide +kernel) rfl rfl rfl (Nat.le_of_ble_eq_true rfl) ?_
  intro p e s m args below meth c A ls Q hx hb hml hts hown hK hP hD hA hS hl hret
  have hl : lv_has ls 10 [(0, .ref (ad 0)), (1, .int x1), (2, .int x2), (3, .int x3)] := hl
  have f178 := hts (.fieldLink RX6 178 "ModeDeskModel" "ties" "I") (by decide +kernel)
  have f242 := hts (.fieldLink RX6 242 "ModeDeskModel" "unlikeMany" "I") (by decide +kernel)
  have f56 := hts (.fieldLink RX6 56 "ModeDeskModel" "unlikes" "[I") (by decide +kernel)
  have f72 := hts (.fieldLink RX6 72 "ModeDeskModel" "thrown" "I") (by decide +kernel)
  have iX6 : ∀ w ∈ wsX60, w ∈ wsX6_heaviest := by decide +kernel
  unfold mX6_heaviest at h
  refine lv_aload_n hx hb dX6_heaviest_0 rfl (lv_at hl 0 rfl) ?_
  refine lv_iconst (v := 0) hx hb dX6_heaviest_1 (by decide) ?_
  refine va_put (D := D) (ci := 6) (v := .int 0) (ty := .int) (C := RX6) (T := TX6) (N := 42) hx hb hts iX6 tyX6 tyX6_ok nmX6 hown hK hP hD hS 0 rfl rfl 0 (Nat.le_of_ble_eq_true rfl) f72 (fun _ h9 => h9) rfl (tyX6_ok 0 (Nat.le_of_ble_eq_true rfl)) rfl rfl (Nat.le_of_ble_eq_true rfl) dX6_heaviest_2 (fun H locs hP hD hS => ?_)
  have hP : va_P D vwCl (wX6 cA ad 0 tape taped value weight many block ties lines pastValue pastWeight pastMany undos fresh newValue newWeight newMany newBlock newTies newLines hasBlock hasTies size att place sort number fault faultPlace lastFault lastPlace toValue toWeight toMany often firstOf lastOf unlikes unlikeMany isCandidate modes fewest) H := hP
  have hD : va_D A (wX6 cA ad 0 tape taped value weight many block ties lines pastValue pastWeight pastMany undos fresh newValue newWeight newMany newBlock newTies newLines hasBlock hasTies size att place sort number fault faultPlace lastFault lastPlace toValue toWeight toMany often firstOf lastOf unlikes unlikeMany isCandidate modes fewest) := hD
  refine lv_aload_n hx hb dX6_heaviest_5 rfl (lv_at hl 0 rfl) ?_
  refine lv_iload_n hx hb dX6_heaviest_6 rfl (lv_at hl 1 rfl) ?_
  refine lv_iload_n hx hb dX6_heaviest_7 rfl (lv_at hl 2 rfl) ?_
  obtain ⟨q1, eq1, h⟩ := e_b h
  refine xv_i0 (As := [.int x1, .int x2]) (rest := []) (ci := 6) (b := ad 0) ⟨hx, hb, hml, hown, hts⟩ hl.1 (kX6_isSpan l D cA ad 0 tape taped value weight many block ties lines pastValue pastWeight pastMany undos fresh newValue newWeight newMany newBlock newTies newLines hasBlock hasTies size att place sort number fault faultPlace lastFault lastPlace toValue toWeight toMany often firstOf lastOf unlikes unlikeMany isCandidate modes fewest x1 x2  _ eq1) (cwV 2 hts gX6_heaviest_X6_isSpan rfl rfl rfl (by decide +kernel) ⟨Nat.le_of_ble_eq_true rfl, Nat.le_of_ble_eq_true rfl⟩) rfl hK hP hD hS hA 0 rfl rfl rfl rfl (Nat.le_of_ble_eq_true rfl) dX6_heaviest_8 ⟨Nat.zero_le _, Nat.zero_le _⟩ (fun H locs hP hD hS hnq1 => ?_)
  have hP : va_P D vwCl (wX6 cA ad 0 tape taped value weight many block ties lines pastValue pastWeight pastMany undos fresh newValue newWeight newMany newBlock newTies newLines hasBlock hasTies size att place sort number fault faultPlace lastFault lastPlace toValue toWeight toMany often firstOf lastOf unlikes unlikeMany isCandidate modes fewest) H := hP
  have hD : va_D A (wX6 cA ad 0 tape taped value weight many block ties lines pastValue pastWeight pastMany undos fresh newValue newWeight newMany newBlock newTies newLines hasBlock hasTies size att place sort number fault faultPlace lastFault lastPlace toValue toWeight toMany often firstOf lastOf unlikes unlikeMany isCandidate modes fewest) := hD
  refine lv_if_eq (tgt := 23) hx hb dX6_heaviest_11 (by decide) (fun c2 => ?_) (fun c2 => ?_)
  · have h := e_t c2 h
    refine lv_iconst (v := (-1)) hx hb dX6_heaviest_23 (by decide) ?_
    obtain rfl := e_s h
    exact hret hP hS rfl dX6_heaviest_24
  · have h := e_f c2 h
    refine lv_iload_n hx hb dX6_heaviest_14 rfl (lv_at hl 3 rfl) ?_
    refine lv_if_lt (tgt := 23) hx hb dX6_heaviest_15 (by decide) (fun c3 => ?_) (fun c3 => ?_)
    · have h := e_t c3 h
      refine lv_iconst (v := (-1)) hx hb dX6_heaviest_23 (by decide) ?_
      obtain rfl := e_s h
      exact hret hP hS rfl dX6_heaviest_24
    · have h := e_f c3 h
      refine lv_iload_n hx hb dX6_heaviest_18 rfl (lv_at hl 3 rfl) ?_
      refine lv_iconst (v := 1) hx hb dX6_heaviest_19 (by decide) ?_
      refine lv_icmp_le (tgt := 25) hx hb dX6_heaviest_20 (by decide) (fun c4 => ?_) (fun c4 => ?_)
      · have h := e_t c4 h
        refine lv_aload_n hx hb dX6_heaviest_25 rfl (lv_at hl 0 rfl) ?_
        refine lv_iload_n hx hb dX6_heaviest_26 rfl (lv_at hl 1 rfl) ?_
        refine lv_iload_n hx hb dX6_heaviest_27 rfl (lv_at hl 2 rfl) ?_
        refine lv_iconst (v := (-1)) hx hb dX6_heaviest_28 (by decide) ?_
        obtain ⟨q5, eq5, h⟩ := e_b h
        refine xv_v0 (As := [.int x1, .int x2, .int (-1)]) (rest := []) (ci := 6) (b := ad 0) ⟨hx, hb, hml, hown, hts⟩ hl.1 (kX6_counts l D cA ad 0 tape taped value weight many block ties lines pastValue pastWeight pastMany undos fresh newValue newWeight newMany newBlock newTies newLines hasBlock hasTies size att place sort number fault faultPlace lastFault lastPlace toValue toWeight toMany often firstOf lastOf unlikes unlikeMany isCandidate modes fewest x1 x2 (-1)  _ eq5) (cwV 3 hts gX6_heaviest_X6_counts rfl rfl rfl (by decide +kernel) ⟨Nat.le_of_ble_eq_true rfl, Nat.le_of_ble_eq_true rfl⟩) rfl hK hP hD hS hA 0 rfl rfl rfl rfl (Nat.le_of_ble_eq_true rfl) dX6_heaviest_29 ⟨Nat.zero_le _, Nat.zero_le _⟩ (fun H locs hP hD hS => ?_)
        have hP : va_P D vwCl (wX6 cA ad 0 tape taped value weight many block ties lines pastValue pastWeight pastMany undos fresh newValue newWeight newMany newBlock newTies newLines hasBlock hasTies size att place sort number fault faultPlace lastFault lastPlace toValue toWeight toMany q5.1 q5.2.1 q5.2.2.1 q5.2.2.2.1 q5.2.2.2.2 isCandidate modes fewest) H := hP
        have hD : va_D A (wX6 cA ad 0 tape taped value weight many block ties lines pastValue pastWeight pastMany undos fresh newValue newWeight newMany newBlock newTies newLines hasBlock hasTies size att place sort number fault faultPlace lastFault lastPlace toValue toWeight toMany q5.1 q5.2.1 q5.2.2.1 q5.2.2.2.1 q5.2.2.2.2 isCandidate modes fewest) := hD
        refine lv_iconst (v := (-1)) hx hb dX6_heaviest_32 (by decide) ?_
        refine lv_istore (lv' := [(4, .int (-1)), (0, .ref (ad 0)), (1, .int x1), (2, .int x2), (3, .int x3)]) hx hb dX6_heaviest_33 hl (by decide) rfl (fun ls hl => ?_)
        refine lv_iconst (v := 0) hx hb dX6_heaviest_35 (by decide) ?_
        refine lv_istore (lv' := [(5, .int 0), (4, .int (-1)), (0, .ref (ad 0)), (1, .int x1), (2, .int x2), (3, .int x3)]) hx hb dX6_heaviest_36 hl (by decide) rfl (fun ls hl => ?_)
        refine lv_iconst (v := 0) hx hb dX6_heaviest_38 (by decide) ?_
        refine lv_istore (lv' := [(6, .int 0), (5, .int 0), (4, .int (-1)), (0, .ref (ad 0)), (1, .int x1), (2, .int x2), (3, .int x3)]) hx hb dX6_heaviest_39 hl (by decide) rfl (fun ls hl => ?_)
        have hL41 : ∀ (n : Nat) (x1 : Int32) (x2 : Int32) (x3 : Int32) (x4 : Int32) (x5 : Int32) (x6 : Int32) (thrown : Int32) (tape : Nat → Int32) (taped : Int32) (value : Nat → Int32) (weight : Nat → Int32) (many : Int32) (block : Int32) (ties : Int32) (lines : Int32) (pastValue : Nat → Int32) (pastWeight : Nat → Int32) (pastMany : Nat → Int32) (undos : Int32) (fresh : Int32) (newValue : Nat → Int32) (newWeight : Nat → Int32) (newMany : Int32) (newBlock : Int32) (newTies : Int32) (newLines : Int32) (hasBlock : Int32) (hasTies : Int32) (size : Int32) (att : Int32) (place : Int32) (sort : Int32) (number : Int32) (fault : Int32) (faultPlace : Int32) (lastFault : Int32) (lastPlace : Int32) (toValue : Nat → Int32) (toWeight : Nat → Int32) (toMany : Int32) (often : Nat → Int32) (firstOf : Nat → Int32) (lastOf : Nat → Int32) (unlikes : Nat → Int32) (unlikeMany : Int32) (isCandidate : Nat → Int32) (modes : Nat → Int32) (fewest : Nat → Int32) (z6 : Int32 × Int32) (ls : Array Slot) (H : Heap) (locs : List Loc), lv_has ls 10 [(0, .ref (ad 0)), (1, .int x1), (2, .int x2), (3, .int x3), (4, .int x4), (5, .int x5), (6, .int x6)] → va_P D vwCl (wX6 cA ad thrown tape taped value weight many block ties lines pastValue pastWeight pastMany undos fresh newValue newWeight newMany newBlock newTies newLines hasBlock hasTies size att place sort number fault faultPlace lastFault lastPlace toValue toWeight toMany often firstOf lastOf unlikes unlikeMany isCandidate modes fewest) H → va_D A (wX6 cA ad thrown tape taped value weight many block ties lines pastValue pastWeight pastMany undos fresh newValue newWeight newMany newBlock newTies newLines hasBlock hasTies size att place sort number fault faultPlace lastFault lastPlace toValue toWeight toMany often firstOf lastOf unlikes unlikeMany isCandidate modes fewest) → va_S A s.heap H locs → mX6_heaviest_L41 value weight ties often firstOf lastOf unlikes unlikeMany x1 x2 n x4 x5 x6 = some z6 → (∀ (ls : Array Slot) (H : Heap) (locs : List Loc), lv_has ls 10 [(3, .int x3), (4, .int z6.1), (5, .int z6.2)] → va_P D vwCl (wX6 cA ad thrown tape taped value weight many block ties lines pastValue pastWeight pastMany undos fresh newValue newWeight newMany newBlock newTies newLines hasBlock hasTies size att place sort number fault faultPlace lastFault lastPlace toValue toWeight toMany often firstOf lastOf unlikes unlikeMany isCandidate modes fewest) H → va_D A (wX6 cA ad thrown tape taped value weight many block ties lines pastValue pastWeight pastMany undos fresh newValue newWeight newMany newBlock newTies newLines hasBlock hasTies size att place sort number fault faultPlace lastFault lastPlace toValue toWeight toMany often firstOf lastOf unlikes unlikeMany isCandidate modes fewest) → va_S A s.heap H locs → W p l e (headSpec wsX6_heaviest { frames := 1, cells := 0, slots := 0, locals := 25 }).room s m args below meth c H locs 0 0 Q (F0 m 133 ls [])) → W p l e (headSpec wsX6_heaviest { frames := 1, cells := 0, slots := 0, locals := 25 }).room s m args below meth c H locs 0 0 Q (F0 m 41 ls []) := by
          intro n
          induction n with
          | zero => intro x1 x2 x3 x4 x5 x6 thrown tape taped value weight many block ties lines pastValue pastWeight pastMany undos fresh newValue newWeight newMany newBlock newTies newLines hasBlock hasTies size att place sort number fault faultPlace lastFault lastPlace toValue toWeight toMany often firstOf lastOf unlikes unlikeMany isCandidate modes fewest z6 ls H locs hl hP hD hS h hk41; exact e_n h
          | succ n ih41 =>
            intro x1 x2 x3 x4 x5 x6 thrown tape taped value weight many block ties lines pastValue pastWeight pastMany undos fresh newValue newWeight newMany newBlock newTies newLines hasBlock hasTies size att place sort number fault faultPlace lastFault lastPlace toValue toWeight toMany often firstOf lastOf unlikes unlikeMany isCandidate modes fewest z6 ls H locs hl hP hD hS h hk41
            rw [mX6_heaviest_L41.eq_2] at h
            refine lv_iload hx hb dX6_heaviest_41 (lv_at hl 6 rfl) ?_
            refine lv_aload_n hx hb dX6_heaviest_43 rfl (lv_at hl 0 rfl) ?_
            refine va_get (D := D) (ci := 6) (v := .int unlikeMany) (C := RX6) (T := TX6) (N := 42) hx hb hts iX6 hown hK hP 0 rfl rfl 38 (Nat.le_of_ble_eq_true rfl) f242 (fun _ h9 => h9) rfl dX6_heaviest_44 ?_
            refine lv_icmp_ge (tgt := 133) hx hb dX6_heaviest_47 (by decide) (fun c7 => ?_) (fun c7 => ?_)
            · have h := e_t c7 h
              obtain rfl := e_s h
              exact hk41 _ _ _ (lv_sub hl [3, 4, 5] rfl) hP hD hS
            · have h := e_f c7 h
              refine lv_aload_n hx hb dX6_heaviest_50 rfl (lv_at hl 0 rfl) ?_
              refine va_get (D := D) (ci := 6) (v := .ref (ad 14)) (C := RX6) (T := TX6) (N := 42) hx hb hts iX6 hown hK hP 0 rfl rfl 37 (Nat.le_of_ble_eq_true rfl) f56 (fun _ h9 => h9) rfl dX6_heaviest_51 ?_
              refine lv_iload hx hb dX6_heaviest_54 (lv_at hl 6 rfl) ?_
              obtain ⟨v8, ev8, nv8, h⟩ := e_rd h
              refine xa_iald hx hb hK hP 14 rfl nv8 ev8 dX6_heaviest_56 ?_
              refine lv_istore (lv' := [(7, .int v8), (0, .ref (ad 0)), (1, .int x1), (2, .int x2), (3, .int x3), (4, .int x4), (5, .int x5), (6, .int x6)]) hx hb dX6_heaviest_57 hl (by decide) rfl (fun ls hl => ?_)
              refine lv_aload_n hx hb dX6_heaviest_59 rfl (lv_at hl 1 rfl) ?_
              refine lv_iload_n hx hb dX6_heaviest_60 rfl (lv_at hl 2 rfl) ?_
              refine lv_iload_n hx hb dX6_heaviest_61 rfl (lv_at hl 3 rfl) ?_
              refine lv_iload hx hb dX6_heaviest_62 (lv_at hl 0 rfl) ?_
              obtain ⟨q9, eq9, h⟩ := e_b h
              refine xv_i0 (As := [.int x1, .int x2, .int v8]) (rest := []) (ci := 6) (b := ad 0) ⟨hx, hb, hml, hown, hts⟩ hl.1 (kX6_weightsOf l D cA ad thrown tape taped value weight many block ties lines pastValue pastWeight pastMany undos fresh newValue newWeight newMany newBlock newTies newLines hasBlock hasTies size att place sort number fault faultPlace lastFault lastPlace toValue toWeight toMany often firstOf lastOf unlikes unlikeMany isCandidate modes fewest x1 x2 v8  _ eq9) (cwV 3 hts gX6_heaviest_X6_weightsOf rfl rfl rfl (by decide +kernel) ⟨Nat.le_of_ble_eq_true rfl, Nat.le_of_ble_eq_true rfl⟩) rfl hK hP hD hS hA 0 rfl rfl rfl rfl (Nat.le_of_ble_eq_true rfl) dX6_heaviest_64 ⟨Nat.zero_le _, Nat.zero_le _⟩ (fun H locs hP hD hS hnq9 => ?_)
              have hP : va_P D vwCl (wX6 cA ad thrown tape taped value weight many block ties lines pastValue pastWeight pastMany undos fresh newValue newWeight newMany newBlock newTies newLines hasBlock hasTies size att place sort number fault faultPlace lastFault lastPlace toValue toWeight toMany often firstOf lastOf unlikes unlikeMany isCandidate modes fewest) H := hP
              have hD : va_D A (wX6 cA ad thrown tape taped value weight many block ties lines pastValue pastWeight pastMany undos fresh newValue newWeight newMany newBlock newTies newLines hasBlock hasTies size att place sort number fault faultPlace lastFault lastPlace toValue toWeight toMany often firstOf lastOf unlikes unlikeMany isCandidate modes fewest) := hD
              refine lv_istore (lv' := [(8, .int q9), (7, .int v8), (0, .ref (ad 0)), (1, .int x1), (2, .int x2), (3, .int x3), (4, .int x4), (5, .int x5), (6, .int x6)]) hx hb dX6_heaviest_67 hl (by decide) rfl (fun ls hl => ?_)
              refine lv_iload hx hb dX6_heaviest_69 (lv_at hl 6 rfl) ?_
              refine lv_iconst (v := (-1)) hx hb dX6_heaviest_71 (by decide) ?_
              obtain ⟨z10, ez10, h⟩ := e_b h
              have hJ11 : ∀ (ls : Array Slot) (H : Heap) (locs : List Loc), lv_has ls 10 [(0, .ref (ad 0)), (1, .int x1), (2, .int x2), (3, .int x3), (4, .int x4), (5, .int x5), (6, .int x6), (7, .int v8), (8, .int q9)] → va_P D vwCl (wX6 cA ad thrown tape taped value weight many block ties lines pastValue pastWeight pastMany undos fresh newValue newWeight newMany newBlock newTies newLines hasBlock hasTies size att place sort number fault faultPlace lastFault lastPlace toValue toWeight toMany often firstOf lastOf unlikes unlikeMany isCandidate modes fewest) H → va_D A (wX6 cA ad thrown tape taped value weight many block ties lines pastValue pastWeight pastMany undos fresh newValue newWeight newMany newBlock newTies newLines hasBlock hasTies size att place sort number fault faultPlace lastFault lastPlace toValue toWeight toMany often firstOf lastOf unlikes unlikeMany isCandidate modes fewest) → va_S A s.heap H locs → W p l e (headSpec wsX6_heaviest { frames := 1, cells := 0, slots := 0, locals := 25 }).room s m args below meth c H locs 0 0 Q (F0 m 109 ls [.int z10]) := by
                intro ls H locs hl hP hD hS
                refine lv_istore (lv' := [(9, .int z10), (0, .ref (ad 0)), (1, .int x1), (2, .int x2), (3, .int x3), (4, .int x4), (5, .int x5), (6, .int x6), (7, .int v8), (8, .int q9)]) hx hb dX6_heaviest_109 hl (by decide) rfl (fun ls hl => ?_)
                refine lv_iload hx hb dX6_heaviest_111 (lv_at hl 0 rfl) ?_
                refine lv_if_ne (tgt := 119) hx hb dX6_heaviest_113 (by decide) (fun c12 => ?_) (fun c12 => ?_)
                · have h := e_t c12 h
                  refine lv_iload hx hb dX6_heaviest_119 (lv_at hl 8 rfl) ?_
                  refine lv_istore (lv' := [(4, .int v8), (9, .int z10), (0, .ref (ad 0)), (1, .int x1), (2, .int x2), (3, .int x3), (5, .int x5), (6, .int x6), (7, .int v8), (8, .int q9)]) hx hb dX6_heaviest_121 hl (by decide) rfl (fun ls hl => ?_)
                  refine lv_iload hx hb dX6_heaviest_123 (lv_at hl 9 rfl) ?_
                  refine lv_istore (lv' := [(5, .int q9), (4, .int v8), (9, .int z10), (0, .ref (ad 0)), (1, .int x1), (2, .int x2), (3, .int x3), (6, .int x6), (7, .int v8), (8, .int q9)]) hx hb dX6_heaviest_125 hl (by decide) rfl (fun ls hl => ?_)
                  refine lv_iinc (v := (x6 + 1)) (lv' := [(6, .int (x6 + 1)), (5, .int q9), (4, .int v8), (9, .int z10), (0, .ref (ad 0)), (1, .int x1), (2, .int x2), (3, .int x3), (7, .int v8), (8, .int q9)]) hx hb dX6_heaviest_127 hl (k := 7) rfl rfl (by decide) rfl (fun ls hl => ?_)
                  refine lv_goto (tgt := 41) hx hb dX6_heaviest_130 (by decide) ?_
                  exact ih41 x1 x2 x3 v8 q9 (x6 + 1) thrown tape taped value weight many block ties lines pastValue pastWeight pastMany undos fresh newValue newWeight newMany newBlock newTies newLines hasBlock hasTies size att place sort number fault faultPlace lastFault lastPlace toValue toWeight toMany often firstOf lastOf unlikes unlikeMany isCandidate modes fewest z6 _ _ _ (lv_sub hl [4, 5, 6, 7, 2, 1, 0] rfl) hP hD hS h hk41
                · have h := e_f (not_not_intro c12) h
                  refine lv_goto (tgt := 127) hx hb dX6_heaviest_116 (by decide) ?_
                  refine lv_iinc (v := (x6 + 1)) (lv' := [(6, .int (x6 + 1)), (9, .int z10), (0, .ref (ad 0)), (1, .int x1), (2, .int x2), (3, .int x3), (4, .int x4), (5, .int x5), (7, .int v8), (8, .int q9)]) hx hb dX6_heaviest_127 hl (k := 7) rfl rfl (by decide) rfl (fun ls hl => ?_)
                  refine lv_goto (tgt := 41) hx hb dX6_heaviest_130 (by decide) ?_
                  exact ih41 x1 x2 x3 x4 x5 (x6 + 1) thrown tape taped value weight many block ties lines pastValue pastWeight pastMany undos fresh newValue newWeight newMany newBlock newTies newLines hasBlock hasTies size att place sort number fault faultPlace lastFault lastPlace toValue toWeight toMany often firstOf lastOf unlikes unlikeMany isCandidate modes fewest z6 _ _ _ (lv_sub hl [2, 3, 4, 5, 6, 7, 0] rfl) hP hD hS h hk41
              have h := ez10
              refine lv_icmp_eq (tgt := 104) hx hb dX6_heaviest_72 (by decide) (fun c13 => ?_) (fun c13 => ?_)
              · have h := e_t c13 h
                refine lv_iconst (v := 1) hx hb dX6_heaviest_104 (by decide) ?_
                refine lv_goto (tgt := 109) hx hb dX6_heaviest_105 (by decide) ?_
                obtain rfl := e_s h
                exact hJ11 _ _ _ (lv_sub hl [2, 3, 4, 5, 6, 7, 8, 1, 0] rfl) hP hD hS
              · have h := e_f c13 h
                refine lv_iload hx hb dX6_heaviest_75 (lv_at hl 0 rfl) ?_
                refine lv_iload hx hb dX6_heaviest_77 (lv_at hl 7 rfl) ?_
                refine lv_icmp_gt (tgt := 104) hx hb dX6_heaviest_79 (by decide) (fun c14 => ?_) (fun c14 => ?_)
                · have h := e_t c14 h
                  refine lv_iconst (v := 1) hx hb dX6_heaviest_104 (by decide) ?_
                  refine lv_goto (tgt := 109) hx hb dX6_heaviest_105 (by decide) ?_
                  obtain rfl := e_s h
                  exact hJ11 _ _ _ (lv_sub hl [2, 3, 4, 5, 6, 7, 8, 1, 0] rfl) hP hD hS
                · have h := e_f c14 h
                  refine lv_iload hx hb dX6_heaviest_82 (lv_at hl 0 rfl) ?_
                  refine lv_iload hx hb dX6_heaviest_84 (lv_at hl 7 rfl) ?_
                  refine lv_icmp_ne (tgt := 108) hx hb dX6_heaviest_86 (by decide) (fun c15 => ?_) (fun c15 => ?_)
                  · have h := e_t c15 h
                    refine lv_iconst (v := 0) hx hb dX6_heaviest_108 (by decide) ?_
                    obtain rfl := e_s h
                    exact hJ11 _ _ _ (lv_sub hl [2, 3, 4, 5, 6, 7, 8, 1, 0] rfl) hP hD hS
                  · have h := e_f (not_not_intro c15) h
                    refine lv_aload_n hx hb dX6_heaviest_89 rfl (lv_at hl 2 rfl) ?_
                    refine lv_iload hx hb dX6_heaviest_90 (lv_at hl 1 rfl) ?_
                    refine lv_iload hx hb dX6_heaviest_92 (lv_at hl 6 rfl) ?_
                    refine lv_aload_n hx hb dX6_heaviest_94 rfl (lv_at hl 2 rfl) ?_
                    refine va_get (D := D) (ci := 6) (v := .int ties) (C := RX6) (T := TX6) (N := 42) hx hb hts iX6 hown hK hP 0 rfl rfl 7 (Nat.le_of_ble_eq_true rfl) f178 (fun _ h9 => h9) rfl dX6_heaviest_95 ?_
                    obtain ⟨q16, eq16, h⟩ := e_b h
                    refine xv_i0 (As := [.int v8, .int x4, .int ties]) (rest := []) (ci := 6) (b := ad 0) ⟨hx, hb, hml, hown, hts⟩ hl.1 (kX6_isAhead l D cA ad thrown tape taped value weight many block ties lines pastValue pastWeight pastMany undos fresh newValue newWeight newMany newBlock newTies newLines hasBlock hasTies size att place sort number fault faultPlace lastFault lastPlace toValue toWeight toMany often firstOf lastOf unlikes unlikeMany isCandidate modes fewest v8 x4 ties  _ eq16) (cwV 3 hts gX6_heaviest_X6_isAhead rfl rfl rfl (by decide +kernel) ⟨Nat.le_of_ble_eq_true rfl, Nat.le_of_ble_eq_true rfl⟩) rfl hK hP hD hS hA 0 rfl rfl rfl rfl (Nat.le_of_ble_eq_true rfl) dX6_heaviest_98 ⟨Nat.zero_le _, Nat.zero_le _⟩ (fun H locs hP hD hS hnq16 => ?_)
                    have hP : va_P D vwCl (wX6 cA ad thrown tape taped value weight many block ties lines pastValue pastWeight pastMany undos fresh newValue newWeight newMany newBlock newTies newLines hasBlock hasTies size att place sort number fault faultPlace lastFault lastPlace toValue toWeight toMany often firstOf lastOf unlikes unlikeMany isCandidate modes fewest) H := hP
                    have hD : va_D A (wX6 cA ad thrown tape taped value weight many block ties lines pastValue pastWeight pastMany undos fresh newValue newWeight newMany newBlock newTies newLines hasBlock hasTies size att place sort number fault faultPlace lastFault lastPlace toValue toWeight toMany often firstOf lastOf unlikes unlikeMany isCandidate modes fewest) := hD
                    refine lv_if_eq (tgt := 108) hx hb dX6_heaviest_101 (by decide) (fun c17 => ?_) (fun c17 => ?_)
                    · have h := e_t c17 h
                      refine lv_iconst (v := 0) hx hb dX6_heaviest_108 (by decide) ?_
                      obtain rfl := e_s h
                      exact hJ11 _ _ _ (lv_sub hl [2, 3, 4, 5, 6, 7, 8, 1, 0] rfl) hP hD hS
                    · have h := e_f c17 h
                      refine lv_iconst (v := 1) hx hb dX6_heaviest_104 (by decide) ?_
                      refine lv_goto (tgt := 109) hx hb dX6_heaviest_105 (by decide) ?_
                      obtain rfl := e_s h
                      exact hJ11 _ _ _ (lv_sub hl [2, 3, 4, 5, 6, 7, 8, 1, 0] rfl) hP hD hS
        obtain ⟨z18, ez18, h⟩ := e_b h
        refine hL41 FU x1 x2 x3 (-1) 0 0 0 tape taped value weight many block ties lines pastValue pastWeight pastMany undos fresh newValue newWeight newMany newBlock newTies newLines hasBlock hasTies size att place sort number fault faultPlace lastFault lastPlace toValue toWeight toMany q5.1 q5.2.1 q5.2.2.1 q5.2.2.2.1 q5.2.2.2.2 isCandidate modes fewest z18 _ _ _ (lv_sub hl [3, 4, 5, 6, 2, 1, 0] rfl) hP hD hS ez18 (fun ls H locs hl hP hD hS => ?_)
        refine lv_iload_n hx hb dX6_heaviest_133 rfl (lv_at hl 0 rfl) ?_
        refine lv_if_ne (tgt := 142) hx hb dX6_heaviest_134 (by decide) (fun c19 => ?_) (fun c19 => ?_)
        · have h := e_t c19 h
          refine lv_iload hx hb dX6_heaviest_142 (lv_at hl 2 rfl) ?_
          obtain rfl := e_s h
          exact hret hP hS rfl dX6_heaviest_144
        · have h := e_f (not_not_intro c19) h
          refine lv_iload hx hb dX6_heaviest_137 (lv_at hl 1 rfl) ?_
          refine lv_goto (tgt := 144) hx hb dX6_heaviest_139 (by decide) ?_
          obtain rfl := e_s h
          exact hret hP hS rfl dX6_heaviest_144
      · have h := e_f c4 h
        refine lv_iconst (v := (-1)) hx hb dX6_heaviest_23 (by decide) ?_
        obtain rfl := e_s h
        exact hret hP hS rfl dX6_heaviest_24
set_option maxHeartbeats 4000000 in
set_option maxRecDepth 100000 in
theorem kX6_endOf (l : Launch) (D : va_G) (cA : Nat → ClassId) (ad : Nat → Nat) (thrown : Int32) (tape : Nat → Int32) (taped : Int32) (value : Nat → Int32) (weight : Nat → Int32) (many : Int32) (block : Int32) (ties : Int32) (lines : Int32) (pastValue : Nat → Int32) (pastWeight : Nat → Int32) (pastMany : Nat → Int32) (undos : Int32) (fresh : Int32) (newValue : Nat → Int32) (newWeight : Nat → Int32) (newMany : Int32) (newBlock : Int32) (newTies : Int32) (newLines : Int32) (hasBlock : Int32) (hasTies : Int32) (size : Int32) (att : Int32) (place : Int32) (sort : Int32) (number : Int32) (fault : Int32) (faultPlace : Int32) (lastFault : Int32) (lastPlace : Int32) (toValue : Nat → Int32) (toWeight : Nat → Int32) (toMany : Int32) (often : Nat → Int32) (firstOf : Nat → Int32) (lastOf : Nat → Int32) (unlikes : Nat → Int32) (unlikeMany : Int32) (isCandidate : Nat → Int32) (modes : Nat → Int32) (fewest : Nat → Int32) (x1 : Int32) (q : Int32) (h : mX6_endOf many block x1 = some q) : MI l yX6_endOf wsX6_endOf { frames := 1, cells := 0, slots := 0, locals := 23 } D cA .int [.ref (ad 0), .int x1] (wX6 cA ad thrown tape taped value weight many block ties lines pastValue pastWeight pastMany undos fresh newValue newWeight newMany newBlock newTies newLines hasBlock hasTies size att place sort number fault faultPlace lastFault lastPlace toValue toWeight toMany often firstOf lastOf unlikes unlikeMany isCandidate modes fewest) (wX6 cA ad thrown tape taped value weight many block ties lines pastValue pastWeight pastMany undos fresh newValue newWeight newMany newBlock newTies newLines hasBlock hasTies size att place sort number fault faultPlace lastFault lastPlace toValue toWeight toMany often firstOf lastOf unlikes unlikeMany isCandidate modes fewest) q := by
  refine MI.of (cc := cX6_endOf) (maxL := 2) (by decide +kernel) rfl rfl rfl (Nat.le_of_ble_eq_true rfl) ?_
  intro p e s m args below meth c A ls Q hx hb hml hts hown hK hP hD hA hS hl hret
  have hl : lv_has ls 2 [(0, .ref (ad 0)), (1, .int x1)] := hl
  have f175 := hts (.fieldLink RX6 175 "ModeDeskModel" "many" "I") (by decide +kernel)
  have f69 := hts (.fieldLink RX6 69 "ModeDeskModel" "block" "I") (by decide +kernel)
  have iX6 : ∀ w ∈ wsX60, w ∈ wsX6_endOf := by decide +kernel
  unfold mX6_endOf at h
  refine lv_aload_n hx hb dX6_endOf_0 rfl (lv_at hl 0 rfl) ?_
  refine va_get (D := D) (ci := 6) (v := .int block) (C := RX6) (T := TX6) (N := 42) hx hb hts iX6 hown hK hP 0 rfl rfl 6 (Nat.le_of_ble_eq_true rfl) f69 (fun _ h9 => h9) rfl dX6_endOf_1 ?_
  refine lv_iload_n hx hb dX6_endOf_4 rfl (lv_at hl 1 rfl) ?_
  refine lv_imul hx hb dX6_endOf_5 ?_
  refine lv_aload_n hx hb dX6_endOf_6 rfl (lv_at hl 0 rfl) ?_
  refine lv_iload_n hx hb dX6_endOf_7 rfl (lv_at hl 1 rfl) ?_
  refine lv_aload_n hx hb dX6_endOf_8 rfl (lv_at hl 0 rfl) ?_
  refine va_get (D := D) (ci := 6) (v := .int many) (C := RX6) (T := TX6) (N := 42) hx hb hts iX6 hown hK hP 0 rfl rfl 5 (Nat.le_of_ble_eq_true rfl) f175 (fun _ h9 => h9) rfl dX6_endOf_9 ?_
  obtain ⟨q1, eq1, h⟩ := e_b h
  refine xv_i0 (As := [.int x1, .int many]) (rest := [.int (block * x1)]) (ci := 6) (b := ad 0) ⟨hx, hb, hml, hown, hts⟩ hl.1 (kX6_placesOf l D cA ad thrown tape taped value weight many block ties lines pastValue pastWeight pastMany undos fresh newValue newWeight newMany newBlock newTies newLines hasBlock hasTies size att place sort number fault faultPlace lastFault lastPlace toValue toWeight toMany often firstOf lastOf unlikes unlikeMany isCandidate modes fewest x1 many  _ eq1) (cwV 2 hts gX6_endOf_X6_placesOf rfl rfl rfl (by decide +kernel) ⟨Nat.le_of_ble_eq_true rfl, Nat.le_of_ble_eq_true rfl⟩) rfl hK hP hD hS hA 0 rfl rfl rfl rfl (Nat.le_of_ble_eq_true rfl) dX6_endOf_12 ⟨Nat.zero_le _, Nat.zero_le _⟩ (fun H locs hP hD hS hnq1 => ?_)
  have hP : va_P D vwCl (wX6 cA ad thrown tape taped value weight many block ties lines pastValue pastWeight pastMany undos fresh newValue newWeight newMany newBlock newTies newLines hasBlock hasTies size att place sort number fault faultPlace lastFault lastPlace toValue toWeight toMany often firstOf lastOf unlikes unlikeMany isCandidate modes fewest) H := hP
  have hD : va_D A (wX6 cA ad thrown tape taped value weight many block ties lines pastValue pastWeight pastMany undos fresh newValue newWeight newMany newBlock newTies newLines hasBlock hasTies size att place sort number fault faultPlace lastFault lastPlace toValue toWeight toMany often firstOf lastOf unlikes unlikeMany isCandidate modes fewest) := hD
  refine lv_iadd hx hb dX6_endOf_15 ?_
  refine lv_iconst (v := 1) hx hb dX6_endOf_16 (by decide) ?_
  refine lv_isub hx hb dX6_endOf_17 ?_
  obtain rfl := e_s h
  exact hret hP hS rfl dX6_endOf_18
set_option maxHeartbeats 4000000 in
set_option maxRecDepth 100000 in
theorem kX6_pair (l : Launch) (D : va_G) (cA : Nat → ClassId) (ad : Nat → Nat) (thrown : Int32) (tape : Nat → Int32) (taped : Int32) (value : Nat → Int32) (weight : Nat → Int32) (many : Int32) (block : Int32) (ties : Int32) (lines : Int32) (pastValue : Nat → Int32) (pastWeight : Nat → Int32) (pastMany : Nat → Int32) (undos : Int32) (fresh : Int32) (newValue : Nat → Int32) (newWeight : Nat → Int32) (newMany : Int32) (newBlock : Int32) (newTies : Int32) (newLines : Int32) (hasBlock : Int32) (hasTies : Int32) (size : Int32) (att : Int32) (place : Int32) (sort : Int32) (number : Int32) (fault : Int32) (faultPlace : Int32) (lastFault : Int32) (lastPlace : Int32) (toValue : Nat → Int32) (toWeight : Nat → Int32) (toMany : Int32) (often : Nat → Int32) (firstOf : Nat → Int32) (lastOf : Nat → Int32) (unlikes : Nat → Int32) (unlikeMany : Int32) (isCandidate : Nat → Int32) (modes : Nat → Int32) (fewest : Nat → Int32) (x1 : Int32) (x2 : Int32) (x3 : Int32) (q : Int32 × Int32 × (Nat → Int32) × (Nat → Int32) × (Nat → Int32) × (Nat → Int32) × Int32) (h : mX6_pair thrown value many block ties often firstOf lastOf unlikes unlikeMany x1 x2 x3 = some q) : MI l yX6_pair wsX6_pair { frames := 3, cells := 0, slots := 0, locals := 68 } D cA .int [.ref (ad 0), .int x1, .int x2, .int x3] (wX6 cA ad thrown tape taped value weight many block ties lines pastValue pastWeight pastMany undos fresh newValue newWeight newMany newBlock newTies newLines hasBlock hasTies size att place sort number fault faultPlace lastFault lastPlace toValue toWeight toMany often firstOf lastOf unlikes unlikeMany isCandidate modes fewest) (wX6 cA ad q.2.1 tape taped value weight many block ties lines pastValue pastWeight pastMany undos fresh newValue newWeight newMany newBlock newTies newLines hasBlock hasTies size att place sort number fault faultPlace lastFault lastPlace toValue toWeight toMany q.2.2.1 q.2.2.2.1 q.2.2.2.2.1 q.2.2.2.2.2.1 q.2.2.2.2.2.2 isCandidate modes fewest) q.1 := by
  refine MI.of (cc := cX6_pair) (maxL := 4) (by decide +kernel) rfl rfl rfl (Nat.le_of_ble_eq_true rfl) ?_
  intro p e s m args below meth c A ls Q hx hb hml hts hown hK hP hD hA hS hl hret
  have hl : lv_has ls 4 [(0, .ref (ad 0)), (1, .int x1), (2, .int x2), (3, .int x3)] := hl
  have f69 := hts (.fieldLink RX6 69 "ModeDeskModel" "block" "I") (by decide +kernel)
  have f72 := hts (.fieldLink RX6 72 "ModeDeskModel" "thrown" "I") (by decide +kernel)
  have iX6 : ∀ w ∈ wsX60, w ∈ wsX6_pair := by decide +kernel
  unfold mX6_pair at h
  refine lv_aload_n hx hb dX6_pair_0 rfl (lv_at hl 0 rfl) ?_
  refine lv_iconst (v := 0) hx hb dX6_pair_1 (by decide) ?_
  refine va_put (D := D) (ci := 6) (v := .int 0) (ty := .int) (C := RX6) (T := TX6) (N := 42) hx hb hts iX6 tyX6 tyX6_ok nmX6 hown hK hP hD hS 0 rfl rfl 0 (Nat.le_of_ble_eq_true rfl) f72 (fun _ h9 => h9) rfl (tyX6_ok 0 (Nat.le_of_ble_eq_true rfl)) rfl rfl (Nat.le_of_ble_eq_true rfl) dX6_pair_2 (fun H locs hP hD hS => ?_)
  have hP : va_P D vwCl (wX6 cA ad 0 tape taped value weight many block ties lines pastValue pastWeight pastMany undos fresh newValue newWeight newMany newBlock newTies newLines hasBlock hasTies size att place sort number fault faultPlace lastFault lastPlace toValue toWeight toMany often firstOf lastOf unlikes unlikeMany isCandidate modes fewest) H := hP
  have hD : va_D A (wX6 cA ad 0 tape taped value weight many block ties lines pastValue pastWeight pastMany undos fresh newValue newWeight newMany newBlock newTies newLines hasBlock hasTies size att place sort number fault faultPlace lastFault lastPlace toValue toWeight toMany often firstOf lastOf unlikes unlikeMany isCandidate modes fewest) := hD
  refine lv_iload_n hx hb dX6_pair_5 rfl (lv_at hl 1 rfl) ?_
  refine lv_if_lt (tgt := 31) hx hb dX6_pair_6 (by decide) (fun c1 => ?_) (fun c1 => ?_)
  · have h := e_t c1 h
    refine lv_iconst (v := (-1)) hx hb dX6_pair_31 (by decide) ?_
    obtain rfl := e_s h
    exact hret hP hS rfl dX6_pair_32
  · have h := e_f c1 h
    refine lv_iload_n hx hb dX6_pair_9 rfl (lv_at hl 2 rfl) ?_
    refine lv_iload_n hx hb dX6_pair_10 rfl (lv_at hl 1 rfl) ?_
    refine lv_icmp_lt (tgt := 31) hx hb dX6_pair_11 (by decide) (fun c2 => ?_) (fun c2 => ?_)
    · have h := e_t c2 h
      refine lv_iconst (v := (-1)) hx hb dX6_pair_31 (by decide) ?_
      obtain rfl := e_s h
      exact hret hP hS rfl dX6_pair_32
    · have h := e_f c2 h
      refine lv_iload_n hx hb dX6_pair_14 rfl (lv_at hl 2 rfl) ?_
      refine lv_aload_n hx hb dX6_pair_15 rfl (lv_at hl 0 rfl) ?_
      obtain ⟨q3, eq3, h⟩ := e_b h
      refine xv_i0 (As := []) (rest := [.int x2]) (ci := 6) (b := ad 0) ⟨hx, hb, hml, hown, hts⟩ hl.1 (kX6_blocks l D cA ad 0 tape taped value weight many block ties lines pastValue pastWeight pastMany undos fresh newValue newWeight newMany newBlock newTies newLines hasBlock hasTies size att place sort number fault faultPlace lastFault lastPlace toValue toWeight toMany often firstOf lastOf unlikes unlikeMany isCandidate modes fewest   _ eq3) (cwV 0 hts gX6_pair_X6_blocks rfl rfl rfl (by decide +kernel) ⟨Nat.le_of_ble_eq_true rfl, Nat.le_of_ble_eq_true rfl⟩) rfl hK hP hD hS hA 0 rfl rfl rfl rfl (Nat.le_of_ble_eq_true rfl) dX6_pair_16 ⟨Nat.zero_le _, Nat.zero_le _⟩ (fun H locs hP hD hS hnq3 => ?_)
      have hP : va_P D vwCl (wX6 cA ad 0 tape taped value weight many block ties lines pastValue pastWeight pastMany undos fresh newValue newWeight newMany newBlock newTies newLines hasBlock hasTies size att place sort number fault faultPlace lastFault lastPlace toValue toWeight toMany often firstOf lastOf unlikes unlikeMany isCandidate modes fewest) H := hP
      have hD : va_D A (wX6 cA ad 0 tape taped value weight many block ties lines pastValue pastWeight pastMany undos fresh newValue newWeight newMany newBlock newTies newLines hasBlock hasTies size att place sort number fault faultPlace lastFault lastPlace toValue toWeight toMany often firstOf lastOf unlikes unlikeMany isCandidate modes fewest) := hD
      refine lv_icmp_ge (tgt := 31) hx hb dX6_pair_19 (by decide) (fun c4 => ?_) (fun c4 => ?_)
      · have h := e_t c4 h
        refine lv_iconst (v := (-1)) hx hb dX6_pair_31 (by decide) ?_
        obtain rfl := e_s h
        exact hret hP hS rfl dX6_pair_32
      · have h := e_f c4 h
        refine lv_iload_n hx hb dX6_pair_22 rfl (lv_at hl 3 rfl) ?_
        refine lv_if_lt (tgt := 31) hx hb dX6_pair_23 (by decide) (fun c5 => ?_) (fun c5 => ?_)
        · have h := e_t c5 h
          refine lv_iconst (v := (-1)) hx hb dX6_pair_31 (by decide) ?_
          obtain rfl := e_s h
          exact hret hP hS rfl dX6_pair_32
        · have h := e_f c5 h
          refine lv_iload_n hx hb dX6_pair_26 rfl (lv_at hl 3 rfl) ?_
          refine lv_iconst (v := 1) hx hb dX6_pair_27 (by decide) ?_
          refine lv_icmp_le (tgt := 33) hx hb dX6_pair_28 (by decide) (fun c6 => ?_) (fun c6 => ?_)
          · have h := e_t c6 h
            refine lv_aload_n hx hb dX6_pair_33 rfl (lv_at hl 0 rfl) ?_
            refine lv_aload_n hx hb dX6_pair_34 rfl (lv_at hl 0 rfl) ?_
            refine lv_aload_n hx hb dX6_pair_35 rfl (lv_at hl 0 rfl) ?_
            refine va_get (D := D) (ci := 6) (v := .int block) (C := RX6) (T := TX6) (N := 42) hx hb hts iX6 hown hK hP 0 rfl rfl 6 (Nat.le_of_ble_eq_true rfl) f69 (fun _ h9 => h9) rfl dX6_pair_36 ?_
            refine lv_iload_n hx hb dX6_pair_39 rfl (lv_at hl 1 rfl) ?_
            refine lv_imul hx hb dX6_pair_40 ?_
            refine lv_aload_n hx hb dX6_pair_41 rfl (lv_at hl 0 rfl) ?_
            refine lv_iload_n hx hb dX6_pair_42 rfl (lv_at hl 2 rfl) ?_
            obtain ⟨q7, eq7, h⟩ := e_b h
            refine xv_i0 (As := [.int x2]) (rest := [.int (block * x1), .ref (ad 0), .ref (ad 0)]) (ci := 6) (b := ad 0) ⟨hx, hb, hml, hown, hts⟩ hl.1 (kX6_endOf l D cA ad 0 tape taped value weight many block ties lines pastValue pastWeight pastMany undos fresh newValue newWeight newMany newBlock newTies newLines hasBlock hasTies size att place sort number fault faultPlace lastFault lastPlace toValue toWeight toMany often firstOf lastOf unlikes unlikeMany isCandidate modes fewest x2  _ eq7) (cwV 1 hts gX6_pair_X6_endOf rfl rfl rfl (by decide +kernel) ⟨Nat.le_of_ble_eq_true rfl, Nat.le_of_ble_eq_true rfl⟩) rfl hK hP hD hS hA 0 rfl rfl rfl rfl (Nat.le_of_ble_eq_true rfl) dX6_pair_43 ⟨Nat.zero_le _, Nat.zero_le _⟩ (fun H locs hP hD hS hnq7 => ?_)
            have hP : va_P D vwCl (wX6 cA ad 0 tape taped value weight many block ties lines pastValue pastWeight pastMany undos fresh newValue newWeight newMany newBlock newTies newLines hasBlock hasTies size att place sort number fault faultPlace lastFault lastPlace toValue toWeight toMany often firstOf lastOf unlikes unlikeMany isCandidate modes fewest) H := hP
            have hD : va_D A (wX6 cA ad 0 tape taped value weight many block ties lines pastValue pastWeight pastMany undos fresh newValue newWeight newMany newBlock newTies newLines hasBlock hasTies size att place sort number fault faultPlace lastFault lastPlace toValue toWeight toMany often firstOf lastOf unlikes unlikeMany isCandidate modes fewest) := hD
            obtain ⟨q8, eq8, h⟩ := e_b h
            refine xv_i0 (As := [.int (block * x1), .int q7]) (rest := [.ref (ad 0)]) (ci := 6) (b := ad 0) ⟨hx, hb, hml, hown, hts⟩ hl.1 (kX6_modeOf l D cA ad 0 tape taped value weight many block ties lines pastValue pastWeight pastMany undos fresh newValue newWeight newMany newBlock newTies newLines hasBlock hasTies size att place sort number fault faultPlace lastFault lastPlace toValue toWeight toMany often firstOf lastOf unlikes unlikeMany isCandidate modes fewest (block * x1) q7  _ eq8) (cwV 2 hts gX6_pair_X6_modeOf rfl rfl rfl (by decide +kernel) ⟨Nat.le_of_ble_eq_true rfl, Nat.le_of_ble_eq_true rfl⟩) rfl hK hP hD hS hA 0 rfl rfl rfl rfl (Nat.le_of_ble_eq_true rfl) dX6_pair_46 ⟨Nat.zero_le _, Nat.zero_le _⟩ (fun H locs hP hD hS hnq8 => ?_)
            have hP : va_P D vwCl (wX6 cA ad 0 tape taped value weight many block ties lines pastValue pastWeight pastMany undos fresh newValue newWeight newMany newBlock newTies newLines hasBlock hasTies size att place sort number fault faultPlace lastFault lastPlace toValue toWeight toMany q8.2.1 q8.2.2.1 q8.2.2.2.1 q8.2.2.2.2.1 q8.2.2.2.2.2 isCandidate modes fewest) H := hP
            have hD : va_D A (wX6 cA ad 0 tape taped value weight many block ties lines pastValue pastWeight pastMany undos fresh newValue newWeight newMany newBlock newTies newLines hasBlock hasTies size att place sort number fault faultPlace lastFault lastPlace toValue toWeight toMany q8.2.1 q8.2.2.1 q8.2.2.2.1 q8.2.2.2.2.1 q8.2.2.2.2.2 isCandidate modes fewest) := hD
            refine lv_iload_n hx hb dX6_pair_49 rfl (lv_at hl 3 rfl) ?_
            obtain ⟨q9, eq9, h⟩ := e_b h
            refine xv_i0 (As := [.int q8.1, .int x3]) (rest := []) (ci := 6) (b := ad 0) ⟨hx, hb, hml, hown, hts⟩ hl.1 (kX6_told l D cA ad 0 tape taped value weight many block ties lines pastValue pastWeight pastMany undos fresh newValue newWeight newMany newBlock newTies newLines hasBlock hasTies size att place sort number fault faultPlace lastFault lastPlace toValue toWeight toMany q8.2.1 q8.2.2.1 q8.2.2.2.1 q8.2.2.2.2.1 q8.2.2.2.2.2 isCandidate modes fewest q8.1 x3  _ eq9) (cwV 2 hts gX6_pair_X6_told rfl rfl rfl (by decide +kernel) ⟨Nat.le_of_ble_eq_true rfl, Nat.le_of_ble_eq_true rfl⟩) rfl hK hP hD hS hA 0 rfl rfl rfl rfl (Nat.le_of_ble_eq_true rfl) dX6_pair_50 ⟨Nat.zero_le _, Nat.zero_le _⟩ (fun H locs hP hD hS hnq9 => ?_)
            have hP : va_P D vwCl (wX6 cA ad 0 tape taped value weight many block ties lines pastValue pastWeight pastMany undos fresh newValue newWeight newMany newBlock newTies newLines hasBlock hasTies size att place sort number fault faultPlace lastFault lastPlace toValue toWeight toMany q8.2.1 q8.2.2.1 q8.2.2.2.1 q8.2.2.2.2.1 q8.2.2.2.2.2 isCandidate modes fewest) H := hP
            have hD : va_D A (wX6 cA ad 0 tape taped value weight many block ties lines pastValue pastWeight pastMany undos fresh newValue newWeight newMany newBlock newTies newLines hasBlock hasTies size att place sort number fault faultPlace lastFault lastPlace toValue toWeight toMany q8.2.1 q8.2.2.1 q8.2.2.2.1 q8.2.2.2.2.1 q8.2.2.2.2.2 isCandidate modes fewest) := hD
            obtain rfl := e_s h
            exact hret hP hS rfl dX6_pair_53
          · have h := e_f c6 h
            refine lv_iconst (v := (-1)) hx hb dX6_pair_31 (by decide) ?_
            obtain rfl := e_s h
            exact hret hP hS rfl dX6_pair_32
set_option maxHeartbeats 4000000 in
set_option maxRecDepth 100000 in
theorem kX6_candidate (l : Launch) (D : va_G) (cA : Nat → ClassId) (ad : Nat → Nat) (thrown : Int32) (tape : Nat → Int32) (taped : Int32) (value : Nat → Int32) (weight : Nat → Int32) (many : Int32) (block : Int32) (ties : Int32) (lines : Int32) (pastValue : Nat → Int32) (pastWeight : Nat → Int32) (pastMany : Nat → Int32) (undos : Int32) (fresh : Int32) (newValue : Nat → Int32) (newWeight : Nat → Int32) (newMany : Int32) (newBlock : Int32) (newTies : Int32) (newLines : Int32) (hasBlock : Int32) (hasTies : Int32) (size : Int32) (att : Int32) (place : Int32) (sort : Int32) (number : Int32) (fault : Int32) (faultPlace : Int32) (lastFault : Int32) (lastPlace : Int32) (toValue : Nat → Int32) (toWeight : Nat → Int32) (toMany : Int32) (often : Nat → Int32) (firstOf : Nat → Int32) (lastOf : Nat → Int32) (unlikes : Nat → Int32) (unlikeMany : Int32) (isCandidate : Nat → Int32) (modes : Nat → Int32) (fewest : Nat → Int32) (x1 : Int32) (x2 : Int32) (x3 : Int32) (q : Int32 × Int32 × (Nat → Int32) × (Nat → Int32) × (Nat → Int32) × (Nat → Int32) × Int32 × (Nat → Int32)) (h : mX6_candidate thrown value many block ties often firstOf lastOf unlikes unlikeMany isCandidate x1 x2 x3 = some q) : MI l yX6_candidate wsX6_candidate { frames := 3, cells := 0, slots := 0, locals := 70 } D cA .int [.ref (ad 0), .int x1, .int x2, .int x3] (wX6 cA ad thrown tape taped value weight many block ties lines pastValue pastWeight pastMany undos fresh newValue newWeight newMany newBlock newTies newLines hasBlock hasTies size att place sort number fault faultPlace lastFault lastPlace toValue toWeight toMany often firstOf lastOf unlikes unlikeMany isCandidate modes fewest) (wX6 cA ad q.2.1 tape taped value weight many block ties lines pastValue pastWeight pastMany undos fresh newValue newWeight newMany newBlock newTies newLines hasBlock hasTies size att place sort number fault faultPlace lastFault lastPlace toValue toWeight toMany q.2.2.1 q.2.2.2.1 q.2.2.2.2.1 q.2.2.2.2.2.1 q.2.2.2.2.2.2.1 q.2.2.2.2.2.2.2 modes fewest) q.1 := by
  refine MI.of (cc := cX6_candidate) (maxL := 10) (by decide +kernel) rfl rfl rfl (Nat.le_of_ble_eq_true rfl) ?_
  intro p e s m args below meth c A ls Q hx hb hml hts hown hK hP hD hA hS hl hret
  have hl : lv_has ls 10 [(0, .ref (ad 0)), (1, .int x1), (2, .int x2), (3, .int x3)] := hl
  have f13 := hts (.fieldLink RX6 13 "ModeDeskModel" "value" "[I") (by decide +kernel)
  have f178 := hts (.fieldLink RX6 178 "ModeDeskModel" "ties" "I") (by decide +kernel)
  have f242 := hts (.fieldLink RX6 242 "ModeDeskModel" "unlikeMany" "I") (by decide +kernel)
  have f59 := hts (.fieldLink RX6 59 "ModeDeskModel" "isCandidate" "[Z") (by decide +kernel)
  have f69 := hts (.fieldLink RX6 69 "ModeDeskModel" "block" "I") (by decide +kernel)
  have f72 := hts (.fieldLink RX6 72 "ModeDeskModel" "thrown" "I") (by decide +kernel)
  have iX6 : ∀ w ∈ wsX60, w ∈ wsX6_candidate := by decide +kernel
  unfold mX6_candidate at h
  refine lv_aload_n hx hb dX6_candidate_0 rfl (lv_at hl 0 rfl) ?_
  refine lv_iconst (v := 0) hx hb dX6_candidate_1 (by decide) ?_
  refine va_put (D := D) (ci := 6) (v := .int 0) (ty := .int) (C := RX6) (T := TX6) (N := 42) hx hb hts iX6 tyX6 tyX6_ok nmX6 hown hK hP hD hS 0 rfl rfl 0 (Nat.le_of_ble_eq_true rfl) f72 (fun _ h9 => h9) rfl (tyX6_ok 0 (Nat.le_of_ble_eq_true rfl)) rfl rfl (Nat.le_of_ble_eq_true rfl) dX6_candidate_2 (fun H locs hP hD hS => ?_)
  have hP : va_P D vwCl (wX6 cA ad 0 tape taped value weight many block ties lines pastValue pastWeight pastMany undos fresh newValue newWeight newMany newBlock newTies newLines hasBlock hasTies size att place sort number fault faultPlace lastFault lastPlace toValue toWeight toMany often firstOf lastOf unlikes unlikeMany isCandidate modes fewest) H := hP
  have hD : va_D A (wX6 cA ad 0 tape taped value weight many block ties lines pastValue pastWeight pastMany undos fresh newValue newWeight newMany newBlock newTies newLines hasBlock hasTies size att place sort number fault faultPlace lastFault lastPlace toValue toWeight toMany often firstOf lastOf unlikes unlikeMany isCandidate modes fewest) := hD
  refine lv_aload_n hx hb dX6_candidate_5 rfl (lv_at hl 0 rfl) ?_
  refine lv_iload_n hx hb dX6_candidate_6 rfl (lv_at hl 1 rfl) ?_
  refine lv_iload_n hx hb dX6_candidate_7 rfl (lv_at hl 2 rfl) ?_
  obtain ⟨q1, eq1, h⟩ := e_b h
  refine xv_i0 (As := [.int x1, .int x2]) (rest := []) (ci := 6) (b := ad 0) ⟨hx, hb, hml, hown, hts⟩ hl.1 (kX6_isSpan l D cA ad 0 tape taped value weight many block ties lines pastValue pastWeight pastMany undos fresh newValue newWeight newMany newBlock newTies newLines hasBlock hasTies size att place sort number fault faultPlace lastFault lastPlace toValue toWeight toMany often firstOf lastOf unlikes unlikeMany isCandidate modes fewest x1 x2  _ eq1) (cwV 2 hts gX6_candidate_X6_isSpan rfl rfl rfl (by decide +kernel) ⟨Nat.le_of_ble_eq_true rfl, Nat.le_of_ble_eq_true rfl⟩) rfl hK hP hD hS hA 0 rfl rfl rfl rfl (Nat.le_of_ble_eq_true rfl) dX6_candidate_8 ⟨Nat.zero_le _, Nat.zero_le _⟩ (fun H locs hP hD hS hnq1 => ?_)
  have hP : va_P D vwCl (wX6 cA ad 0 tape taped value weight many block ties lines pastValue pastWeight pastMany undos fresh newValue newWeight newMany newBlock newTies newLines hasBlock hasTies size att place sort number fault faultPlace lastFault lastPlace toValue toWeight toMany often firstOf lastOf unlikes unlikeMany isCandidate modes fewest) H := hP
  have hD : va_D A (wX6 cA ad 0 tape taped value weight many block ties lines pastValue pastWeight pastMany undos fresh newValue newWeight newMany newBlock newTies newLines hasBlock hasTies size att place sort number fault faultPlace lastFault lastPlace toValue toWeight toMany often firstOf lastOf unlikes unlikeMany isCandidate modes fewest) := hD
  refine lv_if_eq (tgt := 19) hx hb dX6_candidate_11 (by decide) (fun c2 => ?_) (fun c2 => ?_)
  · have h := e_t c2 h
    refine lv_iconst (v := (-1)) hx hb dX6_candidate_19 (by decide) ?_
    obtain rfl := e_s h
    exact hret hP hS rfl dX6_candidate_20
  · have h := e_f c2 h
    refine lv_iload_n hx hb dX6_candidate_14 rfl (lv_at hl 3 rfl) ?_
    refine lv_iconst (v := (-1)) hx hb dX6_candidate_15 (by decide) ?_
    refine lv_icmp_ge (tgt := 21) hx hb dX6_candidate_16 (by decide) (fun c3 => ?_) (fun c3 => ?_)
    · have h := e_t c3 h
      refine lv_iload_n hx hb dX6_candidate_21 rfl (lv_at hl 1 rfl) ?_
      refine lv_aload_n hx hb dX6_candidate_22 rfl (lv_at hl 0 rfl) ?_
      refine va_get (D := D) (ci := 6) (v := .int block) (C := RX6) (T := TX6) (N := 42) hx hb hts iX6 hown hK hP 0 rfl rfl 6 (Nat.le_of_ble_eq_true rfl) f69 (fun _ h9 => h9) rfl dX6_candidate_23 ?_
      refine lv_iadd hx hb dX6_candidate_26 ?_
      refine lv_iconst (v := 1) hx hb dX6_candidate_27 (by decide) ?_
      refine lv_isub hx hb dX6_candidate_28 ?_
      refine lv_aload_n hx hb dX6_candidate_29 rfl (lv_at hl 0 rfl) ?_
      refine va_get (D := D) (ci := 6) (v := .int block) (C := RX6) (T := TX6) (N := 42) hx hb hts iX6 hown hK hP 0 rfl rfl 6 (Nat.le_of_ble_eq_true rfl) f69 (fun _ h9 => h9) rfl dX6_candidate_30 ?_
      obtain ⟨v4, ev4, nv4, h⟩ := e_dv h
      refine xa_idiv hx hb dX6_candidate_33 nv4 ev4 ?_
      refine lv_istore (lv' := [(4, .int v4), (0, .ref (ad 0)), (1, .int x1), (2, .int x2), (3, .int x3)]) hx hb dX6_candidate_34 hl (by decide) rfl (fun ls hl => ?_)
      refine lv_iload hx hb dX6_candidate_36 (lv_at hl 0 rfl) ?_
      refine lv_iconst (v := 1) hx hb dX6_candidate_38 (by decide) ?_
      refine lv_isub hx hb dX6_candidate_39 ?_
      refine lv_istore (lv' := [(5, .int (v4 - 1)), (4, .int v4), (0, .ref (ad 0)), (1, .int x1), (2, .int x2), (3, .int x3)]) hx hb dX6_candidate_40 hl (by decide) rfl (fun ls hl => ?_)
      have hL42 : ∀ (n : Nat) (x1 : Int32) (x2 : Int32) (x3 : Int32) (x4 : Int32) (x5 : Int32) (thrown : Int32) (tape : Nat → Int32) (taped : Int32) (value : Nat → Int32) (weight : Nat → Int32) (many : Int32) (block : Int32) (ties : Int32) (lines : Int32) (pastValue : Nat → Int32) (pastWeight : Nat → Int32) (pastMany : Nat → Int32) (undos : Int32) (fresh : Int32) (newValue : Nat → Int32) (newWeight : Nat → Int32) (newMany : Int32) (newBlock : Int32) (newTies : Int32) (newLines : Int32) (hasBlock : Int32) (hasTies : Int32) (size : Int32) (att : Int32) (place : Int32) (sort : Int32) (number : Int32) (fault : Int32) (faultPlace : Int32) (lastFault : Int32) (lastPlace : Int32) (toValue : Nat → Int32) (toWeight : Nat → Int32) (toMany : Int32) (often : Nat → Int32) (firstOf : Nat → Int32) (lastOf : Nat → Int32) (unlikes : Nat → Int32) (unlikeMany : Int32) (isCandidate : Nat → Int32) (modes : Nat → Int32) (fewest : Nat → Int32) (z5 : Int32) (ls : Array Slot) (H : Heap) (locs : List Loc), lv_has ls 10 [(0, .ref (ad 0)), (1, .int x1), (2, .int x2), (3, .int x3), (4, .int x4), (5, .int x5)] → va_P D vwCl (wX6 cA ad thrown tape taped value weight many block ties lines pastValue pastWeight pastMany undos fresh newValue newWeight newMany newBlock newTies newLines hasBlock hasTies size att place sort number fault faultPlace lastFault lastPlace toValue toWeight toMany often firstOf lastOf unlikes unlikeMany isCandidate modes fewest) H → va_D A (wX6 cA ad thrown tape taped value weight many block ties lines pastValue pastWeight pastMany undos fresh newValue newWeight newMany newBlock newTies newLines hasBlock hasTies size att place sort number fault faultPlace lastFault lastPlace toValue toWeight toMany often firstOf lastOf unlikes unlikeMany isCandidate modes fewest) → va_S A s.heap H locs → mX6_candidate_L42 many block x2 n x5 = some z5 → (∀ (ls : Array Slot) (H : Heap) (locs : List Loc), lv_has ls 10 [(0, .ref (ad 0)), (1, .int x1), (2, .int x2), (3, .int x3), (4, .int x4), (5, .int z5)] → va_P D vwCl (wX6 cA ad thrown tape taped value weight many block ties lines pastValue pastWeight pastMany undos fresh newValue newWeight newMany newBlock newTies newLines hasBlock hasTies size att place sort number fault faultPlace lastFault lastPlace toValue toWeight toMany often firstOf lastOf unlikes unlikeMany isCandidate modes fewest) H → va_D A (wX6 cA ad thrown tape taped value weight many block ties lines pastValue pastWeight pastMany undos fresh newValue newWeight newMany newBlock newTies newLines hasBlock hasTies size att place sort number fault faultPlace lastFault lastPlace toValue toWeight toMany often firstOf lastOf unlikes unlikeMany isCandidate modes fewest) → va_S A s.heap H locs → W p l e (headSpec wsX6_candidate { frames := 3, cells := 0, slots := 0, locals := 70 }).room s m args below meth c H locs 0 0 Q (F0 m 71 ls [])) → W p l e (headSpec wsX6_candidate { frames := 3, cells := 0, slots := 0, locals := 70 }).room s m args below meth c H locs 0 0 Q (F0 m 42 ls []) := by
        intro n
        induction n with
        | zero => intro x1 x2 x3 x4 x5 thrown tape taped value weight many block ties lines pastValue pastWeight pastMany undos fresh newValue newWeight newMany newBlock newTies newLines hasBlock hasTies size att place sort number fault faultPlace lastFault lastPlace toValue toWeight toMany often firstOf lastOf unlikes unlikeMany isCandidate modes fewest z5 ls H locs hl hP hD hS h hk42; exact e_n h
        | succ n ih42 =>
          intro x1 x2 x3 x4 x5 thrown tape taped value weight many block ties lines pastValue pastWeight pastMany undos fresh newValue newWeight newMany newBlock newTies newLines hasBlock hasTies size att place sort number fault faultPlace lastFault lastPlace toValue toWeight toMany often firstOf lastOf unlikes unlikeMany isCandidate modes fewest z5 ls H locs hl hP hD hS h hk42
          rw [mX6_candidate_L42.eq_2] at h
          refine lv_iload hx hb dX6_candidate_42 (lv_at hl 5 rfl) ?_
          refine lv_iconst (v := 1) hx hb dX6_candidate_44 (by decide) ?_
          refine lv_iadd hx hb dX6_candidate_45 ?_
          refine lv_aload_n hx hb dX6_candidate_46 rfl (lv_at hl 0 rfl) ?_
          obtain ⟨q6, eq6, h⟩ := e_b h
          refine xv_i0 (As := []) (rest := [.int (x5 + 1)]) (ci := 6) (b := ad 0) ⟨hx, hb, hml, hown, hts⟩ hl.1 (kX6_blocks l D cA ad thrown tape taped value weight many block ties lines pastValue pastWeight pastMany undos fresh newValue newWeight newMany newBlock newTies newLines hasBlock hasTies size att place sort number fault faultPlace lastFault lastPlace toValue toWeight toMany often firstOf lastOf unlikes unlikeMany isCandidate modes fewest   _ eq6) (cwV 0 hts gX6_candidate_X6_blocks rfl rfl rfl (by decide +kernel) ⟨Nat.le_of_ble_eq_true rfl, Nat.le_of_ble_eq_true rfl⟩) rfl hK hP hD hS hA 0 rfl rfl rfl rfl (Nat.le_of_ble_eq_true rfl) dX6_candidate_47 ⟨Nat.zero_le _, Nat.zero_le _⟩ (fun H locs hP hD hS hnq6 => ?_)
          have hP : va_P D vwCl (wX6 cA ad thrown tape taped value weight many block ties lines pastValue pastWeight pastMany undos fresh newValue newWeight newMany newBlock newTies newLines hasBlock hasTies size att place sort number fault faultPlace lastFault lastPlace toValue toWeight toMany often firstOf lastOf unlikes unlikeMany isCandidate modes fewest) H := hP
          have hD : va_D A (wX6 cA ad thrown tape taped value weight many block ties lines pastValue pastWeight pastMany undos fresh newValue newWeight newMany newBlock newTies newLines hasBlock hasTies size att place sort number fault faultPlace lastFault lastPlace toValue toWeight toMany often firstOf lastOf unlikes unlikeMany isCandidate modes fewest) := hD
          refine lv_icmp_ge (tgt := 71) hx hb dX6_candidate_50 (by decide) (fun c7 => ?_) (fun c7 => ?_)
          · have h := e_t c7 h
            obtain rfl := e_s h
            exact hk42 _ _ _ (lv_sub hl [0, 1, 2, 3, 4, 5] rfl) hP hD hS
          · have h := e_f c7 h
            refine lv_aload_n hx hb dX6_candidate_53 rfl (lv_at hl 0 rfl) ?_
            refine lv_iload hx hb dX6_candidate_54 (lv_at hl 5 rfl) ?_
            refine lv_iconst (v := 1) hx hb dX6_candidate_56 (by decide) ?_
            refine lv_iadd hx hb dX6_candidate_57 ?_
            obtain ⟨q8, eq8, h⟩ := e_b h
            refine xv_i0 (As := [.int (x5 + 1)]) (rest := []) (ci := 6) (b := ad 0) ⟨hx, hb, hml, hown, hts⟩ hl.1 (kX6_endOf l D cA ad thrown tape taped value weight many block ties lines pastValue pastWeight pastMany undos fresh newValue newWeight newMany newBlock newTies newLines hasBlock hasTies size att place sort number fault faultPlace lastFault lastPlace toValue toWeight toMany often firstOf lastOf unlikes unlikeMany isCandidate modes fewest (x5 + 1)  _ eq8) (cwV 1 hts gX6_candidate_X6_endOf rfl rfl rfl (by decide +kernel) ⟨Nat.le_of_ble_eq_true rfl, Nat.le_of_ble_eq_true rfl⟩) rfl hK hP hD hS hA 0 rfl rfl rfl rfl (Nat.le_of_ble_eq_true rfl) dX6_candidate_58 ⟨Nat.zero_le _, Nat.zero_le _⟩ (fun H locs hP hD hS hnq8 => ?_)
            have hP : va_P D vwCl (wX6 cA ad thrown tape taped value weight many block ties lines pastValue pastWeight pastMany undos fresh newValue newWeight newMany newBlock newTies newLines hasBlock hasTies size att place sort number fault faultPlace lastFault lastPlace toValue toWeight toMany often firstOf lastOf unlikes unlikeMany isCandidate modes fewest) H := hP
            have hD : va_D A (wX6 cA ad thrown tape taped value weight many block ties lines pastValue pastWeight pastMany undos fresh newValue newWeight newMany newBlock newTies newLines hasBlock hasTies size att place sort number fault faultPlace lastFault lastPlace toValue toWeight toMany often firstOf lastOf unlikes unlikeMany isCandidate modes fewest) := hD
            refine lv_iload_n hx hb dX6_candidate_61 rfl (lv_at hl 2 rfl) ?_
            refine lv_icmp_gt (tgt := 71) hx hb dX6_candidate_62 (by decide) (fun c9 => ?_) (fun c9 => ?_)
            · have h := e_t c9 h
              obtain rfl := e_s h
              exact hk42 _ _ _ (lv_sub hl [0, 1, 2, 3, 4, 5] rfl) hP hD hS
            · have h := e_f c9 h
              refine lv_iinc (v := (x5 + 1)) (lv' := [(5, .int (x5 + 1)), (0, .ref (ad 0)), (1, .int x1), (2, .int x2), (3, .int x3), (4, .int x4)]) hx hb dX6_candidate_65 hl (k := 5) rfl rfl (by decide) rfl (fun ls hl => ?_)
              refine lv_goto (tgt := 42) hx hb dX6_candidate_68 (by decide) ?_
              exact ih42 x1 x2 x3 x4 (x5 + 1) thrown tape taped value weight many block ties lines pastValue pastWeight pastMany undos fresh newValue newWeight newMany newBlock newTies newLines hasBlock hasTies size att place sort number fault faultPlace lastFault lastPlace toValue toWeight toMany often firstOf lastOf unlikes unlikeMany isCandidate modes fewest z5 _ _ _ (lv_sub hl [1, 2, 3, 4, 5, 0] rfl) hP hD hS h hk42
      obtain ⟨z10, ez10, h⟩ := e_b h
      refine hL42 FU x1 x2 x3 v4 (v4 - 1) 0 tape taped value weight many block ties lines pastValue pastWeight pastMany undos fresh newValue newWeight newMany newBlock newTies newLines hasBlock hasTies size att place sort number fault faultPlace lastFault lastPlace toValue toWeight toMany often firstOf lastOf unlikes unlikeMany isCandidate modes fewest z10 _ _ _ (lv_sub hl [2, 3, 4, 5, 1, 0] rfl) hP hD hS ez10 (fun ls H locs hl hP hD hS => ?_)
      refine lv_iconst (v := 0) hx hb dX6_candidate_71 (by decide) ?_
      refine lv_istore (lv' := [(6, .int 0), (0, .ref (ad 0)), (1, .int x1), (2, .int x2), (3, .int x3), (4, .int v4), (5, .int z10)]) hx hb dX6_candidate_72 hl (by decide) rfl (fun ls hl => ?_)
      have hL74 : ∀ (n : Nat) (x1 : Int32) (x2 : Int32) (x3 : Int32) (x4 : Int32) (x5 : Int32) (x6 : Int32) (thrown : Int32) (tape : Nat → Int32) (taped : Int32) (value : Nat → Int32) (weight : Nat → Int32) (many : Int32) (block : Int32) (ties : Int32) (lines : Int32) (pastValue : Nat → Int32) (pastWeight : Nat → Int32) (pastMany : Nat → Int32) (undos : Int32) (fresh : Int32) (newValue : Nat → Int32) (newWeight : Nat → Int32) (newMany : Int32) (newBlock : Int32) (newTies : Int32) (newLines : Int32) (hasBlock : Int32) (hasTies : Int32) (size : Int32) (att : Int32) (place : Int32) (sort : Int32) (number : Int32) (fault : Int32) (faultPlace : Int32) (lastFault : Int32) (lastPlace : Int32) (toValue : Nat → Int32) (toWeight : Nat → Int32) (toMany : Int32) (often : Nat → Int32) (firstOf : Nat → Int32) (lastOf : Nat → Int32) (unlikes : Nat → Int32) (unlikeMany : Int32) (isCandidate : Nat → Int32) (modes : Nat → Int32) (fewest : Nat → Int32) (z11 : (Nat → Int32)) (ls : Array Slot) (H : Heap) (locs : List Loc), lv_has ls 10 [(0, .ref (ad 0)), (1, .int x1), (2, .int x2), (3, .int x3), (4, .int x4), (5, .int x5), (6, .int x6)] → va_P D vwCl (wX6 cA ad thrown tape taped value weight many block ties lines pastValue pastWeight pastMany undos fresh newValue newWeight newMany newBlock newTies newLines hasBlock hasTies size att place sort number fault faultPlace lastFault lastPlace toValue toWeight toMany often firstOf lastOf unlikes unlikeMany isCandidate modes fewest) H → va_D A (wX6 cA ad thrown tape taped value weight many block ties lines pastValue pastWeight pastMany undos fresh newValue newWeight newMany newBlock newTies newLines hasBlock hasTies size att place sort number fault faultPlace lastFault lastPlace toValue toWeight toMany often firstOf lastOf unlikes unlikeMany isCandidate modes fewest) → va_S A s.heap H locs → mX6_candidate_L74  n x6 isCandidate = some z11 → (∀ (ls : Array Slot) (H : Heap) (locs : List Loc), lv_has ls 10 [(0, .ref (ad 0)), (1, .int x1), (2, .int x2), (3, .int x3), (4, .int x4), (5, .int x5)] → va_P D vwCl (wX6 cA ad thrown tape taped value weight many block ties lines pastValue pastWeight pastMany undos fresh newValue newWeight newMany newBlock newTies newLines hasBlock hasTies size att place sort number fault faultPlace lastFault lastPlace toValue toWeight toMany often firstOf lastOf unlikes unlikeMany z11 modes fewest) H → va_D A (wX6 cA ad thrown tape taped value weight many block ties lines pastValue pastWeight pastMany undos fresh newValue newWeight newMany newBlock newTies newLines hasBlock hasTies size att place sort number fault faultPlace lastFault lastPlace toValue toWeight toMany often firstOf lastOf unlikes unlikeMany z11 modes fewest) → va_S A s.heap H locs → W p l e (headSpec wsX6_candidate { frames := 3, cells := 0, slots := 0, locals := 70 }).room s m args below meth c H locs 0 0 Q (F0 m 96 ls [])) → W p l e (headSpec wsX6_candidate { frames := 3, cells := 0, slots := 0, locals := 70 }).room s m args below meth c H locs 0 0 Q (F0 m 74 ls []) := by
        intro n
        induction n with
        | zero => intro x1 x2 x3 x4 x5 x6 thrown tape taped value weight many block ties lines pastValue pastWeight pastMany undos fresh newValue newWeight newMany newBlock newTies newLines hasBlock hasTies size att place sort number fault faultPlace lastFault lastPlace toValue toWeight toMany often firstOf lastOf unlikes unlikeMany isCandidate modes fewest z11 ls H locs hl hP hD hS h hk74; exact e_n h
        | succ n ih74 =>
          intro x1 x2 x3 x4 x5 x6 thrown tape taped value weight many block ties lines pastValue pastWeight pastMany undos fresh newValue newWeight newMany newBlock newTies newLines hasBlock hasTies size att place sort number fault faultPlace lastFault lastPlace toValue toWeight toMany often firstOf lastOf unlikes unlikeMany isCandidate modes fewest z11 ls H locs hl hP hD hS h hk74
          rw [mX6_candidate_L74.eq_2] at h
          refine lv_iload hx hb dX6_candidate_74 (lv_at hl 6 rfl) ?_
          refine lv_sipush (v := 1000) hx hb dX6_candidate_76 (by decide) ?_
          refine lv_icmp_ge (tgt := 96) hx hb dX6_candidate_79 (by decide) (fun c12 => ?_) (fun c12 => ?_)
          · have h := e_t c12 h
            obtain rfl := e_s h
            exact hk74 _ _ _ (lv_sub hl [0, 1, 2, 3, 4, 5] rfl) hP hD hS
          · have h := e_f c12 h
            refine lv_aload_n hx hb dX6_candidate_82 rfl (lv_at hl 0 rfl) ?_
            refine va_get (D := D) (ci := 6) (v := .ref (ad 15)) (C := RX6) (T := TX6) (N := 42) hx hb hts iX6 hown hK hP 0 rfl rfl 39 (Nat.le_of_ble_eq_true rfl) f59 (fun _ h9 => h9) rfl dX6_candidate_83 ?_
            refine lv_iload hx hb dX6_candidate_86 (lv_at hl 6 rfl) ?_
            refine lv_iconst (v := 0) hx hb dX6_candidate_88 (by decide) ?_
            obtain ⟨a13, ea13, na13, h⟩ := e_wr h
            refine xa_zast hx hb hK hP hD hS 15 rfl na13 ea13 dX6_candidate_89 (fun H locs hP hD hS => ?_)
            have hP : va_P D vwCl (wX6 cA ad thrown tape taped value weight many block ties lines pastValue pastWeight pastMany undos fresh newValue newWeight newMany newBlock newTies newLines hasBlock hasTies size att place sort number fault faultPlace lastFault lastPlace toValue toWeight toMany often firstOf lastOf unlikes unlikeMany a13 modes fewest) H := hP
            have hD : va_D A (wX6 cA ad thrown tape taped value weight many block ties lines pastValue pastWeight pastMany undos fresh newValue newWeight newMany newBlock newTies newLines hasBlock hasTies size att place sort number fault faultPlace lastFault lastPlace toValue toWeight toMany often firstOf lastOf unlikes unlikeMany a13 modes fewest) := hD
            refine lv_iinc (v := (x6 + 1)) (lv' := [(6, .int (x6 + 1)), (0, .ref (ad 0)), (1, .int x1), (2, .int x2), (3, .int x3), (4, .int x4), (5, .int x5)]) hx hb dX6_candidate_90 hl (k := 6) rfl rfl (by decide) rfl (fun ls hl => ?_)
            refine lv_goto (tgt := 74) hx hb dX6_candidate_93 (by decide) ?_
            exact ih74 x1 x2 x3 x4 x5 (x6 + 1) thrown tape taped value weight many block ties lines pastValue pastWeight pastMany undos fresh newValue newWeight newMany newBlock newTies newLines hasBlock hasTies size att place sort number fault faultPlace lastFault lastPlace toValue toWeight toMany often firstOf lastOf unlikes unlikeMany a13 modes fewest z11 _ _ _ (lv_sub hl [1, 2, 3, 4, 5, 6, 0] rfl) hP hD hS h hk74
      obtain ⟨z14, ez14, h⟩ := e_b h
      refine hL74 FU x1 x2 x3 v4 z10 0 0 tape taped value weight many block ties lines pastValue pastWeight pastMany undos fresh newValue newWeight newMany newBlock newTies newLines hasBlock hasTies size att place sort number fault faultPlace lastFault lastPlace toValue toWeight toMany often firstOf lastOf unlikes unlikeMany isCandidate modes fewest z14 _ _ _ (lv_sub hl [1, 2, 3, 4, 5, 6, 0] rfl) hP hD hS ez14 (fun ls H locs hl hP hD hS => ?_)
      refine lv_iload hx hb dX6_candidate_96 (lv_at hl 5 rfl) ?_
      refine lv_iload hx hb dX6_candidate_98 (lv_at hl 4 rfl) ?_
      obtain ⟨z15, ez15, h⟩ := e_b h
      have hJ16 : ∀ (ls : Array Slot) (H : Heap) (locs : List Loc), lv_has ls 10 [(0, .ref (ad 0)), (1, .int x1), (2, .int x2), (3, .int x3), (4, .int v4), (5, .int z10)] → va_P D vwCl (wX6 cA ad 0 tape taped value weight many block ties lines pastValue pastWeight pastMany undos fresh newValue newWeight newMany newBlock newTies newLines hasBlock hasTies size att place sort number fault faultPlace lastFault lastPlace toValue toWeight toMany often firstOf lastOf unlikes unlikeMany z14 modes fewest) H → va_D A (wX6 cA ad 0 tape taped value weight many block ties lines pastValue pastWeight pastMany undos fresh newValue newWeight newMany newBlock newTies newLines hasBlock hasTies size att place sort number fault faultPlace lastFault lastPlace toValue toWeight toMany often firstOf lastOf unlikes unlikeMany z14 modes fewest) → va_S A s.heap H locs → W p l e (headSpec wsX6_candidate { frames := 3, cells := 0, slots := 0, locals := 70 }).room s m args below meth c H locs 0 0 Q (F0 m 108 ls [.int z15]) := by
        intro ls H locs hl hP hD hS
        refine lv_istore (lv' := [(6, .int z15), (0, .ref (ad 0)), (1, .int x1), (2, .int x2), (3, .int x3), (4, .int v4), (5, .int z10)]) hx hb dX6_candidate_108 hl (by decide) rfl (fun ls hl => ?_)
        refine lv_iload hx hb dX6_candidate_110 (lv_at hl 0 rfl) ?_
        obtain ⟨z17, ez17, h⟩ := e_b h
        have hJ18 : ∀ (ls : Array Slot) (H : Heap) (locs : List Loc), lv_has ls 10 [(0, .ref (ad 0)), (1, .int x1), (2, .int x2), (3, .int x3), (4, .int v4), (5, .int z10), (6, .int z15)] → va_P D vwCl (wX6 cA ad 0 tape taped value weight many block ties lines pastValue pastWeight pastMany undos fresh newValue newWeight newMany newBlock newTies newLines hasBlock hasTies size att place sort number fault faultPlace lastFault lastPlace toValue toWeight toMany z17.1 z17.2.1 z17.2.2.1 z17.2.2.2.1 z17.2.2.2.2.1 z17.2.2.2.2.2 modes fewest) H → va_D A (wX6 cA ad 0 tape taped value weight many block ties lines pastValue pastWeight pastMany undos fresh newValue newWeight newMany newBlock newTies newLines hasBlock hasTies size att place sort number fault faultPlace lastFault lastPlace toValue toWeight toMany z17.1 z17.2.1 z17.2.2.1 z17.2.2.2.1 z17.2.2.2.2.1 z17.2.2.2.2.2 modes fewest) → va_S A s.heap H locs → W p l e (headSpec wsX6_candidate { frames := 3, cells := 0, slots := 0, locals := 70 }).room s m args below meth c H locs 0 0 Q (F0 m 138 ls []) := by
          intro ls H locs hl hP hD hS
          refine lv_iload_n hx hb dX6_candidate_138 rfl (lv_at hl 1 rfl) ?_
          refine lv_istore (lv' := [(7, .int x1), (0, .ref (ad 0)), (1, .int x1), (2, .int x2), (3, .int x3), (4, .int v4), (5, .int z10), (6, .int z15)]) hx hb dX6_candidate_139 hl (by decide) rfl (fun ls hl => ?_)
          have hL141 : ∀ (n : Nat) (x1 : Int32) (x2 : Int32) (x3 : Int32) (x4 : Int32) (x5 : Int32) (x6 : Int32) (x7 : Int32) (thrown : Int32) (tape : Nat → Int32) (taped : Int32) (value : Nat → Int32) (weight : Nat → Int32) (many : Int32) (block : Int32) (ties : Int32) (lines : Int32) (pastValue : Nat → Int32) (pastWeight : Nat → Int32) (pastMany : Nat → Int32) (undos : Int32) (fresh : Int32) (newValue : Nat → Int32) (newWeight : Nat → Int32) (newMany : Int32) (newBlock : Int32) (newTies : Int32) (newLines : Int32) (hasBlock : Int32) (hasTies : Int32) (size : Int32) (att : Int32) (place : Int32) (sort : Int32) (number : Int32) (fault : Int32) (faultPlace : Int32) (lastFault : Int32) (lastPlace : Int32) (toValue : Nat → Int32) (toWeight : Nat → Int32) (toMany : Int32) (often : Nat → Int32) (firstOf : Nat → Int32) (lastOf : Nat → Int32) (unlikes : Nat → Int32) (unlikeMany : Int32) (isCandidate : Nat → Int32) (modes : Nat → Int32) (fewest : Nat → Int32) (z19 : (Nat → Int32)) (ls : Array Slot) (H : Heap) (locs : List Loc), lv_has ls 10 [(0, .ref (ad 0)), (1, .int x1), (2, .int x2), (3, .int x3), (4, .int x4), (5, .int x5), (6, .int x6), (7, .int x7)] → va_P D vwCl (wX6 cA ad thrown tape taped value weight many block ties lines pastValue pastWeight pastMany undos fresh newValue newWeight newMany newBlock newTies newLines hasBlock hasTies size att place sort number fault faultPlace lastFault lastPlace toValue toWeight toMany often firstOf lastOf unlikes unlikeMany isCandidate modes fewest) H → va_D A (wX6 cA ad thrown tape taped value weight many block ties lines pastValue pastWeight pastMany undos fresh newValue newWeight newMany newBlock newTies newLines hasBlock hasTies size att place sort number fault faultPlace lastFault lastPlace toValue toWeight toMany often firstOf lastOf unlikes unlikeMany isCandidate modes fewest) → va_S A s.heap H locs → mX6_candidate_L141 value many block x2 x4 x5 x6 n x7 isCandidate = some z19 → (∀ (ls : Array Slot) (H : Heap) (locs : List Loc), lv_has ls 10 [(0, .ref (ad 0)), (1, .int x1), (2, .int x2), (3, .int x3)] → va_P D vwCl (wX6 cA ad thrown tape taped value weight many block ties lines pastValue pastWeight pastMany undos fresh newValue newWeight newMany newBlock newTies newLines hasBlock hasTies size att place sort number fault faultPlace lastFault lastPlace toValue toWeight toMany often firstOf lastOf unlikes unlikeMany z19 modes fewest) H → va_D A (wX6 cA ad thrown tape taped value weight many block ties lines pastValue pastWeight pastMany undos fresh newValue newWeight newMany newBlock newTies newLines hasBlock hasTies size att place sort number fault faultPlace lastFault lastPlace toValue toWeight toMany often firstOf lastOf unlikes unlikeMany z19 modes fewest) → va_S A s.heap H locs → W p l e (headSpec wsX6_candidate { frames := 3, cells := 0, slots := 0, locals := 70 }).room s m args below meth c H locs 0 0 Q (F0 m 194 ls [])) → W p l e (headSpec wsX6_candidate { frames := 3, cells := 0, slots := 0, locals := 70 }).room s m args below meth c H locs 0 0 Q (F0 m 141 ls []) := by
            intro n
            induction n with
            | zero => intro x1 x2 x3 x4 x5 x6 x7 thrown tape taped value weight many block ties lines pastValue pastWeight pastMany undos fresh newValue newWeight newMany newBlock newTies newLines hasBlock hasTies size att place sort number fault faultPlace lastFault lastPlace toValue toWeight toMany often firstOf lastOf unlikes unlikeMany isCandidate modes fewest z19 ls H locs hl hP hD hS h hk141; exact e_n h
            | succ n ih141 =>
              intro x1 x2 x3 x4 x5 x6 x7 thrown tape taped value weight many block ties lines pastValue pastWeight pastMany undos fresh newValue newWeight newMany newBlock newTies newLines hasBlock hasTies size att place sort number fault faultPlace lastFault lastPlace toValue toWeight toMany often firstOf lastOf unlikes unlikeMany isCandidate modes fewest z19 ls H locs hl hP hD hS h hk141
              rw [mX6_candidate_L141.eq_2] at h
              refine lv_iload hx hb dX6_candidate_141 (lv_at hl 7 rfl) ?_
              refine lv_iload_n hx hb dX6_candidate_143 rfl (lv_at hl 2 rfl) ?_
              refine lv_icmp_gt (tgt := 194) hx hb dX6_candidate_144 (by decide) (fun c20 => ?_) (fun c20 => ?_)
              · have h := e_t c20 h
                obtain rfl := e_s h
                exact hk141 _ _ _ (lv_sub hl [0, 1, 2, 3] rfl) hP hD hS
              · have h := e_f c20 h
                refine lv_iload hx hb dX6_candidate_147 (lv_at hl 6 rfl) ?_
                refine lv_if_eq (tgt := 175) hx hb dX6_candidate_149 (by decide) (fun c21 => ?_) (fun c21 => ?_)
                · have h := e_t c21 h
                  refine lv_aload_n hx hb dX6_candidate_175 rfl (lv_at hl 0 rfl) ?_
                  refine va_get (D := D) (ci := 6) (v := .ref (ad 15)) (C := RX6) (T := TX6) (N := 42) hx hb hts iX6 hown hK hP 0 rfl rfl 39 (Nat.le_of_ble_eq_true rfl) f59 (fun _ h9 => h9) rfl dX6_candidate_176 ?_
                  refine lv_aload_n hx hb dX6_candidate_179 rfl (lv_at hl 0 rfl) ?_
                  refine va_get (D := D) (ci := 6) (v := .ref (ad 2)) (C := RX6) (T := TX6) (N := 42) hx hb hts iX6 hown hK hP 0 rfl rfl 3 (Nat.le_of_ble_eq_true rfl) f13 (fun _ h9 => h9) rfl dX6_candidate_180 ?_
                  refine lv_iload hx hb dX6_candidate_183 (lv_at hl 7 rfl) ?_
                  obtain ⟨v22, ev22, nv22, h⟩ := e_rd h
                  refine xa_iald hx hb hK hP 2 rfl nv22 ev22 dX6_candidate_185 ?_
                  refine lv_iconst (v := 1) hx hb dX6_candidate_186 (by decide) ?_
                  obtain ⟨a23, ea23, na23, h⟩ := e_wr h
                  refine xa_zast hx hb hK hP hD hS 15 rfl na23 ea23 dX6_candidate_187 (fun H locs hP hD hS => ?_)
                  have hP : va_P D vwCl (wX6 cA ad thrown tape taped value weight many block ties lines pastValue pastWeight pastMany undos fresh newValue newWeight newMany newBlock newTies newLines hasBlock hasTies size att place sort number fault faultPlace lastFault lastPlace toValue toWeight toMany often firstOf lastOf unlikes unlikeMany a23 modes fewest) H := hP
                  have hD : va_D A (wX6 cA ad thrown tape taped value weight many block ties lines pastValue pastWeight pastMany undos fresh newValue newWeight newMany newBlock newTies newLines hasBlock hasTies size att place sort number fault faultPlace lastFault lastPlace toValue toWeight toMany often firstOf lastOf unlikes unlikeMany a23 modes fewest) := hD
                  refine lv_iinc (v := (x7 + 1)) (lv' := [(7, .int (x7 + 1)), (0, .ref (ad 0)), (1, .int x1), (2, .int x2), (3, .int x3), (4, .int x4), (5, .int x5), (6, .int x6)]) hx hb dX6_candidate_188 hl (k := 7) rfl rfl (by decide) rfl (fun ls hl => ?_)
                  refine lv_goto (tgt := 141) hx hb dX6_candidate_191 (by decide) ?_
                  exact ih141 x1 x2 x3 x4 x5 x6 (x7 + 1) thrown tape taped value weight many block ties lines pastValue pastWeight pastMany undos fresh newValue newWeight newMany newBlock newTies newLines hasBlock hasTies size att place sort number fault faultPlace lastFault lastPlace toValue toWeight toMany often firstOf lastOf unlikes unlikeMany a23 modes fewest z19 _ _ _ (lv_sub hl [1, 2, 3, 4, 5, 6, 7, 0] rfl) hP hD hS h hk141
                · have h := e_f c21 h
                  refine lv_iload hx hb dX6_candidate_152 (lv_at hl 7 rfl) ?_
                  refine lv_aload_n hx hb dX6_candidate_154 rfl (lv_at hl 0 rfl) ?_
                  refine va_get (D := D) (ci := 6) (v := .int block) (C := RX6) (T := TX6) (N := 42) hx hb hts iX6 hown hK hP 0 rfl rfl 6 (Nat.le_of_ble_eq_true rfl) f69 (fun _ h9 => h9) rfl dX6_candidate_155 ?_
                  refine lv_iload hx hb dX6_candidate_158 (lv_at hl 4 rfl) ?_
                  refine lv_imul hx hb dX6_candidate_160 ?_
                  refine lv_icmp_lt (tgt := 175) hx hb dX6_candidate_161 (by decide) (fun c24 => ?_) (fun c24 => ?_)
                  · have h := e_t c24 h
                    refine lv_aload_n hx hb dX6_candidate_175 rfl (lv_at hl 0 rfl) ?_
                    refine va_get (D := D) (ci := 6) (v := .ref (ad 15)) (C := RX6) (T := TX6) (N := 42) hx hb hts iX6 hown hK hP 0 rfl rfl 39 (Nat.le_of_ble_eq_true rfl) f59 (fun _ h9 => h9) rfl dX6_candidate_176 ?_
                    refine lv_aload_n hx hb dX6_candidate_179 rfl (lv_at hl 0 rfl) ?_
                    refine va_get (D := D) (ci := 6) (v := .ref (ad 2)) (C := RX6) (T := TX6) (N := 42) hx hb hts iX6 hown hK hP 0 rfl rfl 3 (Nat.le_of_ble_eq_true rfl) f13 (fun _ h9 => h9) rfl dX6_candidate_180 ?_
                    refine lv_iload hx hb dX6_candidate_183 (lv_at hl 7 rfl) ?_
                    obtain ⟨v25, ev25, nv25, h⟩ := e_rd h
                    refine xa_iald hx hb hK hP 2 rfl nv25 ev25 dX6_candidate_185 ?_
                    refine lv_iconst (v := 1) hx hb dX6_candidate_186 (by decide) ?_
                    obtain ⟨a26, ea26, na26, h⟩ := e_wr h
                    refine xa_zast hx hb hK hP hD hS 15 rfl na26 ea26 dX6_candidate_187 (fun H locs hP hD hS => ?_)
                    have hP : va_P D vwCl (wX6 cA ad thrown tape taped value weight many block ties lines pastValue pastWeight pastMany undos fresh newValue newWeight newMany newBlock newTies newLines hasBlock hasTies size att place sort number fault faultPlace lastFault lastPlace toValue toWeight toMany often firstOf lastOf unlikes unlikeMany a26 modes fewest) H := hP
                    have hD : va_D A (wX6 cA ad thrown tape taped value weight many block ties lines pastValue pastWeight pastMany undos fresh newValue newWeight newMany newBlock newTies newLines hasBlock hasTies size att place sort number fault faultPlace lastFault lastPlace toValue toWeight toMany often firstOf lastOf unlikes unlikeMany a26 modes fewest) := hD
                    refine lv_iinc (v := (x7 + 1)) (lv' := [(7, .int (x7 + 1)), (0, .ref (ad 0)), (1, .int x1), (2, .int x2), (3, .int x3), (4, .int x4), (5, .int x5), (6, .int x6)]) hx hb dX6_candidate_188 hl (k := 7) rfl rfl (by decide) rfl (fun ls hl => ?_)
                    refine lv_goto (tgt := 141) hx hb dX6_candidate_191 (by decide) ?_
                    exact ih141 x1 x2 x3 x4 x5 x6 (x7 + 1) thrown tape taped value weight many block ties lines pastValue pastWeight pastMany undos fresh newValue newWeight newMany newBlock newTies newLines hasBlock hasTies size att place sort number fault faultPlace lastFault lastPlace toValue toWeight toMany often firstOf lastOf unlikes unlikeMany a26 modes fewest z19 _ _ _ (lv_sub hl [1, 2, 3, 4, 5, 6, 7, 0] rfl) hP hD hS h hk141
                  · have h := e_f c24 h
                    refine lv_iload hx hb dX6_candidate_164 (lv_at hl 7 rfl) ?_
                    refine lv_aload_n hx hb dX6_candidate_166 rfl (lv_at hl 0 rfl) ?_
                    refine lv_iload hx hb dX6_candidate_167 (lv_at hl 5 rfl) ?_
                    obtain ⟨q27, eq27, h⟩ := e_b h
                    refine xv_i0 (As := [.int x5]) (rest := [.int x7]) (ci := 6) (b := ad 0) ⟨hx, hb, hml, hown, hts⟩ hl.1 (kX6_endOf l D cA ad thrown tape taped value weight many block ties lines pastValue pastWeight pastMany undos fresh newValue newWeight newMany newBlock newTies newLines hasBlock hasTies size att place sort number fault faultPlace lastFault lastPlace toValue toWeight toMany often firstOf lastOf unlikes unlikeMany isCandidate modes fewest x5  _ eq27) (cwV 1 hts gX6_candidate_X6_endOf rfl rfl rfl (by decide +kernel) ⟨Nat.le_of_ble_eq_true rfl, Nat.le_of_ble_eq_true rfl⟩) rfl hK hP hD hS hA 0 rfl rfl rfl rfl (Nat.le_of_ble_eq_true rfl) dX6_candidate_169 ⟨Nat.zero_le _, Nat.zero_le _⟩ (fun H locs hP hD hS hnq27 => ?_)
                    have hP : va_P D vwCl (wX6 cA ad thrown tape taped value weight many block ties lines pastValue pastWeight pastMany undos fresh newValue newWeight newMany newBlock newTies newLines hasBlock hasTies size att place sort number fault faultPlace lastFault lastPlace toValue toWeight toMany often firstOf lastOf unlikes unlikeMany isCandidate modes fewest) H := hP
                    have hD : va_D A (wX6 cA ad thrown tape taped value weight many block ties lines pastValue pastWeight pastMany undos fresh newValue newWeight newMany newBlock newTies newLines hasBlock hasTies size att place sort number fault faultPlace lastFault lastPlace toValue toWeight toMany often firstOf lastOf unlikes unlikeMany isCandidate modes fewest) := hD
                    refine lv_icmp_le (tgt := 188) hx hb dX6_candidate_172 (by decide) (fun c28 => ?_) (fun c28 => ?_)
                    · have h := e_t c28 h
                      refine lv_iinc (v := (x7 + 1)) (lv' := [(7, .int (x7 + 1)), (0, .ref (ad 0)), (1, .int x1), (2, .int x2), (3, .int x3), (4, .int x4), (5, .int x5), (6, .int x6)]) hx hb dX6_candidate_188 hl (k := 7) rfl rfl (by decide) rfl (fun ls hl => ?_)
                      refine lv_goto (tgt := 141) hx hb dX6_candidate_191 (by decide) ?_
                      exact ih141 x1 x2 x3 x4 x5 x6 (x7 + 1) thrown tape taped value weight many block ties lines pastValue pastWeight pastMany undos fresh newValue newWeight newMany newBlock newTies newLines hasBlock hasTies size att place sort number fault faultPlace lastFault lastPlace toValue toWeight toMany often firstOf lastOf unlikes unlikeMany isCandidate modes fewest z19 _ _ _ (lv_sub hl [1, 2, 3, 4, 5, 6, 7, 0] rfl) hP hD hS h hk141
                    · have h := e_f c28 h
                      refine lv_aload_n hx hb dX6_candidate_175 rfl (lv_at hl 0 rfl) ?_
                      refine va_get (D := D) (ci := 6) (v := .ref (ad 15)) (C := RX6) (T := TX6) (N := 42) hx hb hts iX6 hown hK hP 0 rfl rfl 39 (Nat.le_of_ble_eq_true rfl) f59 (fun _ h9 => h9) rfl dX6_candidate_176 ?_
                      refine lv_aload_n hx hb dX6_candidate_179 rfl (lv_at hl 0 rfl) ?_
                      refine va_get (D := D) (ci := 6) (v := .ref (ad 2)) (C := RX6) (T := TX6) (N := 42) hx hb hts iX6 hown hK hP 0 rfl rfl 3 (Nat.le_of_ble_eq_true rfl) f13 (fun _ h9 => h9) rfl dX6_candidate_180 ?_
                      refine lv_iload hx hb dX6_candidate_183 (lv_at hl 7 rfl) ?_
                      obtain ⟨v29, ev29, nv29, h⟩ := e_rd h
                      refine xa_iald hx hb hK hP 2 rfl nv29 ev29 dX6_candidate_185 ?_
                      refine lv_iconst (v := 1) hx hb dX6_candidate_186 (by decide) ?_
                      obtain ⟨a30, ea30, na30, h⟩ := e_wr h
                      refine xa_zast hx hb hK hP hD hS 15 rfl na30 ea30 dX6_candidate_187 (fun H locs hP hD hS => ?_)
                      have hP : va_P D vwCl (wX6 cA ad thrown tape taped value weight many block ties lines pastValue pastWeight pastMany undos fresh newValue newWeight newMany newBlock newTies newLines hasBlock hasTies size att place sort number fault faultPlace lastFault lastPlace toValue toWeight toMany often firstOf lastOf unlikes unlikeMany a30 modes fewest) H := hP
                      have hD : va_D A (wX6 cA ad thrown tape taped value weight many block ties lines pastValue pastWeight pastMany undos fresh newValue newWeight newMany newBlock newTies newLines hasBlock hasTies size att place sort number fault faultPlace lastFault lastPlace toValue toWeight toMany often firstOf lastOf unlikes unlikeMany a30 modes fewest) := hD
                      refine lv_iinc (v := (x7 + 1)) (lv' := [(7, .int (x7 + 1)), (0, .ref (ad 0)), (1, .int x1), (2, .int x2), (3, .int x3), (4, .int x4), (5, .int x5), (6, .int x6)]) hx hb dX6_candidate_188 hl (k := 7) rfl rfl (by decide) rfl (fun ls hl => ?_)
                      refine lv_goto (tgt := 141) hx hb dX6_candidate_191 (by decide) ?_
                      exact ih141 x1 x2 x3 x4 x5 x6 (x7 + 1) thrown tape taped value weight many block ties lines pastValue pastWeight pastMany undos fresh newValue newWeight newMany newBlock newTies newLines hasBlock hasTies size att place sort number fault faultPlace lastFault lastPlace toValue toWeight toMany often firstOf lastOf unlikes unlikeMany a30 modes fewest z19 _ _ _ (lv_sub hl [1, 2, 3, 4, 5, 6, 7, 0] rfl) hP hD hS h hk141
          obtain ⟨z31, ez31, h⟩ := e_b h
          refine hL141 FU x1 x2 x3 v4 z10 z15 x1 0 tape taped value weight many block ties lines pastValue pastWeight pastMany undos fresh newValue newWeight newMany newBlock newTies newLines hasBlock hasTies size att place sort number fault faultPlace lastFault lastPlace toValue toWeight toMany z17.1 z17.2.1 z17.2.2.1 z17.2.2.2.1 z17.2.2.2.2.1 z17.2.2.2.2.2 modes fewest z31 _ _ _ (lv_sub hl [1, 2, 3, 4, 5, 6, 7, 0] rfl) hP hD hS ez31 (fun ls H locs hl hP hD hS => ?_)
          refine lv_aload_n hx hb dX6_candidate_194 rfl (lv_at hl 0 rfl) ?_
          refine lv_iload_n hx hb dX6_candidate_195 rfl (lv_at hl 1 rfl) ?_
          refine lv_iload_n hx hb dX6_candidate_196 rfl (lv_at hl 2 rfl) ?_
          refine lv_iconst (v := (-1)) hx hb dX6_candidate_197 (by decide) ?_
          obtain ⟨q32, eq32, h⟩ := e_b h
          refine xv_v0 (As := [.int x1, .int x2, .int (-1)]) (rest := []) (ci := 6) (b := ad 0) ⟨hx, hb, hml, hown, hts⟩ hl.1 (kX6_counts l D cA ad 0 tape taped value weight many block ties lines pastValue pastWeight pastMany undos fresh newValue newWeight newMany newBlock newTies newLines hasBlock hasTies size att place sort number fault faultPlace lastFault lastPlace toValue toWeight toMany z17.1 z17.2.1 z17.2.2.1 z17.2.2.2.1 z17.2.2.2.2.1 z31 modes fewest x1 x2 (-1)  _ eq32) (cwV 3 hts gX6_candidate_X6_counts rfl rfl rfl (by decide +kernel) ⟨Nat.le_of_ble_eq_true rfl, Nat.le_of_ble_eq_true rfl⟩) rfl hK hP hD hS hA 0 rfl rfl rfl rfl (Nat.le_of_ble_eq_true rfl) dX6_candidate_198 ⟨Nat.zero_le _, Nat.zero_le _⟩ (fun H locs hP hD hS => ?_)
          have hP : va_P D vwCl (wX6 cA ad 0 tape taped value weight many block ties lines pastValue pastWeight pastMany undos fresh newValue newWeight newMany newBlock newTies newLines hasBlock hasTies size att place sort number fault faultPlace lastFault lastPlace toValue toWeight toMany q32.1 q32.2.1 q32.2.2.1 q32.2.2.2.1 q32.2.2.2.2 z31 modes fewest) H := hP
          have hD : va_D A (wX6 cA ad 0 tape taped value weight many block ties lines pastValue pastWeight pastMany undos fresh newValue newWeight newMany newBlock newTies newLines hasBlock hasTies size att place sort number fault faultPlace lastFault lastPlace toValue toWeight toMany q32.1 q32.2.1 q32.2.2.1 q32.2.2.2.1 q32.2.2.2.2 z31 modes fewest) := hD
          refine lv_iconst (v := 0) hx hb dX6_candidate_201 (by decide) ?_
          refine lv_istore (lv' := [(7, .int 0), (0, .ref (ad 0)), (1, .int x1), (2, .int x2), (3, .int x3)]) hx hb dX6_candidate_202 hl (by decide) rfl (fun ls hl => ?_)
          refine lv_iconst (v := 0) hx hb dX6_candidate_204 (by decide) ?_
          refine lv_istore (lv' := [(8, .int 0), (7, .int 0), (0, .ref (ad 0)), (1, .int x1), (2, .int x2), (3, .int x3)]) hx hb dX6_candidate_205 hl (by decide) rfl (fun ls hl => ?_)
          have hL207 : ∀ (n : Nat) (x3 : Int32) (x7 : Int32) (x8 : Int32) (ls : Array Slot) (H : Heap) (locs : List Loc), lv_has ls 10 [(0, .ref (ad 0)), (3, .int x3), (7, .int x7), (8, .int x8)] → va_P D vwCl (wX6 cA ad 0 tape taped value weight many block ties lines pastValue pastWeight pastMany undos fresh newValue newWeight newMany newBlock newTies newLines hasBlock hasTies size att place sort number fault faultPlace lastFault lastPlace toValue toWeight toMany q32.1 q32.2.1 q32.2.2.1 q32.2.2.2.1 q32.2.2.2.2 z31 modes fewest) H → va_D A (wX6 cA ad 0 tape taped value weight many block ties lines pastValue pastWeight pastMany undos fresh newValue newWeight newMany newBlock newTies newLines hasBlock hasTies size att place sort number fault faultPlace lastFault lastPlace toValue toWeight toMany q32.1 q32.2.1 q32.2.2.1 q32.2.2.2.1 q32.2.2.2.2 z31 modes fewest) → va_S A s.heap H locs → mX6_candidate_L207 0 ties q32.1 q32.2.1 q32.2.2.1 q32.2.2.2.1 q32.2.2.2.2 z31 x3 n x7 x8 = some q → W p l e (headSpec wsX6_candidate { frames := 3, cells := 0, slots := 0, locals := 70 }).room s m args below meth c H locs 0 0 Q (F0 m 207 ls []) := by
            intro n
            induction n with
            | zero => intro x3 x7 x8 ls H locs hl hP hD hS h; exact e_n h
            | succ n ih207 =>
              intro x3 x7 x8 ls H locs hl hP hD hS h
              rw [mX6_candidate_L207.eq_2] at h
              refine lv_iload hx hb dX6_candidate_207 (lv_at hl 3 rfl) ?_
              refine lv_aload_n hx hb dX6_candidate_209 rfl (lv_at hl 0 rfl) ?_
              refine va_get (D := D) (ci := 6) (v := .int q32.2.2.2.2) (C := RX6) (T := TX6) (N := 42) hx hb hts iX6 hown hK hP 0 rfl rfl 38 (Nat.le_of_ble_eq_true rfl) f242 (fun _ h9 => h9) rfl dX6_candidate_210 ?_
              refine lv_icmp_ge (tgt := 259) hx hb dX6_candidate_213 (by decide) (fun c34 => ?_) (fun c34 => ?_)
              · have h := e_t c34 h
                refine lv_iload_n hx hb dX6_candidate_259 rfl (lv_at hl 1 rfl) ?_
                refine lv_iconst (v := (-1)) hx hb dX6_candidate_260 (by decide) ?_
                refine lv_icmp_ne (tgt := 269) hx hb dX6_candidate_261 (by decide) (fun c35 => ?_) (fun c35 => ?_)
                · have h := e_t c35 h
                  refine lv_bipush (v := (-2)) hx hb dX6_candidate_269 (by decide) ?_
                  obtain rfl := e_s h
                  exact hret hP hS rfl dX6_candidate_271
                · have h := e_f (not_not_intro c35) h
                  refine lv_iload hx hb dX6_candidate_264 (lv_at hl 2 rfl) ?_
                  refine lv_goto (tgt := 271) hx hb dX6_candidate_266 (by decide) ?_
                  obtain rfl := e_s h
                  exact hret hP hS rfl dX6_candidate_271
              · have h := e_f c34 h
                refine lv_aload_n hx hb dX6_candidate_216 rfl (lv_at hl 0 rfl) ?_
                refine lv_iload hx hb dX6_candidate_217 (lv_at hl 3 rfl) ?_
                refine lv_aload_n hx hb dX6_candidate_219 rfl (lv_at hl 0 rfl) ?_
                refine va_get (D := D) (ci := 6) (v := .int ties) (C := RX6) (T := TX6) (N := 42) hx hb hts iX6 hown hK hP 0 rfl rfl 7 (Nat.le_of_ble_eq_true rfl) f178 (fun _ h9 => h9) rfl dX6_candidate_220 ?_
                obtain ⟨q36, eq36, h⟩ := e_b h
                refine xv_i0 (As := [.int x8, .int ties]) (rest := []) (ci := 6) (b := ad 0) ⟨hx, hb, hml, hown, hts⟩ hl.1 (kX6_ofRank l D cA ad 0 tape taped value weight many block ties lines pastValue pastWeight pastMany undos fresh newValue newWeight newMany newBlock newTies newLines hasBlock hasTies size att place sort number fault faultPlace lastFault lastPlace toValue toWeight toMany q32.1 q32.2.1 q32.2.2.1 q32.2.2.2.1 q32.2.2.2.2 z31 modes fewest x8 ties  _ eq36) (cwV 2 hts gX6_candidate_X6_ofRank rfl rfl rfl (by decide +kernel) ⟨Nat.le_of_ble_eq_true rfl, Nat.le_of_ble_eq_true rfl⟩) rfl hK hP hD hS hA 0 rfl rfl rfl rfl (Nat.le_of_ble_eq_true rfl) dX6_candidate_223 ⟨Nat.zero_le _, Nat.zero_le _⟩ (fun H locs hP hD hS hnq36 => ?_)
                have hP : va_P D vwCl (wX6 cA ad 0 tape taped value weight many block ties lines pastValue pastWeight pastMany undos fresh newValue newWeight newMany newBlock newTies newLines hasBlock hasTies size att place sort number fault faultPlace lastFault lastPlace toValue toWeight toMany q32.1 q32.2.1 q32.2.2.1 q32.2.2.2.1 q32.2.2.2.2 z31 modes fewest) H := hP
                have hD : va_D A (wX6 cA ad 0 tape taped value weight many block ties lines pastValue pastWeight pastMany undos fresh newValue newWeight newMany newBlock newTies newLines hasBlock hasTies size att place sort number fault faultPlace lastFault lastPlace toValue toWeight toMany q32.1 q32.2.1 q32.2.2.1 q32.2.2.2.1 q32.2.2.2.2 z31 modes fewest) := hD
                refine lv_istore (lv' := [(9, .int q36), (0, .ref (ad 0)), (3, .int x3), (7, .int x7), (8, .int x8)]) hx hb dX6_candidate_226 hl (by decide) rfl (fun ls hl => ?_)
                refine lv_aload_n hx hb dX6_candidate_228 rfl (lv_at hl 1 rfl) ?_
                refine va_get (D := D) (ci := 6) (v := .ref (ad 15)) (C := RX6) (T := TX6) (N := 42) hx hb hts iX6 hown hK hP 0 rfl rfl 39 (Nat.le_of_ble_eq_true rfl) f59 (fun _ h9 => h9) rfl dX6_candidate_229 ?_
                refine lv_iload hx hb dX6_candidate_232 (lv_at hl 0 rfl) ?_
                obtain ⟨v37, ev37, nv37, h⟩ := e_rd h
                refine xa_zald hx hb hK hP 15 rfl nv37 ev37 dX6_candidate_234 ?_
                refine lv_if_ne (tgt := 241) hx hb dX6_candidate_235 (by decide) (fun c38 => ?_) (fun c38 => ?_)
                · have h := e_t c38 h
                  refine lv_iload hx hb dX6_candidate_241 (lv_at hl 3 rfl) ?_
                  refine lv_iload_n hx hb dX6_candidate_243 rfl (lv_at hl 2 rfl) ?_
                  refine lv_icmp_ne (tgt := 250) hx hb dX6_candidate_244 (by decide) (fun c39 => ?_) (fun c39 => ?_)
                  · have h := e_t c39 h
                    refine lv_iinc (v := (x7 + 1)) (lv' := [(7, .int (x7 + 1)), (9, .int q36), (0, .ref (ad 0)), (3, .int x3), (8, .int x8)]) hx hb dX6_candidate_250 hl (k := 3) rfl rfl (by decide) rfl (fun ls hl => ?_)
                    refine lv_iinc (v := (x8 + 1)) (lv' := [(8, .int (x8 + 1)), (7, .int (x7 + 1)), (9, .int q36), (0, .ref (ad 0)), (3, .int x3)]) hx hb dX6_candidate_253 hl (k := 4) rfl rfl (by decide) rfl (fun ls hl => ?_)
                    refine lv_goto (tgt := 207) hx hb dX6_candidate_256 (by decide) ?_
                    exact ih207 x3 (x7 + 1) (x8 + 1) _ _ _ (lv_sub hl [3, 4, 1, 0] rfl) hP hD hS h
                  · have h := e_f (not_not_intro c39) h
                    refine lv_iload hx hb dX6_candidate_247 (lv_at hl 0 rfl) ?_
                    obtain rfl := e_s h
                    exact hret hP hS rfl dX6_candidate_249
                · have h := e_f (not_not_intro c38) h
                  refine lv_goto (tgt := 253) hx hb dX6_candidate_238 (by decide) ?_
                  refine lv_iinc (v := (x8 + 1)) (lv' := [(8, .int (x8 + 1)), (9, .int q36), (0, .ref (ad 0)), (3, .int x3), (7, .int x7)]) hx hb dX6_candidate_253 hl (k := 4) rfl rfl (by decide) rfl (fun ls hl => ?_)
                  refine lv_goto (tgt := 207) hx hb dX6_candidate_256 (by decide) ?_
                  exact ih207 x3 x7 (x8 + 1) _ _ _ (lv_sub hl [2, 3, 4, 0] rfl) hP hD hS h
          exact hL207 FU x3 0 0 _ _ _ (lv_sub hl [2, 5, 1, 0] rfl) hP hD hS h
        have h := ez17
        refine lv_if_eq (tgt := 138) hx hb dX6_candidate_112 (by decide) (fun c40 => ?_) (fun c40 => ?_)
        · have h := e_t c40 h
          obtain rfl := e_s h
          exact hJ18 _ _ _ (lv_sub hl [1, 2, 3, 4, 5, 6, 0] rfl) hP hD hS
        · have h := e_f c40 h
          refine lv_aload_n hx hb dX6_candidate_115 rfl (lv_at hl 1 rfl) ?_
          refine va_get (D := D) (ci := 6) (v := .ref (ad 15)) (C := RX6) (T := TX6) (N := 42) hx hb hts iX6 hown hK hP 0 rfl rfl 39 (Nat.le_of_ble_eq_true rfl) f59 (fun _ h9 => h9) rfl dX6_candidate_116 ?_
          refine lv_aload_n hx hb dX6_candidate_119 rfl (lv_at hl 1 rfl) ?_
          refine lv_aload_n hx hb dX6_candidate_120 rfl (lv_at hl 1 rfl) ?_
          refine va_get (D := D) (ci := 6) (v := .int block) (C := RX6) (T := TX6) (N := 42) hx hb hts iX6 hown hK hP 0 rfl rfl 6 (Nat.le_of_ble_eq_true rfl) f69 (fun _ h9 => h9) rfl dX6_candidate_121 ?_
          refine lv_iload hx hb dX6_candidate_124 (lv_at hl 5 rfl) ?_
          refine lv_imul hx hb dX6_candidate_126 ?_
          refine lv_aload_n hx hb dX6_candidate_127 rfl (lv_at hl 1 rfl) ?_
          refine lv_iload hx hb dX6_candidate_128 (lv_at hl 6 rfl) ?_
          obtain ⟨q41, eq41, h⟩ := e_b h
          refine xv_i0 (As := [.int z10]) (rest := [.int (block * v4), .ref (ad 0), .ref (ad 15)]) (ci := 6) (b := ad 0) ⟨hx, hb, hml, hown, hts⟩ hl.1 (kX6_endOf l D cA ad 0 tape taped value weight many block ties lines pastValue pastWeight pastMany undos fresh newValue newWeight newMany newBlock newTies newLines hasBlock hasTies size att place sort number fault faultPlace lastFault lastPlace toValue toWeight toMany often firstOf lastOf unlikes unlikeMany z14 modes fewest z10  _ eq41) (cwV 1 hts gX6_candidate_X6_endOf rfl rfl rfl (by decide +kernel) ⟨Nat.le_of_ble_eq_true rfl, Nat.le_of_ble_eq_true rfl⟩) rfl hK hP hD hS hA 0 rfl rfl rfl rfl (Nat.le_of_ble_eq_true rfl) dX6_candidate_130 ⟨Nat.zero_le _, Nat.zero_le _⟩ (fun H locs hP hD hS hnq41 => ?_)
          have hP : va_P D vwCl (wX6 cA ad 0 tape taped value weight many block ties lines pastValue pastWeight pastMany undos fresh newValue newWeight newMany newBlock newTies newLines hasBlock hasTies size att place sort number fault faultPlace lastFault lastPlace toValue toWeight toMany often firstOf lastOf unlikes unlikeMany z14 modes fewest) H := hP
          have hD : va_D A (wX6 cA ad 0 tape taped value weight many block ties lines pastValue pastWeight pastMany undos fresh newValue newWeight newMany newBlock newTies newLines hasBlock hasTies size att place sort number fault faultPlace lastFault lastPlace toValue toWeight toMany often firstOf lastOf unlikes unlikeMany z14 modes fewest) := hD
          obtain ⟨q42, eq42, h⟩ := e_b h
          refine xv_i0 (As := [.int (block * v4), .int q41]) (rest := [.ref (ad 15)]) (ci := 6) (b := ad 0) ⟨hx, hb, hml, hown, hts⟩ hl.1 (kX6_modeOf l D cA ad 0 tape taped value weight many block ties lines pastValue pastWeight pastMany undos fresh newValue newWeight newMany newBlock newTies newLines hasBlock hasTies size att place sort number fault faultPlace lastFault lastPlace toValue toWeight toMany often firstOf lastOf unlikes unlikeMany z14 modes fewest (block * v4) q41  _ eq42) (cwV 2 hts gX6_candidate_X6_modeOf rfl rfl rfl (by decide +kernel) ⟨Nat.le_of_ble_eq_true rfl, Nat.le_of_ble_eq_true rfl⟩) rfl hK hP hD hS hA 0 rfl rfl rfl rfl (Nat.le_of_ble_eq_true rfl) dX6_candidate_133 ⟨Nat.zero_le _, Nat.zero_le _⟩ (fun H locs hP hD hS hnq42 => ?_)
          have hP : va_P D vwCl (wX6 cA ad 0 tape taped value weight many block ties lines pastValue pastWeight pastMany undos fresh newValue newWeight newMany newBlock newTies newLines hasBlock hasTies size att place sort number fault faultPlace lastFault lastPlace toValue toWeight toMany q42.2.1 q42.2.2.1 q42.2.2.2.1 q42.2.2.2.2.1 q42.2.2.2.2.2 z14 modes fewest) H := hP
          have hD : va_D A (wX6 cA ad 0 tape taped value weight many block ties lines pastValue pastWeight pastMany undos fresh newValue newWeight newMany newBlock newTies newLines hasBlock hasTies size att place sort number fault faultPlace lastFault lastPlace toValue toWeight toMany q42.2.1 q42.2.2.1 q42.2.2.2.1 q42.2.2.2.2.1 q42.2.2.2.2.2 z14 modes fewest) := hD
          refine lv_iconst (v := 1) hx hb dX6_candidate_136 (by decide) ?_
          obtain ⟨a43, ea43, na43, h⟩ := e_wr h
          refine xa_zast hx hb hK hP hD hS 15 rfl na43 ea43 dX6_candidate_137 (fun H locs hP hD hS => ?_)
          have hP : va_P D vwCl (wX6 cA ad 0 tape taped value weight many block ties lines pastValue pastWeight pastMany undos fresh newValue newWeight newMany newBlock newTies newLines hasBlock hasTies size att place sort number fault faultPlace lastFault lastPlace toValue toWeight toMany q42.2.1 q42.2.2.1 q42.2.2.2.1 q42.2.2.2.2.1 q42.2.2.2.2.2 a43 modes fewest) H := hP
          have hD : va_D A (wX6 cA ad 0 tape taped value weight many block ties lines pastValue pastWeight pastMany undos fresh newValue newWeight newMany newBlock newTies newLines hasBlock hasTies size att place sort number fault faultPlace lastFault lastPlace toValue toWeight toMany q42.2.1 q42.2.2.1 q42.2.2.2.1 q42.2.2.2.2.1 q42.2.2.2.2.2 a43 modes fewest) := hD
          obtain rfl := e_s h
          exact hJ18 _ _ _ (lv_sub hl [1, 2, 3, 4, 5, 6, 0] rfl) hP hD hS
      have h := ez15
      refine lv_icmp_lt (tgt := 107) hx hb dX6_candidate_100 (by decide) (fun c44 => ?_) (fun c44 => ?_)
      · have h := e_t c44 h
        refine lv_iconst (v := 0) hx hb dX6_candidate_107 (by decide) ?_
        obtain rfl := e_s h
        exact hJ16 _ _ _ (lv_sub hl [0, 1, 2, 3, 4, 5] rfl) hP hD hS
      · have h := e_f c44 h
        refine lv_iconst (v := 1) hx hb dX6_candidate_103 (by decide) ?_
        refine lv_goto (tgt := 108) hx hb dX6_candidate_104 (by decide) ?_
        obtain rfl := e_s h
        exact hJ16 _ _ _ (lv_sub hl [0, 1, 2, 3, 4, 5] rfl) hP hD hS
    · have h := e_f c3 h
      refine lv_iconst (v := (-1)) hx hb dX6_candidate_19 (by decide) ?_
      obtain rfl := e_s h
      exact hret hP hS rfl dX6_candidate_20
set_option maxHeartbeats 4000000 in
set_option maxRecDepth 100000 in
theorem kX6_median (l : Launch) (D : va_G) (cA : Nat → ClassId) (ad : Nat → Nat) (thrown : Int32) (tape : Nat → Int32) (taped : Int32) (value : Nat → Int32) (weight : Nat → Int32) (many : Int32) (block : Int32) (ties : Int32) (lines : Int32) (pastValue : Nat → Int32) (pastWeight : Nat → Int32) (pastMany : Nat → Int32) (undos : Int32) (fresh : Int32) (newValue : Nat → Int32) (newWeight : Nat → Int32) (newMany : Int32) (newBlock : Int32) (newTies : Int32) (newLines : Int32) (hasBlock : Int32) (hasTies : Int32) (size : Int32) (att : Int32) (place : Int32) (sort : Int32) (number : Int32) (fault : Int32) (faultPlace : Int32) (lastFault : Int32) (lastPlace : Int32) (toValue : Nat → Int32) (toWeight : Nat → Int32) (toMany : Int32) (often : Nat → Int32) (firstOf : Nat → Int32) (lastOf : Nat → Int32) (unlikes : Nat → Int32) (unlikeMany : Int32) (isCandidate : Nat → Int32) (modes : Nat → Int32) (fewest : Nat → Int32) (x1 : Int32) (x2 : Int32) (q : Int32 × Int32 × (Nat → Int32) × (Nat → Int32) × (Nat → Int32) × (Nat → Int32) × Int32) (h : mX6_median thrown value many often firstOf lastOf unlikes unlikeMany x1 x2 = some q) : MI l yX6_median wsX6_median { frames := 1, cells := 0, slots := 0, locals := 25 } D cA .int [.ref (ad 0), .int x1, .int x2] (wX6 cA ad thrown tape taped value weight many block ties lines pastValue pastWeight pastMany undos fresh newValue newWeight newMany newBlock newTies newLines hasBlock hasTies size att place sort number fault faultPlace lastFault lastPlace toValue toWeight toMany often firstOf lastOf unlikes unlikeMany isCandidate modes fewest) (wX6 cA ad q.2.1 tape taped value weight many block ties lines pastValue pastWeight pastMany undos fresh newValue newWeight newMany newBlock newTies newLines hasBlock hasTies size att place sort number fault faultPlace lastFault lastPlace toValue toWeight toMany q.2.2.1 q.2.2.2.1 q.2.2.2.2.1 q.2.2.2.2.2.1 q.2.2.2.2.2.2 isCandidate modes fewest) q.1 := by
  refine MI.of (cc := cX6_median) (maxL := 5) (by decide +kernel) rfl rfl rfl (Nat.le_of_ble_eq_true rfl) ?_
  intro p e s m args below meth c A ls Q hx hb hml hts hown hK hP hD hA hS hl hret
  have hl : lv_has ls 5 [(0, .ref (ad 0)), (1, .int x1), (2, .int x2)] := hl
  have f47 := hts (.fieldLink RX6 47 "ModeDeskModel" "often" "[I") (by decide +kernel)
  have f72 := hts (.fieldLink RX6 72 "ModeDeskModel" "thrown" "I") (by decide +kernel)
  have iX6 : ∀ w ∈ wsX60, w ∈ wsX6_median := by decide +kernel
  unfold mX6_median at h
  refine lv_aload_n hx hb dX6_median_0 rfl (lv_at hl 0 rfl) ?_
  refine lv_iconst (v := 0) hx hb dX6_median_1 (by decide) ?_
  refine va_put (D := D) (ci := 6) (v := .int 0) (ty := .int) (C := RX6) (T := TX6) (N := 42) hx hb hts iX6 tyX6 tyX6_ok nmX6 hown hK hP hD hS 0 rfl rfl 0 (Nat.le_of_ble_eq_true rfl) f72 (fun _ h9 => h9) rfl (tyX6_ok 0 (Nat.le_of_ble_eq_true rfl)) rfl rfl (Nat.le_of_ble_eq_true rfl) dX6_median_2 (fun H locs hP hD hS => ?_)
  have hP : va_P D vwCl (wX6 cA ad 0 tape taped value weight many block ties lines pastValue pastWeight pastMany undos fresh newValue newWeight newMany newBlock newTies newLines hasBlock hasTies size att place sort number fault faultPlace lastFault lastPlace toValue toWeight toMany often firstOf lastOf unlikes unlikeMany isCandidate modes fewest) H := hP
  have hD : va_D A (wX6 cA ad 0 tape taped value weight many block ties lines pastValue pastWeight pastMany undos fresh newValue newWeight newMany newBlock newTies newLines hasBlock hasTies size att place sort number fault faultPlace lastFault lastPlace toValue toWeight toMany often firstOf lastOf unlikes unlikeMany isCandidate modes fewest) := hD
  refine lv_aload_n hx hb dX6_median_5 rfl (lv_at hl 0 rfl) ?_
  refine lv_iload_n hx hb dX6_median_6 rfl (lv_at hl 1 rfl) ?_
  refine lv_iload_n hx hb dX6_median_7 rfl (lv_at hl 2 rfl) ?_
  obtain ⟨q1, eq1, h⟩ := e_b h
  refine xv_i0 (As := [.int x1, .int x2]) (rest := []) (ci := 6) (b := ad 0) ⟨hx, hb, hml, hown, hts⟩ hl.1 (kX6_isSpan l D cA ad 0 tape taped value weight many block ties lines pastValue pastWeight pastMany undos fresh newValue newWeight newMany newBlock newTies newLines hasBlock hasTies size att place sort number fault faultPlace lastFault lastPlace toValue toWeight toMany often firstOf lastOf unlikes unlikeMany isCandidate modes fewest x1 x2  _ eq1) (cwV 2 hts gX6_median_X6_isSpan rfl rfl rfl (by decide +kernel) ⟨Nat.le_of_ble_eq_true rfl, Nat.le_of_ble_eq_true rfl⟩) rfl hK hP hD hS hA 0 rfl rfl rfl rfl (Nat.le_of_ble_eq_true rfl) dX6_median_8 ⟨Nat.zero_le _, Nat.zero_le _⟩ (fun H locs hP hD hS hnq1 => ?_)
  have hP : va_P D vwCl (wX6 cA ad 0 tape taped value weight many block ties lines pastValue pastWeight pastMany undos fresh newValue newWeight newMany newBlock newTies newLines hasBlock hasTies size att place sort number fault faultPlace lastFault lastPlace toValue toWeight toMany often firstOf lastOf unlikes unlikeMany isCandidate modes fewest) H := hP
  have hD : va_D A (wX6 cA ad 0 tape taped value weight many block ties lines pastValue pastWeight pastMany undos fresh newValue newWeight newMany newBlock newTies newLines hasBlock hasTies size att place sort number fault faultPlace lastFault lastPlace toValue toWeight toMany often firstOf lastOf unlikes unlikeMany isCandidate modes fewest) := hD
  refine lv_if_ne (tgt := 16) hx hb dX6_median_11 (by decide) (fun c2 => ?_) (fun c2 => ?_)
  · have h := e_t c2 h
    refine lv_iload_n hx hb dX6_median_16 rfl (lv_at hl 2 rfl) ?_
    refine lv_iload_n hx hb dX6_median_17 rfl (lv_at hl 1 rfl) ?_
    refine lv_isub hx hb dX6_median_18 ?_
    refine lv_iconst (v := 2) hx hb dX6_median_19 (by decide) ?_
    obtain ⟨v3, ev3, nv3, h⟩ := e_dv h
    refine xa_idiv hx hb dX6_median_20 nv3 ev3 ?_
    refine lv_istore_n (lv' := [(3, .int v3), (0, .ref (ad 0)), (1, .int x1), (2, .int x2)]) hx hb dX6_median_21 rfl hl (by decide) rfl (fun ls hl => ?_)
    refine lv_aload_n hx hb dX6_median_22 rfl (lv_at hl 1 rfl) ?_
    refine lv_iload_n hx hb dX6_median_23 rfl (lv_at hl 2 rfl) ?_
    refine lv_iload_n hx hb dX6_median_24 rfl (lv_at hl 3 rfl) ?_
    refine lv_iconst (v := (-1)) hx hb dX6_median_25 (by decide) ?_
    obtain ⟨q4, eq4, h⟩ := e_b h
    refine xv_v0 (As := [.int x1, .int x2, .int (-1)]) (rest := []) (ci := 6) (b := ad 0) ⟨hx, hb, hml, hown, hts⟩ hl.1 (kX6_counts l D cA ad 0 tape taped value weight many block ties lines pastValue pastWeight pastMany undos fresh newValue newWeight newMany newBlock newTies newLines hasBlock hasTies size att place sort number fault faultPlace lastFault lastPlace toValue toWeight toMany often firstOf lastOf unlikes unlikeMany isCandidate modes fewest x1 x2 (-1)  _ eq4) (cwV 3 hts gX6_median_X6_counts rfl rfl rfl (by decide +kernel) ⟨Nat.le_of_ble_eq_true rfl, Nat.le_of_ble_eq_true rfl⟩) rfl hK hP hD hS hA 0 rfl rfl rfl rfl (Nat.le_of_ble_eq_true rfl) dX6_median_26 ⟨Nat.zero_le _, Nat.zero_le _⟩ (fun H locs hP hD hS => ?_)
    have hP : va_P D vwCl (wX6 cA ad 0 tape taped value weight many block ties lines pastValue pastWeight pastMany undos fresh newValue newWeight newMany newBlock newTies newLines hasBlock hasTies size att place sort number fault faultPlace lastFault lastPlace toValue toWeight toMany q4.1 q4.2.1 q4.2.2.1 q4.2.2.2.1 q4.2.2.2.2 isCandidate modes fewest) H := hP
    have hD : va_D A (wX6 cA ad 0 tape taped value weight many block ties lines pastValue pastWeight pastMany undos fresh newValue newWeight newMany newBlock newTies newLines hasBlock hasTies size att place sort number fault faultPlace lastFault lastPlace toValue toWeight toMany q4.1 q4.2.1 q4.2.2.1 q4.2.2.2.1 q4.2.2.2.2 isCandidate modes fewest) := hD
    refine lv_iconst (v := 0) hx hb dX6_median_29 (by decide) ?_
    refine lv_istore (lv' := [(4, .int 0), (3, .int v3), (0, .ref (ad 0)), (1, .int x1), (2, .int x2)]) hx hb dX6_median_30 hl (by decide) rfl (fun ls hl => ?_)
    have hL32 : ∀ (n : Nat) (x3 : Int32) (x4 : Int32) (thrown : Int32) (tape : Nat → Int32) (taped : Int32) (value : Nat → Int32) (weight : Nat → Int32) (many : Int32) (block : Int32) (ties : Int32) (lines : Int32) (pastValue : Nat → Int32) (pastWeight : Nat → Int32) (pastMany : Nat → Int32) (undos : Int32) (fresh : Int32) (newValue : Nat → Int32) (newWeight : Nat → Int32) (newMany : Int32) (newBlock : Int32) (newTies : Int32) (newLines : Int32) (hasBlock : Int32) (hasTies : Int32) (size : Int32) (att : Int32) (place : Int32) (sort : Int32) (number : Int32) (fault : Int32) (faultPlace : Int32) (lastFault : Int32) (lastPlace : Int32) (toValue : Nat → Int32) (toWeight : Nat → Int32) (toMany : Int32) (often : Nat → Int32) (firstOf : Nat → Int32) (lastOf : Nat → Int32) (unlikes : Nat → Int32) (unlikeMany : Int32) (isCandidate : Nat → Int32) (modes : Nat → Int32) (fewest : Nat → Int32) (z5 : Int32) (ls : Array Slot) (H : Heap) (locs : List Loc), lv_has ls 5 [(0, .ref (ad 0)), (3, .int x3), (4, .int x4)] → va_P D vwCl (wX6 cA ad thrown tape taped value weight many block ties lines pastValue pastWeight pastMany undos fresh newValue newWeight newMany newBlock newTies newLines hasBlock hasTies size att place sort number fault faultPlace lastFault lastPlace toValue toWeight toMany often firstOf lastOf unlikes unlikeMany isCandidate modes fewest) H → va_D A (wX6 cA ad thrown tape taped value weight many block ties lines pastValue pastWeight pastMany undos fresh newValue newWeight newMany newBlock newTies newLines hasBlock hasTies size att place sort number fault faultPlace lastFault lastPlace toValue toWeight toMany often firstOf lastOf unlikes unlikeMany isCandidate modes fewest) → va_S A s.heap H locs → mX6_median_L32 often n x3 x4 = some z5 → (∀ (ls : Array Slot) (H : Heap) (locs : List Loc), lv_has ls 5 [(4, .int z5)] → va_P D vwCl (wX6 cA ad thrown tape taped value weight many block ties lines pastValue pastWeight pastMany undos fresh newValue newWeight newMany newBlock newTies newLines hasBlock hasTies size att place sort number fault faultPlace lastFault lastPlace toValue toWeight toMany often firstOf lastOf unlikes unlikeMany isCandidate modes fewest) H → va_D A (wX6 cA ad thrown tape taped value weight many block ties lines pastValue pastWeight pastMany undos fresh newValue newWeight newMany newBlock newTies newLines hasBlock hasTies size att place sort number fault faultPlace lastFault lastPlace toValue toWeight toMany often firstOf lastOf unlikes unlikeMany isCandidate modes fewest) → va_S A s.heap H locs → W p l e (headSpec wsX6_median { frames := 1, cells := 0, slots := 0, locals := 25 }).room s m args below meth c H locs 0 0 Q (F0 m 59 ls [])) → W p l e (headSpec wsX6_median { frames := 1, cells := 0, slots := 0, locals := 25 }).room s m args below meth c H locs 0 0 Q (F0 m 32 ls []) := by
      intro n
      induction n with
      | zero => intro x3 x4 thrown tape taped value weight many block ties lines pastValue pastWeight pastMany undos fresh newValue newWeight newMany newBlock newTies newLines hasBlock hasTies size att place sort number fault faultPlace lastFault lastPlace toValue toWeight toMany often firstOf lastOf unlikes unlikeMany isCandidate modes fewest z5 ls H locs hl hP hD hS h hk32; exact e_n h
      | succ n ih32 =>
        intro x3 x4 thrown tape taped value weight many block ties lines pastValue pastWeight pastMany undos fresh newValue newWeight newMany newBlock newTies newLines hasBlock hasTies size att place sort number fault faultPlace lastFault lastPlace toValue toWeight toMany often firstOf lastOf unlikes unlikeMany isCandidate modes fewest z5 ls H locs hl hP hD hS h hk32
        rw [mX6_median_L32.eq_2] at h
        refine lv_aload_n hx hb dX6_median_32 rfl (lv_at hl 0 rfl) ?_
        refine va_get (D := D) (ci := 6) (v := .ref (ad 11)) (C := RX6) (T := TX6) (N := 42) hx hb hts iX6 hown hK hP 0 rfl rfl 34 (Nat.le_of_ble_eq_true rfl) f47 (fun _ h9 => h9) rfl dX6_median_33 ?_
        refine lv_iload hx hb dX6_median_36 (lv_at hl 2 rfl) ?_
        obtain ⟨v6, ev6, nv6, h⟩ := e_rd h
        refine xa_iald hx hb hK hP 11 rfl nv6 ev6 dX6_median_38 ?_
        refine lv_iload_n hx hb dX6_median_39 rfl (lv_at hl 1 rfl) ?_
        refine lv_icmp_gt (tgt := 59) hx hb dX6_median_40 (by decide) (fun c7 => ?_) (fun c7 => ?_)
        · have h := e_t c7 h
          obtain rfl := e_s h
          exact hk32 _ _ _ (lv_sub hl [2] rfl) hP hD hS
        · have h := e_f c7 h
          refine lv_iload_n hx hb dX6_median_43 rfl (lv_at hl 1 rfl) ?_
          refine lv_aload_n hx hb dX6_median_44 rfl (lv_at hl 0 rfl) ?_
          refine va_get (D := D) (ci := 6) (v := .ref (ad 11)) (C := RX6) (T := TX6) (N := 42) hx hb hts iX6 hown hK hP 0 rfl rfl 34 (Nat.le_of_ble_eq_true rfl) f47 (fun _ h9 => h9) rfl dX6_median_45 ?_
          refine lv_iload hx hb dX6_median_48 (lv_at hl 2 rfl) ?_
          obtain ⟨v8, ev8, nv8, h⟩ := e_rd h
          refine xa_iald hx hb hK hP 11 rfl nv8 ev8 dX6_median_50 ?_
          refine lv_isub hx hb dX6_median_51 ?_
          refine lv_istore_n (lv' := [(3, .int (x3 - v8)), (0, .ref (ad 0)), (4, .int x4)]) hx hb dX6_median_52 rfl hl (by decide) rfl (fun ls hl => ?_)
          refine lv_iinc (v := (x4 + 1)) (lv' := [(4, .int (x4 + 1)), (3, .int (x3 - v8)), (0, .ref (ad 0))]) hx hb dX6_median_53 hl (k := 2) rfl rfl (by decide) rfl (fun ls hl => ?_)
          refine lv_goto (tgt := 32) hx hb dX6_median_56 (by decide) ?_
          exact ih32 (x3 - v8) (x4 + 1) thrown tape taped value weight many block ties lines pastValue pastWeight pastMany undos fresh newValue newWeight newMany newBlock newTies newLines hasBlock hasTies size att place sort number fault faultPlace lastFault lastPlace toValue toWeight toMany often firstOf lastOf unlikes unlikeMany isCandidate modes fewest z5 _ _ _ (lv_sub hl [2, 1, 0] rfl) hP hD hS h hk32
    obtain ⟨z9, ez9, h⟩ := e_b h
    refine hL32 FU v3 0 0 tape taped value weight many block ties lines pastValue pastWeight pastMany undos fresh newValue newWeight newMany newBlock newTies newLines hasBlock hasTies size att place sort number fault faultPlace lastFault lastPlace toValue toWeight toMany q4.1 q4.2.1 q4.2.2.1 q4.2.2.2.1 q4.2.2.2.2 isCandidate modes fewest z9 _ _ _ (lv_sub hl [2, 1, 0] rfl) hP hD hS ez9 (fun ls H locs hl hP hD hS => ?_)
    refine lv_iload hx hb dX6_median_59 (lv_at hl 0 rfl) ?_
    obtain rfl := e_s h
    exact hret hP hS rfl dX6_median_61
  · have h := e_f (not_not_intro c2) h
    refine lv_iconst (v := (-1)) hx hb dX6_median_14 (by decide) ?_
    obtain rfl := e_s h
    exact hret hP hS rfl dX6_median_15
set_option maxHeartbeats 4000000 in
set_option maxRecDepth 100000 in
theorem kX6_twisted (l : Launch) (D : va_G) (cA : Nat → ClassId) (ad : Nat → Nat) (thrown : Int32) (tape : Nat → Int32) (taped : Int32) (value : Nat → Int32) (weight : Nat → Int32) (many : Int32) (block : Int32) (ties : Int32) (lines : Int32) (pastValue : Nat → Int32) (pastWeight : Nat → Int32) (pastMany : Nat → Int32) (undos : Int32) (fresh : Int32) (newValue : Nat → Int32) (newWeight : Nat → Int32) (newMany : Int32) (newBlock : Int32) (newTies : Int32) (newLines : Int32) (hasBlock : Int32) (hasTies : Int32) (size : Int32) (att : Int32) (place : Int32) (sort : Int32) (number : Int32) (fault : Int32) (faultPlace : Int32) (lastFault : Int32) (lastPlace : Int32) (toValue : Nat → Int32) (toWeight : Nat → Int32) (toMany : Int32) (often : Nat → Int32) (firstOf : Nat → Int32) (lastOf : Nat → Int32) (unlikes : Nat → Int32) (unlikeMany : Int32) (isCandidate : Nat → Int32) (modes : Nat → Int32) (fewest : Nat → Int32) (x1 : Int32) (x2 : Int32) (q : Int32 × Int32) (h : mX6_twisted thrown value many x1 x2 = some q) : MI l yX6_twisted wsX6_twisted { frames := 1, cells := 0, slots := 0, locals := 22 } D cA .int [.ref (ad 0), .int x1, .int x2] (wX6 cA ad thrown tape taped value weight many block ties lines pastValue pastWeight pastMany undos fresh newValue newWeight newMany newBlock newTies newLines hasBlock hasTies size att place sort number fault faultPlace lastFault lastPlace toValue toWeight toMany often firstOf lastOf unlikes unlikeMany isCandidate modes fewest) (wX6 cA ad q.2 tape taped value weight many block ties lines pastValue pastWeight pastMany undos fresh newValue newWeight newMany newBlock newTies newLines hasBlock hasTies size att place sort number fault faultPlace lastFault lastPlace toValue toWeight toMany often firstOf lastOf unlikes unlikeMany isCandidate modes fewest) q.1 := by
  refine MI.of (cc := cX6_twisted) (maxL := 6) (by decide +kernel) rfl rfl rfl (Nat.le_of_ble_eq_true rfl) ?_
  intro p e s m args below meth c A ls Q hx hb hml hts hown hK hP hD hA hS hl hret
  have hl : lv_has ls 6 [(0, .ref (ad 0)), (1, .int x1), (2, .int x2)] := hl
  have f13 := hts (.fieldLink RX6 13 "ModeDeskModel" "value" "[I") (by decide +kernel)
  have f72 := hts (.fieldLink RX6 72 "ModeDeskModel" "thrown" "I") (by decide +kernel)
  have iX6 : ∀ w ∈ wsX60, w ∈ wsX6_twisted := by decide +kernel
  unfold mX6_twisted at h
  refine lv_aload_n hx hb dX6_twisted_0 rfl (lv_at hl 0 rfl) ?_
  refine lv_iconst (v := 0) hx hb dX6_twisted_1 (by decide) ?_
  refine va_put (D := D) (ci := 6) (v := .int 0) (ty := .int) (C := RX6) (T := TX6) (N := 42) hx hb hts iX6 tyX6 tyX6_ok nmX6 hown hK hP hD hS 0 rfl rfl 0 (Nat.le_of_ble_eq_true rfl) f72 (fun _ h9 => h9) rfl (tyX6_ok 0 (Nat.le_of_ble_eq_true rfl)) rfl rfl (Nat.le_of_ble_eq_true rfl) dX6_twisted_2 (fun H locs hP hD hS => ?_)
  have hP : va_P D vwCl (wX6 cA ad 0 tape taped value weight many block ties lines pastValue pastWeight pastMany undos fresh newValue newWeight newMany newBlock newTies newLines hasBlock hasTies size att place sort number fault faultPlace lastFault lastPlace toValue toWeight toMany often firstOf lastOf unlikes unlikeMany isCandidate modes fewest) H := hP
  have hD : va_D A (wX6 cA ad 0 tape taped value weight many block ties lines pastValue pastWeight pastMany undos fresh newValue newWeight newMany newBlock newTies newLines hasBlock hasTies size att place sort number fault faultPlace lastFault lastPlace toValue toWeight toMany often firstOf lastOf unlikes unlikeMany isCandidate modes fewest) := hD
  refine lv_aload_n hx hb dX6_twisted_5 rfl (lv_at hl 0 rfl) ?_
  refine lv_iload_n hx hb dX6_twisted_6 rfl (lv_at hl 1 rfl) ?_
  refine lv_iload_n hx hb dX6_twisted_7 rfl (lv_at hl 2 rfl) ?_
  obtain ⟨q1, eq1, h⟩ := e_b h
  refine xv_i0 (As := [.int x1, .int x2]) (rest := []) (ci := 6) (b := ad 0) ⟨hx, hb, hml, hown, hts⟩ hl.1 (kX6_isSpan l D cA ad 0 tape taped value weight many block ties lines pastValue pastWeight pastMany undos fresh newValue newWeight newMany newBlock newTies newLines hasBlock hasTies size att place sort number fault faultPlace lastFault lastPlace toValue toWeight toMany often firstOf lastOf unlikes unlikeMany isCandidate modes fewest x1 x2  _ eq1) (cwV 2 hts gX6_twisted_X6_isSpan rfl rfl rfl (by decide +kernel) ⟨Nat.le_of_ble_eq_true rfl, Nat.le_of_ble_eq_true rfl⟩) rfl hK hP hD hS hA 0 rfl rfl rfl rfl (Nat.le_of_ble_eq_true rfl) dX6_twisted_8 ⟨Nat.zero_le _, Nat.zero_le _⟩ (fun H locs hP hD hS hnq1 => ?_)
  have hP : va_P D vwCl (wX6 cA ad 0 tape taped value weight many block ties lines pastValue pastWeight pastMany undos fresh newValue newWeight newMany newBlock newTies newLines hasBlock hasTies size att place sort number fault faultPlace lastFault lastPlace toValue toWeight toMany often firstOf lastOf unlikes unlikeMany isCandidate modes fewest) H := hP
  have hD : va_D A (wX6 cA ad 0 tape taped value weight many block ties lines pastValue pastWeight pastMany undos fresh newValue newWeight newMany newBlock newTies newLines hasBlock hasTies size att place sort number fault faultPlace lastFault lastPlace toValue toWeight toMany often firstOf lastOf unlikes unlikeMany isCandidate modes fewest) := hD
  refine lv_if_ne (tgt := 16) hx hb dX6_twisted_11 (by decide) (fun c2 => ?_) (fun c2 => ?_)
  · have h := e_t c2 h
    refine lv_iconst (v := 0) hx hb dX6_twisted_16 (by decide) ?_
    refine lv_istore_n (lv' := [(3, .int 0), (0, .ref (ad 0)), (1, .int x1), (2, .int x2)]) hx hb dX6_twisted_17 rfl hl (by decide) rfl (fun ls hl => ?_)
    refine lv_iload_n hx hb dX6_twisted_18 rfl (lv_at hl 2 rfl) ?_
    refine lv_istore (lv' := [(4, .int x1), (3, .int 0), (0, .ref (ad 0)), (1, .int x1), (2, .int x2)]) hx hb dX6_twisted_19 hl (by decide) rfl (fun ls hl => ?_)
    have hL21 : ∀ (n : Nat) (x2 : Int32) (x3 : Int32) (x4 : Int32) (thrown : Int32) (tape : Nat → Int32) (taped : Int32) (value : Nat → Int32) (weight : Nat → Int32) (many : Int32) (block : Int32) (ties : Int32) (lines : Int32) (pastValue : Nat → Int32) (pastWeight : Nat → Int32) (pastMany : Nat → Int32) (undos : Int32) (fresh : Int32) (newValue : Nat → Int32) (newWeight : Nat → Int32) (newMany : Int32) (newBlock : Int32) (newTies : Int32) (newLines : Int32) (hasBlock : Int32) (hasTies : Int32) (size : Int32) (att : Int32) (place : Int32) (sort : Int32) (number : Int32) (fault : Int32) (faultPlace : Int32) (lastFault : Int32) (lastPlace : Int32) (toValue : Nat → Int32) (toWeight : Nat → Int32) (toMany : Int32) (often : Nat → Int32) (firstOf : Nat → Int32) (lastOf : Nat → Int32) (unlikes : Nat → Int32) (unlikeMany : Int32) (isCandidate : Nat → Int32) (modes : Nat → Int32) (fewest : Nat → Int32) (z3 : Int32) (ls : Array Slot) (H : Heap) (locs : List Loc), lv_has ls 6 [(0, .ref (ad 0)), (2, .int x2), (3, .int x3), (4, .int x4)] → va_P D vwCl (wX6 cA ad thrown tape taped value weight many block ties lines pastValue pastWeight pastMany undos fresh newValue newWeight newMany newBlock newTies newLines hasBlock hasTies size att place sort number fault faultPlace lastFault lastPlace toValue toWeight toMany often firstOf lastOf unlikes unlikeMany isCandidate modes fewest) H → va_D A (wX6 cA ad thrown tape taped value weight many block ties lines pastValue pastWeight pastMany undos fresh newValue newWeight newMany newBlock newTies newLines hasBlock hasTies size att place sort number fault faultPlace lastFault lastPlace toValue toWeight toMany often firstOf lastOf unlikes unlikeMany isCandidate modes fewest) → va_S A s.heap H locs → mX6_twisted_L21 value x2 n x3 x4 = some z3 → (∀ (ls : Array Slot) (H : Heap) (locs : List Loc), lv_has ls 6 [(3, .int z3)] → va_P D vwCl (wX6 cA ad thrown tape taped value weight many block ties lines pastValue pastWeight pastMany undos fresh newValue newWeight newMany newBlock newTies newLines hasBlock hasTies size att place sort number fault faultPlace lastFault lastPlace toValue toWeight toMany often firstOf lastOf unlikes unlikeMany isCandidate modes fewest) H → va_D A (wX6 cA ad thrown tape taped value weight many block ties lines pastValue pastWeight pastMany undos fresh newValue newWeight newMany newBlock newTies newLines hasBlock hasTies size att place sort number fault faultPlace lastFault lastPlace toValue toWeight toMany often firstOf lastOf unlikes unlikeMany isCandidate modes fewest) → va_S A s.heap H locs → W p l e (headSpec wsX6_twisted { frames := 1, cells := 0, slots := 0, locals := 22 }).room s m args below meth c H locs 0 0 Q (F0 m 76 ls [])) → W p l e (headSpec wsX6_twisted { frames := 1, cells := 0, slots := 0, locals := 22 }).room s m args below meth c H locs 0 0 Q (F0 m 21 ls []) := by
      intro n
      induction n with
      | zero => intro x2 x3 x4 thrown tape taped value weight many block ties lines pastValue pastWeight pastMany undos fresh newValue newWeight newMany newBlock newTies newLines hasBlock hasTies size att place sort number fault faultPlace lastFault lastPlace toValue toWeight toMany often firstOf lastOf unlikes unlikeMany isCandidate modes fewest z3 ls H locs hl hP hD hS h hk21; exact e_n h
      | succ n ih21 =>
        intro x2 x3 x4 thrown tape taped value weight many block ties lines pastValue pastWeight pastMany undos fresh newValue newWeight newMany newBlock newTies newLines hasBlock hasTies size att place sort number fault faultPlace lastFault lastPlace toValue toWeight toMany often firstOf lastOf unlikes unlikeMany isCandidate modes fewest z3 ls H locs hl hP hD hS h hk21
        rw [mX6_twisted_L21.eq_2] at h
        refine lv_iload hx hb dX6_twisted_21 (lv_at hl 3 rfl) ?_
        refine lv_iload_n hx hb dX6_twisted_23 rfl (lv_at hl 1 rfl) ?_
        refine lv_icmp_gt (tgt := 76) hx hb dX6_twisted_24 (by decide) (fun c4 => ?_) (fun c4 => ?_)
        · have h := e_t c4 h
          obtain rfl := e_s h
          exact hk21 _ _ _ (lv_sub hl [2] rfl) hP hD hS
        · have h := e_f c4 h
          refine lv_iload hx hb dX6_twisted_27 (lv_at hl 3 rfl) ?_
          refine lv_iconst (v := 1) hx hb dX6_twisted_29 (by decide) ?_
          refine lv_iadd hx hb dX6_twisted_30 ?_
          refine lv_istore (lv' := [(5, .int (x4 + 1)), (0, .ref (ad 0)), (2, .int x2), (3, .int x3), (4, .int x4)]) hx hb dX6_twisted_31 hl (by decide) rfl (fun ls hl => ?_)
          have hL33 : ∀ (n : Nat) (x2 : Int32) (x3 : Int32) (x4 : Int32) (x5 : Int32) (thrown : Int32) (tape : Nat → Int32) (taped : Int32) (value : Nat → Int32) (weight : Nat → Int32) (many : Int32) (block : Int32) (ties : Int32) (lines : Int32) (pastValue : Nat → Int32) (pastWeight : Nat → Int32) (pastMany : Nat → Int32) (undos : Int32) (fresh : Int32) (newValue : Nat → Int32) (newWeight : Nat → Int32) (newMany : Int32) (newBlock : Int32) (newTies : Int32) (newLines : Int32) (hasBlock : Int32) (hasTies : Int32) (size : Int32) (att : Int32) (place : Int32) (sort : Int32) (number : Int32) (fault : Int32) (faultPlace : Int32) (lastFault : Int32) (lastPlace : Int32) (toValue : Nat → Int32) (toWeight : Nat → Int32) (toMany : Int32) (often : Nat → Int32) (firstOf : Nat → Int32) (lastOf : Nat → Int32) (unlikes : Nat → Int32) (unlikeMany : Int32) (isCandidate : Nat → Int32) (modes : Nat → Int32) (fewest : Nat → Int32) (z5 : Int32) (ls : Array Slot) (H : Heap) (locs : List Loc), lv_has ls 6 [(0, .ref (ad 0)), (2, .int x2), (3, .int x3), (4, .int x4), (5, .int x5)] → va_P D vwCl (wX6 cA ad thrown tape taped value weight many block ties lines pastValue pastWeight pastMany undos fresh newValue newWeight newMany newBlock newTies newLines hasBlock hasTies size att place sort number fault faultPlace lastFault lastPlace toValue toWeight toMany often firstOf lastOf unlikes unlikeMany isCandidate modes fewest) H → va_D A (wX6 cA ad thrown tape taped value weight many block ties lines pastValue pastWeight pastMany undos fresh newValue newWeight newMany newBlock newTies newLines hasBlock hasTies size att place sort number fault faultPlace lastFault lastPlace toValue toWeight toMany often firstOf lastOf unlikes unlikeMany isCandidate modes fewest) → va_S A s.heap H locs → mX6_twisted_L33 value x2 x4 n x3 x5 = some z5 → (∀ (ls : Array Slot) (H : Heap) (locs : List Loc), lv_has ls 6 [(0, .ref (ad 0)), (2, .int x2), (3, .int z5), (4, .int x4)] → va_P D vwCl (wX6 cA ad thrown tape taped value weight many block ties lines pastValue pastWeight pastMany undos fresh newValue newWeight newMany newBlock newTies newLines hasBlock hasTies size att place sort number fault faultPlace lastFault lastPlace toValue toWeight toMany often firstOf lastOf unlikes unlikeMany isCandidate modes fewest) H → va_D A (wX6 cA ad thrown tape taped value weight many block ties lines pastValue pastWeight pastMany undos fresh newValue newWeight newMany newBlock newTies newLines hasBlock hasTies size att place sort number fault faultPlace lastFault lastPlace toValue toWeight toMany often firstOf lastOf unlikes unlikeMany isCandidate modes fewest) → va_S A s.heap H locs → W p l e (headSpec wsX6_twisted { frames := 1, cells := 0, slots := 0, locals := 22 }).room s m args below meth c H locs 0 0 Q (F0 m 70 ls [])) → W p l e (headSpec wsX6_twisted { frames := 1, cells := 0, slots := 0, locals := 22 }).room s m args below meth c H locs 0 0 Q (F0 m 33 ls []) := by
            intro n
            induction n with
            | zero => intro x2 x3 x4 x5 thrown tape taped value weight many block ties lines pastValue pastWeight pastMany undos fresh newValue newWeight newMany newBlock newTies newLines hasBlock hasTies size att place sort number fault faultPlace lastFault lastPlace toValue toWeight toMany often firstOf lastOf unlikes unlikeMany isCandidate modes fewest z5 ls H locs hl hP hD hS h hk33; exact e_n h
            | succ n ih33 =>
              intro x2 x3 x4 x5 thrown tape taped value weight many block ties lines pastValue pastWeight pastMany undos fresh newValue newWeight newMany newBlock newTies newLines hasBlock hasTies size att place sort number fault faultPlace lastFault lastPlace toValue toWeight toMany often firstOf lastOf unlikes unlikeMany isCandidate modes fewest z5 ls H locs hl hP hD hS h hk33
              rw [mX6_twisted_L33.eq_2] at h
              refine lv_iload hx hb dX6_twisted_33 (lv_at hl 4 rfl) ?_
              refine lv_iload_n hx hb dX6_twisted_35 rfl (lv_at hl 1 rfl) ?_
              refine lv_icmp_gt (tgt := 70) hx hb dX6_twisted_36 (by decide) (fun c6 => ?_) (fun c6 => ?_)
              · have h := e_t c6 h
                obtain rfl := e_s h
                exact hk33 _ _ _ (lv_sub hl [0, 1, 2, 3] rfl) hP hD hS
              · have h := e_f c6 h
                refine lv_iload_n hx hb dX6_twisted_39 rfl (lv_at hl 2 rfl) ?_
                refine lv_aload_n hx hb dX6_twisted_40 rfl (lv_at hl 0 rfl) ?_
                refine va_get (D := D) (ci := 6) (v := .ref (ad 2)) (C := RX6) (T := TX6) (N := 42) hx hb hts iX6 hown hK hP 0 rfl rfl 3 (Nat.le_of_ble_eq_true rfl) f13 (fun _ h9 => h9) rfl dX6_twisted_41 ?_
                refine lv_iload hx hb dX6_twisted_44 (lv_at hl 3 rfl) ?_
                obtain ⟨v7, ev7, nv7, h⟩ := e_rd h
                refine xa_iald hx hb hK hP 2 rfl nv7 ev7 dX6_twisted_46 ?_
                refine lv_aload_n hx hb dX6_twisted_47 rfl (lv_at hl 0 rfl) ?_
                refine va_get (D := D) (ci := 6) (v := .ref (ad 2)) (C := RX6) (T := TX6) (N := 42) hx hb hts iX6 hown hK hP 0 rfl rfl 3 (Nat.le_of_ble_eq_true rfl) f13 (fun _ h9 => h9) rfl dX6_twisted_48 ?_
                refine lv_iload hx hb dX6_twisted_51 (lv_at hl 4 rfl) ?_
                obtain ⟨v8, ev8, nv8, h⟩ := e_rd h
                refine xa_iald hx hb hK hP 2 rfl nv8 ev8 dX6_twisted_53 ?_
                refine lv_icmp_le (tgt := 61) hx hb dX6_twisted_54 (by decide) (fun c9 => ?_) (fun c9 => ?_)
                · have h := e_t c9 h
                  refine lv_iconst (v := 0) hx hb dX6_twisted_61 (by decide) ?_
                  refine lv_iadd hx hb dX6_twisted_62 ?_
                  refine lv_istore_n (lv' := [(3, .int (x3 + 0)), (0, .ref (ad 0)), (2, .int x2), (4, .int x4), (5, .int x5)]) hx hb dX6_twisted_63 rfl hl (by decide) rfl (fun ls hl => ?_)
                  refine lv_iinc (v := (x5 + 1)) (lv' := [(5, .int (x5 + 1)), (3, .int (x3 + 0)), (0, .ref (ad 0)), (2, .int x2), (4, .int x4)]) hx hb dX6_twisted_64 hl (k := 4) rfl rfl (by decide) rfl (fun ls hl => ?_)
                  refine lv_goto (tgt := 33) hx hb dX6_twisted_67 (by decide) ?_
                  exact ih33 x2 (x3 + 0) x4 (x5 + 1) thrown tape taped value weight many block ties lines pastValue pastWeight pastMany undos fresh newValue newWeight newMany newBlock newTies newLines hasBlock hasTies size att place sort number fault faultPlace lastFault lastPlace toValue toWeight toMany often firstOf lastOf unlikes unlikeMany isCandidate modes fewest z5 _ _ _ (lv_sub hl [2, 3, 1, 4, 0] rfl) hP hD hS h hk33
                · have h := e_f c9 h
                  refine lv_iconst (v := 1) hx hb dX6_twisted_57 (by decide) ?_
                  refine lv_goto (tgt := 62) hx hb dX6_twisted_58 (by decide) ?_
                  refine lv_iadd hx hb dX6_twisted_62 ?_
                  refine lv_istore_n (lv' := [(3, .int (x3 + 1)), (0, .ref (ad 0)), (2, .int x2), (4, .int x4), (5, .int x5)]) hx hb dX6_twisted_63 rfl hl (by decide) rfl (fun ls hl => ?_)
                  refine lv_iinc (v := (x5 + 1)) (lv' := [(5, .int (x5 + 1)), (3, .int (x3 + 1)), (0, .ref (ad 0)), (2, .int x2), (4, .int x4)]) hx hb dX6_twisted_64 hl (k := 4) rfl rfl (by decide) rfl (fun ls hl => ?_)
                  refine lv_goto (tgt := 33) hx hb dX6_twisted_67 (by decide) ?_
                  exact ih33 x2 (x3 + 1) x4 (x5 + 1) thrown tape taped value weight many block ties lines pastValue pastWeight pastMany undos fresh newValue newWeight newMany newBlock newTies newLines hasBlock hasTies size att place sort number fault faultPlace lastFault lastPlace toValue toWeight toMany often firstOf lastOf unlikes unlikeMany isCandidate modes fewest z5 _ _ _ (lv_sub hl [2, 3, 1, 4, 0] rfl) hP hD hS h hk33
          obtain ⟨z10, ez10, h⟩ := e_b h
          refine hL33 FU x2 x3 x4 (x4 + 1) thrown tape taped value weight many block ties lines pastValue pastWeight pastMany undos fresh newValue newWeight newMany newBlock newTies newLines hasBlock hasTies size att place sort number fault faultPlace lastFault lastPlace toValue toWeight toMany often firstOf lastOf unlikes unlikeMany isCandidate modes fewest z10 _ _ _ (lv_sub hl [1, 2, 3, 4, 0] rfl) hP hD hS ez10 (fun ls H locs hl hP hD hS => ?_)
          refine lv_iinc (v := (x4 + 1)) (lv' := [(4, .int (x4 + 1)), (0, .ref (ad 0)), (2, .int x2), (3, .int z10)]) hx hb dX6_twisted_70 hl (k := 3) rfl rfl (by decide) rfl (fun ls hl => ?_)
          refine lv_goto (tgt := 21) hx hb dX6_twisted_73 (by decide) ?_
          exact ih21 x2 z10 (x4 + 1) thrown tape taped value weight many block ties lines pastValue pastWeight pastMany undos fresh newValue newWeight newMany newBlock newTies newLines hasBlock hasTies size att place sort number fault faultPlace lastFault lastPlace toValue toWeight toMany often firstOf lastOf unlikes unlikeMany isCandidate modes fewest z3 _ _ _ (lv_sub hl [1, 2, 3, 0] rfl) hP hD hS h hk21
    obtain ⟨z11, ez11, h⟩ := e_b h
    refine hL21 FU x2 0 x1 0 tape taped value weight many block ties lines pastValue pastWeight pastMany undos fresh newValue newWeight newMany newBlock newTies newLines hasBlock hasTies size att place sort number fault faultPlace lastFault lastPlace toValue toWeight toMany often firstOf lastOf unlikes unlikeMany isCandidate modes fewest z11 _ _ _ (lv_sub hl [2, 4, 1, 0] rfl) hP hD hS ez11 (fun ls H locs hl hP hD hS => ?_)
    refine lv_iload_n hx hb dX6_twisted_76 rfl (lv_at hl 0 rfl) ?_
    obtain rfl := e_s h
    exact hret hP hS rfl dX6_twisted_77
  · have h := e_f (not_not_intro c2) h
    refine lv_iconst (v := (-1)) hx hb dX6_twisted_14 (by decide) ?_
    obtain rfl := e_s h
    exact hret hP hS rfl dX6_twisted_15
set_option maxHeartbeats 4000000 in
set_option maxRecDepth 100000 in
theorem kX6_run (l : Launch) (D : va_G) (cA : Nat → ClassId) (ad : Nat → Nat) (thrown : Int32) (tape : Nat → Int32) (taped : Int32) (value : Nat → Int32) (weight : Nat → Int32) (many : Int32) (block : Int32) (ties : Int32) (lines : Int32) (pastValue : Nat → Int32) (pastWeight : Nat → Int32) (pastMany : Nat → Int32) (undos : Int32) (fresh : Int32) (newValue : Nat → Int32) (newWeight : Nat → Int32) (newMany : Int32) (newBlock : Int32) (newTies : Int32) (newLines : Int32) (hasBlock : Int32) (hasTies : Int32) (size : Int32) (att : Int32) (place : Int32) (sort : Int32) (number : Int32) (fault : Int32) (faultPlace : Int32) (lastFault : Int32) (lastPlace : Int32) (toValue : Nat → Int32) (toWeight : Nat → Int32) (toMany : Int32) (often : Nat → Int32) (firstOf : Nat → Int32) (lastOf : Nat → Int32) (unlikes : Nat → Int32) (unlikeMany : Int32) (isCandidate : Nat → Int32) (modes : Nat → Int32) (fewest : Nat → Int32) (x1 : Int32) (x2 : Int32) (x3 : Int32) (q : Int32 × Int32) (h : mX6_run thrown value many x1 x2 x3 = some q) : MI l yX6_run wsX6_run { frames := 1, cells := 0, slots := 0, locals := 22 } D cA .int [.ref (ad 0), .int x1, .int x2, .int x3] (wX6 cA ad thrown tape taped value weight many block ties lines pastValue pastWeight pastMany undos fresh newValue newWeight newMany newBlock newTies newLines hasBlock hasTies size att place sort number fault faultPlace lastFault lastPlace toValue toWeight toMany often firstOf lastOf unlikes unlikeMany isCandidate modes fewest) (wX6 cA ad q.2 tape taped value weight many block ties lines pastValue pastWeight pastMany undos fresh newValue newWeight newMany newBlock newTies newLines hasBlock hasTies size att place sort number fault faultPlace lastFault lastPlace toValue toWeight toMany often firstOf lastOf unlikes unlikeMany isCandidate modes fewest) q.1 := by
  refine MI.of (cc := cX6_run) (maxL := 8) (by decide +kernel) rfl rfl rfl (Nat.le_of_ble_eq_true rfl) ?_
  intro p e s m args below meth c A ls Q hx hb hml hts hown hK hP hD hA hS hl hret
  have hl : lv_has ls 8 [(0, .ref (ad 0)), (1, .int x1), (2, .int x2), (3, .int x3)] := hl
  have f13 := hts (.fieldLink RX6 13 "ModeDeskModel" "value" "[I") (by decide +kernel)
  have f72 := hts (.fieldLink RX6 72 "ModeDeskModel" "thrown" "I") (by decide +kernel)
  have iX6 : ∀ w ∈ wsX60, w ∈ wsX6_run := by decide +kernel
  unfold mX6_run at h
  refine lv_aload_n hx hb dX6_run_0 rfl (lv_at hl 0 rfl) ?_
  refine lv_iconst (v := 0) hx hb dX6_run_1 (by decide) ?_
  refine va_put (D := D) (ci := 6) (v := .int 0) (ty := .int) (C := RX6) (T := TX6) (N := 42) hx hb hts iX6 tyX6 tyX6_ok nmX6 hown hK hP hD hS 0 rfl rfl 0 (Nat.le_of_ble_eq_true rfl) f72 (fun _ h9 => h9) rfl (tyX6_ok 0 (Nat.le_of_ble_eq_true rfl)) rfl rfl (Nat.le_of_ble_eq_true rfl) dX6_run_2 (fun H locs hP hD hS => ?_)
  have hP : va_P D vwCl (wX6 cA ad 0 tape taped value weight many block ties lines pastValue pastWeight pastMany undos fresh newValue newWeight newMany newBlock newTies newLines hasBlock hasTies size att place sort number fault faultPlace lastFault lastPlace toValue toWeight toMany often firstOf lastOf unlikes unlikeMany isCandidate modes fewest) H := hP
  have hD : va_D A (wX6 cA ad 0 tape taped value weight many block ties lines pastValue pastWeight pastMany undos fresh newValue newWeight newMany newBlock newTies newLines hasBlock hasTies size att place sort number fault faultPlace lastFault lastPlace toValue toWeight toMany often firstOf lastOf unlikes unlikeMany isCandidate modes fewest) := hD
  refine lv_aload_n hx hb dX6_run_5 rfl (lv_at hl 0 rfl) ?_
  refine lv_iload_n hx hb dX6_run_6 rfl (lv_at hl 1 rfl) ?_
  refine lv_iload_n hx hb dX6_run_7 rfl (lv_at hl 2 rfl) ?_
  obtain ⟨q1, eq1, h⟩ := e_b h
  refine xv_i0 (As := [.int x1, .int x2]) (rest := []) (ci := 6) (b := ad 0) ⟨hx, hb, hml, hown, hts⟩ hl.1 (kX6_isSpan l D cA ad 0 tape taped value weight many block ties lines pastValue pastWeight pastMany undos fresh newValue newWeight newMany newBlock newTies newLines hasBlock hasTies size att place sort number fault faultPlace lastFault lastPlace toValue toWeight toMany often firstOf lastOf unlikes unlikeMany isCandidate modes fewest x1 x2  _ eq1) (cwV 2 hts gX6_run_X6_isSpan rfl rfl rfl (by decide +kernel) ⟨Nat.le_of_ble_eq_true rfl, Nat.le_of_ble_eq_true rfl⟩) rfl hK hP hD hS hA 0 rfl rfl rfl rfl (Nat.le_of_ble_eq_true rfl) dX6_run_8 ⟨Nat.zero_le _, Nat.zero_le _⟩ (fun H locs hP hD hS hnq1 => ?_)
  have hP : va_P D vwCl (wX6 cA ad 0 tape taped value weight many block ties lines pastValue pastWeight pastMany undos fresh newValue newWeight newMany newBlock newTies newLines hasBlock hasTies size att place sort number fault faultPlace lastFault lastPlace toValue toWeight toMany often firstOf lastOf unlikes unlikeMany isCandidate modes fewest) H := hP
  have hD : va_D A (wX6 cA ad 0 tape taped value weight many block ties lines pastValue pastWeight pastMany undos fresh newValue newWeight newMany newBlock newTies newLines hasBlock hasTies size att place sort number fault faultPlace lastFault lastPlace toValue toWeight toMany often firstOf lastOf unlikes unlikeMany isCandidate modes fewest) := hD
  refine lv_if_eq (tgt := 23) hx hb dX6_run_11 (by decide) (fun c2 => ?_) (fun c2 => ?_)
  · have h := e_t c2 h
    refine lv_iconst (v := (-1)) hx hb dX6_run_23 (by decide) ?_
    obtain rfl := e_s h
    exact hret hP hS rfl dX6_run_24
  · have h := e_f c2 h
    refine lv_iload_n hx hb dX6_run_14 rfl (lv_at hl 3 rfl) ?_
    refine lv_if_lt (tgt := 23) hx hb dX6_run_15 (by decide) (fun c3 => ?_) (fun c3 => ?_)
    · have h := e_t c3 h
      refine lv_iconst (v := (-1)) hx hb dX6_run_23 (by decide) ?_
      obtain rfl := e_s h
      exact hret hP hS rfl dX6_run_24
    · have h := e_f c3 h
      refine lv_iload_n hx hb dX6_run_18 rfl (lv_at hl 3 rfl) ?_
      refine lv_iconst (v := 2) hx hb dX6_run_19 (by decide) ?_
      refine lv_icmp_le (tgt := 25) hx hb dX6_run_20 (by decide) (fun c4 => ?_) (fun c4 => ?_)
      · have h := e_t c4 h
        refine lv_iload_n hx hb dX6_run_25 rfl (lv_at hl 1 rfl) ?_
        refine lv_istore (lv' := [(4, .int x1), (0, .ref (ad 0)), (1, .int x1), (2, .int x2), (3, .int x3)]) hx hb dX6_run_26 hl (by decide) rfl (fun ls hl => ?_)
        refine lv_iconst (v := 0) hx hb dX6_run_28 (by decide) ?_
        refine lv_istore (lv' := [(5, .int 0), (4, .int x1), (0, .ref (ad 0)), (1, .int x1), (2, .int x2), (3, .int x3)]) hx hb dX6_run_29 hl (by decide) rfl (fun ls hl => ?_)
        refine lv_iload_n hx hb dX6_run_31 rfl (lv_at hl 3 rfl) ?_
        refine lv_istore (lv' := [(6, .int x1), (5, .int 0), (4, .int x1), (0, .ref (ad 0)), (1, .int x1), (2, .int x2), (3, .int x3)]) hx hb dX6_run_32 hl (by decide) rfl (fun ls hl => ?_)
        have hL34 : ∀ (n : Nat) (x2 : Int32) (x3 : Int32) (x4 : Int32) (x5 : Int32) (x6 : Int32) (thrown : Int32) (tape : Nat → Int32) (taped : Int32) (value : Nat → Int32) (weight : Nat → Int32) (many : Int32) (block : Int32) (ties : Int32) (lines : Int32) (pastValue : Nat → Int32) (pastWeight : Nat → Int32) (pastMany : Nat → Int32) (undos : Int32) (fresh : Int32) (newValue : Nat → Int32) (newWeight : Nat → Int32) (newMany : Int32) (newBlock : Int32) (newTies : Int32) (newLines : Int32) (hasBlock : Int32) (hasTies : Int32) (size : Int32) (att : Int32) (place : Int32) (sort : Int32) (number : Int32) (fault : Int32) (faultPlace : Int32) (lastFault : Int32) (lastPlace : Int32) (toValue : Nat → Int32) (toWeight : Nat → Int32) (toMany : Int32) (often : Nat → Int32) (firstOf : Nat → Int32) (lastOf : Nat → Int32) (unlikes : Nat → Int32) (unlikeMany : Int32) (isCandidate : Nat → Int32) (modes : Nat → Int32) (fewest : Nat → Int32) (z5 : Int32 × Int32) (ls : Array Slot) (H : Heap) (locs : List Loc), lv_has ls 8 [(0, .ref (ad 0)), (2, .int x2), (3, .int x3), (4, .int x4), (5, .int x5), (6, .int x6)] → va_P D vwCl (wX6 cA ad thrown tape taped value weight many block ties lines pastValue pastWeight pastMany undos fresh newValue newWeight newMany newBlock newTies newLines hasBlock hasTies size att place sort number fault faultPlace lastFault lastPlace toValue toWeight toMany often firstOf lastOf unlikes unlikeMany isCandidate modes fewest) H → va_D A (wX6 cA ad thrown tape taped value weight many block ties lines pastValue pastWeight pastMany undos fresh newValue newWeight newMany newBlock newTies newLines hasBlock hasTies size att place sort number fault faultPlace lastFault lastPlace toValue toWeight toMany often firstOf lastOf unlikes unlikeMany isCandidate modes fewest) → va_S A s.heap H locs → mX6_run_L34 value x2 n x4 x5 x6 = some z5 → (∀ (ls : Array Slot) (H : Heap) (locs : List Loc), lv_has ls 8 [(0, .ref (ad 0)), (3, .int x3), (4, .int z5.1), (5, .int z5.2)] → va_P D vwCl (wX6 cA ad thrown tape taped value weight many block ties lines pastValue pastWeight pastMany undos fresh newValue newWeight newMany newBlock newTies newLines hasBlock hasTies size att place sort number fault faultPlace lastFault lastPlace toValue toWeight toMany often firstOf lastOf unlikes unlikeMany isCandidate modes fewest) H → va_D A (wX6 cA ad thrown tape taped value weight many block ties lines pastValue pastWeight pastMany undos fresh newValue newWeight newMany newBlock newTies newLines hasBlock hasTies size att place sort number fault faultPlace lastFault lastPlace toValue toWeight toMany often firstOf lastOf unlikes unlikeMany isCandidate modes fewest) → va_S A s.heap H locs → W p l e (headSpec wsX6_run { frames := 1, cells := 0, slots := 0, locals := 22 }).room s m args below meth c H locs 0 0 Q (F0 m 109 ls [])) → W p l e (headSpec wsX6_run { frames := 1, cells := 0, slots := 0, locals := 22 }).room s m args below meth c H locs 0 0 Q (F0 m 34 ls []) := by
          intro n
          induction n with
          | zero => intro x2 x3 x4 x5 x6 thrown tape taped value weight many block ties lines pastValue pastWeight pastMany undos fresh newValue newWeight newMany newBlock newTies newLines hasBlock hasTies size att place sort number fault faultPlace lastFault lastPlace toValue toWeight toMany often firstOf lastOf unlikes unlikeMany isCandidate modes fewest z5 ls H locs hl hP hD hS h hk34; exact e_n h
          | succ n ih34 =>
            intro x2 x3 x4 x5 x6 thrown tape taped value weight many block ties lines pastValue pastWeight pastMany undos fresh newValue newWeight newMany newBlock newTies newLines hasBlock hasTies size att place sort number fault faultPlace lastFault lastPlace toValue toWeight toMany often firstOf lastOf unlikes unlikeMany isCandidate modes fewest z5 ls H locs hl hP hD hS h hk34
            rw [mX6_run_L34.eq_2] at h
            refine lv_iload hx hb dX6_run_34 (lv_at hl 5 rfl) ?_
            refine lv_iload_n hx hb dX6_run_36 rfl (lv_at hl 1 rfl) ?_
            refine lv_icmp_gt (tgt := 109) hx hb dX6_run_37 (by decide) (fun c6 => ?_) (fun c6 => ?_)
            · have h := e_t c6 h
              obtain rfl := e_s h
              exact hk34 _ _ _ (lv_sub hl [0, 2, 3, 4] rfl) hP hD hS
            · have h := e_f c6 h
              refine lv_iload hx hb dX6_run_40 (lv_at hl 5 rfl) ?_
              refine lv_istore (lv' := [(7, .int x6), (0, .ref (ad 0)), (2, .int x2), (3, .int x3), (4, .int x4), (5, .int x5), (6, .int x6)]) hx hb dX6_run_42 hl (by decide) rfl (fun ls hl => ?_)
              have hL44 : ∀ (n : Nat) (x2 : Int32) (x3 : Int32) (x4 : Int32) (x5 : Int32) (x6 : Int32) (x7 : Int32) (thrown : Int32) (tape : Nat → Int32) (taped : Int32) (value : Nat → Int32) (weight : Nat → Int32) (many : Int32) (block : Int32) (ties : Int32) (lines : Int32) (pastValue : Nat → Int32) (pastWeight : Nat → Int32) (pastMany : Nat → Int32) (undos : Int32) (fresh : Int32) (newValue : Nat → Int32) (newWeight : Nat → Int32) (newMany : Int32) (newBlock : Int32) (newTies : Int32) (newLines : Int32) (hasBlock : Int32) (hasTies : Int32) (size : Int32) (att : Int32) (place : Int32) (sort : Int32) (number : Int32) (fault : Int32) (faultPlace : Int32) (lastFault : Int32) (lastPlace : Int32) (toValue : Nat → Int32) (toWeight : Nat → Int32) (toMany : Int32) (often : Nat → Int32) (firstOf : Nat → Int32) (lastOf : Nat → Int32) (unlikes : Nat → Int32) (unlikeMany : Int32) (isCandidate : Nat → Int32) (modes : Nat → Int32) (fewest : Nat → Int32) (z7 : Int32) (ls : Array Slot) (H : Heap) (locs : List Loc), lv_has ls 8 [(0, .ref (ad 0)), (2, .int x2), (3, .int x3), (4, .int x4), (5, .int x5), (6, .int x6), (7, .int x7)] → va_P D vwCl (wX6 cA ad thrown tape taped value weight many block ties lines pastValue pastWeight pastMany undos fresh newValue newWeight newMany newBlock newTies newLines hasBlock hasTies size att place sort number fault faultPlace lastFault lastPlace toValue toWeight toMany often firstOf lastOf unlikes unlikeMany isCandidate modes fewest) H → va_D A (wX6 cA ad thrown tape taped value weight many block ties lines pastValue pastWeight pastMany undos fresh newValue newWeight newMany newBlock newTies newLines hasBlock hasTies size att place sort number fault faultPlace lastFault lastPlace toValue toWeight toMany often firstOf lastOf unlikes unlikeMany isCandidate modes fewest) → va_S A s.heap H locs → mX6_run_L44 value x2 x6 n x7 = some z7 → (∀ (ls : Array Slot) (H : Heap) (locs : List Loc), lv_has ls 8 [(0, .ref (ad 0)), (2, .int x2), (3, .int x3), (4, .int x4), (5, .int x5), (6, .int x6), (7, .int z7)] → va_P D vwCl (wX6 cA ad thrown tape taped value weight many block ties lines pastValue pastWeight pastMany undos fresh newValue newWeight newMany newBlock newTies newLines hasBlock hasTies size att place sort number fault faultPlace lastFault lastPlace toValue toWeight toMany often firstOf lastOf unlikes unlikeMany isCandidate modes fewest) H → va_D A (wX6 cA ad thrown tape taped value weight many block ties lines pastValue pastWeight pastMany undos fresh newValue newWeight newMany newBlock newTies newLines hasBlock hasTies size att place sort number fault faultPlace lastFault lastPlace toValue toWeight toMany often firstOf lastOf unlikes unlikeMany isCandidate modes fewest) → va_S A s.heap H locs → W p l e (headSpec wsX6_run { frames := 1, cells := 0, slots := 0, locals := 22 }).room s m args below meth c H locs 0 0 Q (F0 m 75 ls [])) → W p l e (headSpec wsX6_run { frames := 1, cells := 0, slots := 0, locals := 22 }).room s m args below meth c H locs 0 0 Q (F0 m 44 ls []) := by
                intro n
                induction n with
                | zero => intro x2 x3 x4 x5 x6 x7 thrown tape taped value weight many block ties lines pastValue pastWeight pastMany undos fresh newValue newWeight newMany newBlock newTies newLines hasBlock hasTies size att place sort number fault faultPlace lastFault lastPlace toValue toWeight toMany often firstOf lastOf unlikes unlikeMany isCandidate modes fewest z7 ls H locs hl hP hD hS h hk44; exact e_n h
                | succ n ih44 =>
                  intro x2 x3 x4 x5 x6 x7 thrown tape taped value weight many block ties lines pastValue pastWeight pastMany undos fresh newValue newWeight newMany newBlock newTies newLines hasBlock hasTies size att place sort number fault faultPlace lastFault lastPlace toValue toWeight toMany often firstOf lastOf unlikes unlikeMany isCandidate modes fewest z7 ls H locs hl hP hD hS h hk44
                  rw [mX6_run_L44.eq_2] at h
                  refine lv_iload hx hb dX6_run_44 (lv_at hl 6 rfl) ?_
                  refine lv_iload_n hx hb dX6_run_46 rfl (lv_at hl 1 rfl) ?_
                  refine lv_icmp_ge (tgt := 75) hx hb dX6_run_47 (by decide) (fun c8 => ?_) (fun c8 => ?_)
                  · have h := e_t c8 h
                    obtain rfl := e_s h
                    exact hk44 _ _ _ (lv_sub hl [0, 1, 2, 3, 4, 5, 6] rfl) hP hD hS
                  · have h := e_f c8 h
                    refine lv_aload_n hx hb dX6_run_50 rfl (lv_at hl 0 rfl) ?_
                    refine va_get (D := D) (ci := 6) (v := .ref (ad 2)) (C := RX6) (T := TX6) (N := 42) hx hb hts iX6 hown hK hP 0 rfl rfl 3 (Nat.le_of_ble_eq_true rfl) f13 (fun _ h9 => h9) rfl dX6_run_51 ?_
                    refine lv_iload hx hb dX6_run_54 (lv_at hl 6 rfl) ?_
                    refine lv_iconst (v := 1) hx hb dX6_run_56 (by decide) ?_
                    refine lv_iadd hx hb dX6_run_57 ?_
                    obtain ⟨v9, ev9, nv9, h⟩ := e_rd h
                    refine xa_iald hx hb hK hP 2 rfl nv9 ev9 dX6_run_58 ?_
                    refine lv_aload_n hx hb dX6_run_59 rfl (lv_at hl 0 rfl) ?_
                    refine va_get (D := D) (ci := 6) (v := .ref (ad 2)) (C := RX6) (T := TX6) (N := 42) hx hb hts iX6 hown hK hP 0 rfl rfl 3 (Nat.le_of_ble_eq_true rfl) f13 (fun _ h9 => h9) rfl dX6_run_60 ?_
                    refine lv_iload hx hb dX6_run_63 (lv_at hl 5 rfl) ?_
                    obtain ⟨v10, ev10, nv10, h⟩ := e_rd h
                    refine xa_iald hx hb hK hP 2 rfl nv10 ev10 dX6_run_65 ?_
                    refine lv_icmp_ne (tgt := 75) hx hb dX6_run_66 (by decide) (fun c11 => ?_) (fun c11 => ?_)
                    · have h := e_t c11 h
                      obtain rfl := e_s h
                      exact hk44 _ _ _ (lv_sub hl [0, 1, 2, 3, 4, 5, 6] rfl) hP hD hS
                    · have h := e_f (not_not_intro c11) h
                      refine lv_iinc (v := (x7 + 1)) (lv' := [(7, .int (x7 + 1)), (0, .ref (ad 0)), (2, .int x2), (3, .int x3), (4, .int x4), (5, .int x5), (6, .int x6)]) hx hb dX6_run_69 hl (k := 6) rfl rfl (by decide) rfl (fun ls hl => ?_)
                      refine lv_goto (tgt := 44) hx hb dX6_run_72 (by decide) ?_
                      exact ih44 x2 x3 x4 x5 x6 (x7 + 1) thrown tape taped value weight many block ties lines pastValue pastWeight pastMany undos fresh newValue newWeight newMany newBlock newTies newLines hasBlock hasTies size att place sort number fault faultPlace lastFault lastPlace toValue toWeight toMany often firstOf lastOf unlikes unlikeMany isCandidate modes fewest z7 _ _ _ (lv_sub hl [1, 2, 3, 4, 5, 6, 0] rfl) hP hD hS h hk44
              obtain ⟨z12, ez12, h⟩ := e_b h
              refine hL44 FU x2 x3 x4 x5 x6 x6 thrown tape taped value weight many block ties lines pastValue pastWeight pastMany undos fresh newValue newWeight newMany newBlock newTies newLines hasBlock hasTies size att place sort number fault faultPlace lastFault lastPlace toValue toWeight toMany often firstOf lastOf unlikes unlikeMany isCandidate modes fewest z12 _ _ _ (lv_sub hl [1, 2, 3, 4, 5, 6, 0] rfl) hP hD hS ez12 (fun ls H locs hl hP hD hS => ?_)
              refine lv_iload hx hb dX6_run_75 (lv_at hl 6 rfl) ?_
              refine lv_iload hx hb dX6_run_77 (lv_at hl 5 rfl) ?_
              refine lv_isub hx hb dX6_run_79 ?_
              refine lv_iconst (v := 1) hx hb dX6_run_80 (by decide) ?_
              refine lv_iadd hx hb dX6_run_81 ?_
              refine lv_iload hx hb dX6_run_82 (lv_at hl 4 rfl) ?_
              refine lv_icmp_gt (tgt := 90) hx hb dX6_run_84 (by decide) (fun c13 => ?_) (fun c13 => ?_)
              · have h := e_t c13 h
                refine lv_iload hx hb dX6_run_90 (lv_at hl 5 rfl) ?_
                refine lv_istore (lv' := [(4, .int x6), (0, .ref (ad 0)), (2, .int x2), (3, .int x3), (5, .int x5), (6, .int x6), (7, .int z12)]) hx hb dX6_run_92 hl (by decide) rfl (fun ls hl => ?_)
                refine lv_iload hx hb dX6_run_94 (lv_at hl 6 rfl) ?_
                refine lv_iload hx hb dX6_run_96 (lv_at hl 5 rfl) ?_
                refine lv_isub hx hb dX6_run_98 ?_
                refine lv_iconst (v := 1) hx hb dX6_run_99 (by decide) ?_
                refine lv_iadd hx hb dX6_run_100 ?_
                refine lv_istore (lv' := [(5, .int ((z12 - x6) + 1)), (4, .int x6), (0, .ref (ad 0)), (2, .int x2), (3, .int x3), (6, .int x6), (7, .int z12)]) hx hb dX6_run_101 hl (by decide) rfl (fun ls hl => ?_)
                refine lv_iinc (v := (x6 + 1)) (lv' := [(6, .int (x6 + 1)), (5, .int ((z12 - x6) + 1)), (4, .int x6), (0, .ref (ad 0)), (2, .int x2), (3, .int x3), (7, .int z12)]) hx hb dX6_run_103 hl (k := 5) rfl rfl (by decide) rfl (fun ls hl => ?_)
                refine lv_goto (tgt := 34) hx hb dX6_run_106 (by decide) ?_
                exact ih34 x2 x3 x6 ((z12 - x6) + 1) (x6 + 1) thrown tape taped value weight many block ties lines pastValue pastWeight pastMany undos fresh newValue newWeight newMany newBlock newTies newLines hasBlock hasTies size att place sort number fault faultPlace lastFault lastPlace toValue toWeight toMany often firstOf lastOf unlikes unlikeMany isCandidate modes fewest z5 _ _ _ (lv_sub hl [3, 4, 5, 2, 1, 0] rfl) hP hD hS h hk34
              · have h := e_f c13 h
                refine lv_goto (tgt := 103) hx hb dX6_run_87 (by decide) ?_
                refine lv_iinc (v := (x6 + 1)) (lv' := [(6, .int (x6 + 1)), (0, .ref (ad 0)), (2, .int x2), (3, .int x3), (4, .int x4), (5, .int x5), (7, .int z12)]) hx hb dX6_run_103 hl (k := 5) rfl rfl (by decide) rfl (fun ls hl => ?_)
                refine lv_goto (tgt := 34) hx hb dX6_run_106 (by decide) ?_
                exact ih34 x2 x3 x4 x5 (x6 + 1) thrown tape taped value weight many block ties lines pastValue pastWeight pastMany undos fresh newValue newWeight newMany newBlock newTies newLines hasBlock hasTies size att place sort number fault faultPlace lastFault lastPlace toValue toWeight toMany often firstOf lastOf unlikes unlikeMany isCandidate modes fewest z5 _ _ _ (lv_sub hl [1, 2, 3, 4, 5, 0] rfl) hP hD hS h hk34
        obtain ⟨z14, ez14, h⟩ := e_b h
        refine hL34 FU x2 x3 x1 0 x1 0 tape taped value weight many block ties lines pastValue pastWeight pastMany undos fresh newValue newWeight newMany newBlock newTies newLines hasBlock hasTies size att place sort number fault faultPlace lastFault lastPlace toValue toWeight toMany often firstOf lastOf unlikes unlikeMany isCandidate modes fewest z14 _ _ _ (lv_sub hl [3, 5, 6, 2, 1, 0] rfl) hP hD hS ez14 (fun ls H locs hl hP hD hS => ?_)
        refine lv_iload_n hx hb dX6_run_109 rfl (lv_at hl 1 rfl) ?_
        refine lv_if_ne (tgt := 118) hx hb dX6_run_110 (by decide) (fun c15 => ?_) (fun c15 => ?_)
        · have h := e_t c15 h
          refine lv_iload_n hx hb dX6_run_118 rfl (lv_at hl 1 rfl) ?_
          refine lv_iconst (v := 1) hx hb dX6_run_119 (by decide) ?_
          refine lv_icmp_ne (tgt := 133) hx hb dX6_run_120 (by decide) (fun c16 => ?_) (fun c16 => ?_)
          · have h := e_t c16 h
            refine lv_aload_n hx hb dX6_run_133 rfl (lv_at hl 0 rfl) ?_
            refine va_get (D := D) (ci := 6) (v := .ref (ad 2)) (C := RX6) (T := TX6) (N := 42) hx hb hts iX6 hown hK hP 0 rfl rfl 3 (Nat.le_of_ble_eq_true rfl) f13 (fun _ h9 => h9) rfl dX6_run_134 ?_
            refine lv_iload hx hb dX6_run_137 (lv_at hl 2 rfl) ?_
            obtain ⟨v17, ev17, nv17, h⟩ := e_rd h
            refine xa_iald hx hb hK hP 2 rfl nv17 ev17 dX6_run_139 ?_
            obtain rfl := e_s h
            exact hret hP hS rfl dX6_run_140
          · have h := e_f (not_not_intro c16) h
            refine lv_iload hx hb dX6_run_123 (lv_at hl 2 rfl) ?_
            refine lv_iload hx hb dX6_run_125 (lv_at hl 3 rfl) ?_
            refine lv_iadd hx hb dX6_run_127 ?_
            refine lv_iconst (v := 1) hx hb dX6_run_128 (by decide) ?_
            refine lv_isub hx hb dX6_run_129 ?_
            refine lv_goto (tgt := 140) hx hb dX6_run_130 (by decide) ?_
            obtain rfl := e_s h
            exact hret hP hS rfl dX6_run_140
        · have h := e_f (not_not_intro c15) h
          refine lv_iload hx hb dX6_run_113 (lv_at hl 2 rfl) ?_
          refine lv_goto (tgt := 140) hx hb dX6_run_115 (by decide) ?_
          obtain rfl := e_s h
          exact hret hP hS rfl dX6_run_140
      · have h := e_f c4 h
        refine lv_iconst (v := (-1)) hx hb dX6_run_23 (by decide) ?_
        obtain rfl := e_s h
        exact hret hP hS rfl dX6_run_24
set_option maxHeartbeats 4000000 in
set_option maxRecDepth 100000 in
theorem kX6_common (l : Launch) (D : va_G) (cA : Nat → ClassId) (ad : Nat → Nat) (thrown : Int32) (tape : Nat → Int32) (taped : Int32) (value : Nat → Int32) (weight : Nat → Int32) (many : Int32) (block : Int32) (ties : Int32) (lines : Int32) (pastValue : Nat → Int32) (pastWeight : Nat → Int32) (pastMany : Nat → Int32) (undos : Int32) (fresh : Int32) (newValue : Nat → Int32) (newWeight : Nat → Int32) (newMany : Int32) (newBlock : Int32) (newTies : Int32) (newLines : Int32) (hasBlock : Int32) (hasTies : Int32) (size : Int32) (att : Int32) (place : Int32) (sort : Int32) (number : Int32) (fault : Int32) (faultPlace : Int32) (lastFault : Int32) (lastPlace : Int32) (toValue : Nat → Int32) (toWeight : Nat → Int32) (toMany : Int32) (often : Nat → Int32) (firstOf : Nat → Int32) (lastOf : Nat → Int32) (unlikes : Nat → Int32) (unlikeMany : Int32) (isCandidate : Nat → Int32) (modes : Nat → Int32) (fewest : Nat → Int32) (x1 : Int32) (x2 : Int32) (x3 : Int32) (q : Int32 × Int32 × (Nat → Int32) × (Nat → Int32) × (Nat → Int32) × (Nat → Int32) × Int32) (h : mX6_common thrown value many often firstOf lastOf unlikes unlikeMany x1 x2 x3 = some q) : MI l yX6_common wsX6_common { frames := 1, cells := 0, slots := 0, locals := 25 } D cA .int [.ref (ad 0), .int x1, .int x2, .int x3] (wX6 cA ad thrown tape taped value weight many block ties lines pastValue pastWeight pastMany undos fresh newValue newWeight newMany newBlock newTies newLines hasBlock hasTies size att place sort number fault faultPlace lastFault lastPlace toValue toWeight toMany often firstOf lastOf unlikes unlikeMany isCandidate modes fewest) (wX6 cA ad q.2.1 tape taped value weight many block ties lines pastValue pastWeight pastMany undos fresh newValue newWeight newMany newBlock newTies newLines hasBlock hasTies size att place sort number fault faultPlace lastFault lastPlace toValue toWeight toMany q.2.2.1 q.2.2.2.1 q.2.2.2.2.1 q.2.2.2.2.2.1 q.2.2.2.2.2.2 isCandidate modes fewest) q.1 := by
  refine MI.of (cc := cX6_common) (maxL := 7) (by decide +kernel) rfl rfl rfl (Nat.le_of_ble_eq_true rfl) ?_
  intro p e s m args below meth c A ls Q hx hb hml hts hown hK hP hD hA hS hl hret
  have hl : lv_has ls 7 [(0, .ref (ad 0)), (1, .int x1), (2, .int x2), (3, .int x3)] := hl
  have f175 := hts (.fieldLink RX6 175 "ModeDeskModel" "many" "I") (by decide +kernel)
  have f242 := hts (.fieldLink RX6 242 "ModeDeskModel" "unlikeMany" "I") (by decide +kernel)
  have f47 := hts (.fieldLink RX6 47 "ModeDeskModel" "often" "[I") (by decide +kernel)
  have f56 := hts (.fieldLink RX6 56 "ModeDeskModel" "unlikes" "[I") (by decide +kernel)
  have f72 := hts (.fieldLink RX6 72 "ModeDeskModel" "thrown" "I") (by decide +kernel)
  have iX6 : ∀ w ∈ wsX60, w ∈ wsX6_common := by decide +kernel
  unfold mX6_common at h
  refine lv_aload_n hx hb dX6_common_0 rfl (lv_at hl 0 rfl) ?_
  refine lv_iconst (v := 0) hx hb dX6_common_1 (by decide) ?_
  refine va_put (D := D) (ci := 6) (v := .int 0) (ty := .int) (C := RX6) (T := TX6) (N := 42) hx hb hts iX6 tyX6 tyX6_ok nmX6 hown hK hP hD hS 0 rfl rfl 0 (Nat.le_of_ble_eq_true rfl) f72 (fun _ h9 => h9) rfl (tyX6_ok 0 (Nat.le_of_ble_eq_true rfl)) rfl rfl (Nat.le_of_ble_eq_true rfl) dX6_common_2 (fun H locs hP hD hS => ?_)
  have hP : va_P D vwCl (wX6 cA ad 0 tape taped value weight many block ties lines pastValue pastWeight pastMany undos fresh newValue newWeight newMany newBlock newTies newLines hasBlock hasTies size att place sort number fault faultPlace lastFault lastPlace toValue toWeight toMany often firstOf lastOf unlikes unlikeMany isCandidate modes fewest) H := hP
  have hD : va_D A (wX6 cA ad 0 tape taped value weight many block ties lines pastValue pastWeight pastMany undos fresh newValue newWeight newMany newBlock newTies newLines hasBlock hasTies size att place sort number fault faultPlace lastFault lastPlace toValue toWeight toMany often firstOf lastOf unlikes unlikeMany isCandidate modes fewest) := hD
  refine lv_aload_n hx hb dX6_common_5 rfl (lv_at hl 0 rfl) ?_
  refine lv_iload_n hx hb dX6_common_6 rfl (lv_at hl 1 rfl) ?_
  refine lv_iload_n hx hb dX6_common_7 rfl (lv_at hl 2 rfl) ?_
  obtain ⟨q1, eq1, h⟩ := e_b h
  refine xv_i0 (As := [.int x1, .int x2]) (rest := []) (ci := 6) (b := ad 0) ⟨hx, hb, hml, hown, hts⟩ hl.1 (kX6_isSpan l D cA ad 0 tape taped value weight many block ties lines pastValue pastWeight pastMany undos fresh newValue newWeight newMany newBlock newTies newLines hasBlock hasTies size att place sort number fault faultPlace lastFault lastPlace toValue toWeight toMany often firstOf lastOf unlikes unlikeMany isCandidate modes fewest x1 x2  _ eq1) (cwV 2 hts gX6_common_X6_isSpan rfl rfl rfl (by decide +kernel) ⟨Nat.le_of_ble_eq_true rfl, Nat.le_of_ble_eq_true rfl⟩) rfl hK hP hD hS hA 0 rfl rfl rfl rfl (Nat.le_of_ble_eq_true rfl) dX6_common_8 ⟨Nat.zero_le _, Nat.zero_le _⟩ (fun H locs hP hD hS hnq1 => ?_)
  have hP : va_P D vwCl (wX6 cA ad 0 tape taped value weight many block ties lines pastValue pastWeight pastMany undos fresh newValue newWeight newMany newBlock newTies newLines hasBlock hasTies size att place sort number fault faultPlace lastFault lastPlace toValue toWeight toMany often firstOf lastOf unlikes unlikeMany isCandidate modes fewest) H := hP
  have hD : va_D A (wX6 cA ad 0 tape taped value weight many block ties lines pastValue pastWeight pastMany undos fresh newValue newWeight newMany newBlock newTies newLines hasBlock hasTies size att place sort number fault faultPlace lastFault lastPlace toValue toWeight toMany often firstOf lastOf unlikes unlikeMany isCandidate modes fewest) := hD
  refine lv_if_eq (tgt := 30) hx hb dX6_common_11 (by decide) (fun c2 => ?_) (fun c2 => ?_)
  · have h := e_t c2 h
    refine lv_iconst (v := (-1)) hx hb dX6_common_30 (by decide) ?_
    obtain rfl := e_s h
    exact hret hP hS rfl dX6_common_31
  · have h := e_f c2 h
    refine lv_iload_n hx hb dX6_common_14 rfl (lv_at hl 3 rfl) ?_
    refine lv_if_lt (tgt := 30) hx hb dX6_common_15 (by decide) (fun c3 => ?_) (fun c3 => ?_)
    · have h := e_t c3 h
      refine lv_iconst (v := (-1)) hx hb dX6_common_30 (by decide) ?_
      obtain rfl := e_s h
      exact hret hP hS rfl dX6_common_31
    · have h := e_f c3 h
      refine lv_iload_n hx hb dX6_common_18 rfl (lv_at hl 3 rfl) ?_
      refine lv_aload_n hx hb dX6_common_19 rfl (lv_at hl 0 rfl) ?_
      refine va_get (D := D) (ci := 6) (v := .int many) (C := RX6) (T := TX6) (N := 42) hx hb hts iX6 hown hK hP 0 rfl rfl 5 (Nat.le_of_ble_eq_true rfl) f175 (fun _ h9 => h9) rfl dX6_common_20 ?_
      refine lv_iload_n hx hb dX6_common_23 rfl (lv_at hl 2 rfl) ?_
      refine lv_iload_n hx hb dX6_common_24 rfl (lv_at hl 1 rfl) ?_
      refine lv_isub hx hb dX6_common_25 ?_
      refine lv_isub hx hb dX6_common_26 ?_
      refine lv_icmp_lt (tgt := 32) hx hb dX6_common_27 (by decide) (fun c4 => ?_) (fun c4 => ?_)
      · have h := e_t c4 h
        refine lv_aload_n hx hb dX6_common_32 rfl (lv_at hl 0 rfl) ?_
        refine lv_iload_n hx hb dX6_common_33 rfl (lv_at hl 1 rfl) ?_
        refine lv_iload_n hx hb dX6_common_34 rfl (lv_at hl 2 rfl) ?_
        refine lv_iconst (v := (-1)) hx hb dX6_common_35 (by decide) ?_
        obtain ⟨q5, eq5, h⟩ := e_b h
        refine xv_v0 (As := [.int x1, .int x2, .int (-1)]) (rest := []) (ci := 6) (b := ad 0) ⟨hx, hb, hml, hown, hts⟩ hl.1 (kX6_counts l D cA ad 0 tape taped value weight many block ties lines pastValue pastWeight pastMany undos fresh newValue newWeight newMany newBlock newTies newLines hasBlock hasTies size att place sort number fault faultPlace lastFault lastPlace toValue toWeight toMany often firstOf lastOf unlikes unlikeMany isCandidate modes fewest x1 x2 (-1)  _ eq5) (cwV 3 hts gX6_common_X6_counts rfl rfl rfl (by decide +kernel) ⟨Nat.le_of_ble_eq_true rfl, Nat.le_of_ble_eq_true rfl⟩) rfl hK hP hD hS hA 0 rfl rfl rfl rfl (Nat.le_of_ble_eq_true rfl) dX6_common_36 ⟨Nat.zero_le _, Nat.zero_le _⟩ (fun H locs hP hD hS => ?_)
        have hP : va_P D vwCl (wX6 cA ad 0 tape taped value weight many block ties lines pastValue pastWeight pastMany undos fresh newValue newWeight newMany newBlock newTies newLines hasBlock hasTies size att place sort number fault faultPlace lastFault lastPlace toValue toWeight toMany q5.1 q5.2.1 q5.2.2.1 q5.2.2.2.1 q5.2.2.2.2 isCandidate modes fewest) H := hP
        have hD : va_D A (wX6 cA ad 0 tape taped value weight many block ties lines pastValue pastWeight pastMany undos fresh newValue newWeight newMany newBlock newTies newLines hasBlock hasTies size att place sort number fault faultPlace lastFault lastPlace toValue toWeight toMany q5.1 q5.2.1 q5.2.2.1 q5.2.2.2.1 q5.2.2.2.2 isCandidate modes fewest) := hD
        refine lv_iconst (v := 0) hx hb dX6_common_39 (by decide) ?_
        refine lv_istore (lv' := [(4, .int 0), (0, .ref (ad 0)), (1, .int x1), (2, .int x2), (3, .int x3)]) hx hb dX6_common_40 hl (by decide) rfl (fun ls hl => ?_)
        refine lv_iconst (v := 0) hx hb dX6_common_42 (by decide) ?_
        refine lv_istore (lv' := [(5, .int 0), (4, .int 0), (0, .ref (ad 0)), (1, .int x1), (2, .int x2), (3, .int x3)]) hx hb dX6_common_43 hl (by decide) rfl (fun ls hl => ?_)
        have hL45 : ∀ (n : Nat) (x1 : Int32) (x2 : Int32) (x3 : Int32) (x4 : Int32) (x5 : Int32) (thrown : Int32) (tape : Nat → Int32) (taped : Int32) (value : Nat → Int32) (weight : Nat → Int32) (many : Int32) (block : Int32) (ties : Int32) (lines : Int32) (pastValue : Nat → Int32) (pastWeight : Nat → Int32) (pastMany : Nat → Int32) (undos : Int32) (fresh : Int32) (newValue : Nat → Int32) (newWeight : Nat → Int32) (newMany : Int32) (newBlock : Int32) (newTies : Int32) (newLines : Int32) (hasBlock : Int32) (hasTies : Int32) (size : Int32) (att : Int32) (place : Int32) (sort : Int32) (number : Int32) (fault : Int32) (faultPlace : Int32) (lastFault : Int32) (lastPlace : Int32) (toValue : Nat → Int32) (toWeight : Nat → Int32) (toMany : Int32) (often : Nat → Int32) (firstOf : Nat → Int32) (lastOf : Nat → Int32) (unlikes : Nat → Int32) (unlikeMany : Int32) (isCandidate : Nat → Int32) (modes : Nat → Int32) (fewest : Nat → Int32) (z6 : Int32) (ls : Array Slot) (H : Heap) (locs : List Loc), lv_has ls 7 [(0, .ref (ad 0)), (1, .int x1), (2, .int x2), (3, .int x3), (4, .int x4), (5, .int x5)] → va_P D vwCl (wX6 cA ad thrown tape taped value weight many block ties lines pastValue pastWeight pastMany undos fresh newValue newWeight newMany newBlock newTies newLines hasBlock hasTies size att place sort number fault faultPlace lastFault lastPlace toValue toWeight toMany often firstOf lastOf unlikes unlikeMany isCandidate modes fewest) H → va_D A (wX6 cA ad thrown tape taped value weight many block ties lines pastValue pastWeight pastMany undos fresh newValue newWeight newMany newBlock newTies newLines hasBlock hasTies size att place sort number fault faultPlace lastFault lastPlace toValue toWeight toMany often firstOf lastOf unlikes unlikeMany isCandidate modes fewest) → va_S A s.heap H locs → mX6_common_L45 value often unlikes unlikeMany x1 x2 x3 n x4 x5 = some z6 → (∀ (ls : Array Slot) (H : Heap) (locs : List Loc), lv_has ls 7 [(4, .int z6)] → va_P D vwCl (wX6 cA ad thrown tape taped value weight many block ties lines pastValue pastWeight pastMany undos fresh newValue newWeight newMany newBlock newTies newLines hasBlock hasTies size att place sort number fault faultPlace lastFault lastPlace toValue toWeight toMany often firstOf lastOf unlikes unlikeMany isCandidate modes fewest) H → va_D A (wX6 cA ad thrown tape taped value weight many block ties lines pastValue pastWeight pastMany undos fresh newValue newWeight newMany newBlock newTies newLines hasBlock hasTies size att place sort number fault faultPlace lastFault lastPlace toValue toWeight toMany often firstOf lastOf unlikes unlikeMany isCandidate modes fewest) → va_S A s.heap H locs → W p l e (headSpec wsX6_common { frames := 1, cells := 0, slots := 0, locals := 25 }).room s m args below meth c H locs 0 0 Q (F0 m 118 ls [])) → W p l e (headSpec wsX6_common { frames := 1, cells := 0, slots := 0, locals := 25 }).room s m args below meth c H locs 0 0 Q (F0 m 45 ls []) := by
          intro n
          induction n with
          | zero => intro x1 x2 x3 x4 x5 thrown tape taped value weight many block ties lines pastValue pastWeight pastMany undos fresh newValue newWeight newMany newBlock newTies newLines hasBlock hasTies size att place sort number fault faultPlace lastFault lastPlace toValue toWeight toMany often firstOf lastOf unlikes unlikeMany isCandidate modes fewest z6 ls H locs hl hP hD hS h hk45; exact e_n h
          | succ n ih45 =>
            intro x1 x2 x3 x4 x5 thrown tape taped value weight many block ties lines pastValue pastWeight pastMany undos fresh newValue newWeight newMany newBlock newTies newLines hasBlock hasTies size att place sort number fault faultPlace lastFault lastPlace toValue toWeight toMany often firstOf lastOf unlikes unlikeMany isCandidate modes fewest z6 ls H locs hl hP hD hS h hk45
            rw [mX6_common_L45.eq_2] at h
            refine lv_iload hx hb dX6_common_45 (lv_at hl 5 rfl) ?_
            refine lv_aload_n hx hb dX6_common_47 rfl (lv_at hl 0 rfl) ?_
            refine va_get (D := D) (ci := 6) (v := .int unlikeMany) (C := RX6) (T := TX6) (N := 42) hx hb hts iX6 hown hK hP 0 rfl rfl 38 (Nat.le_of_ble_eq_true rfl) f242 (fun _ h9 => h9) rfl dX6_common_48 ?_
            refine lv_icmp_ge (tgt := 118) hx hb dX6_common_51 (by decide) (fun c7 => ?_) (fun c7 => ?_)
            · have h := e_t c7 h
              obtain rfl := e_s h
              exact hk45 _ _ _ (lv_sub hl [4] rfl) hP hD hS
            · have h := e_f c7 h
              refine lv_aload_n hx hb dX6_common_54 rfl (lv_at hl 0 rfl) ?_
              refine lv_iload_n hx hb dX6_common_55 rfl (lv_at hl 3 rfl) ?_
              refine lv_iload_n hx hb dX6_common_56 rfl (lv_at hl 3 rfl) ?_
              refine lv_iload_n hx hb dX6_common_57 rfl (lv_at hl 2 rfl) ?_
              refine lv_iadd hx hb dX6_common_58 ?_
              refine lv_iload_n hx hb dX6_common_59 rfl (lv_at hl 1 rfl) ?_
              refine lv_isub hx hb dX6_common_60 ?_
              refine lv_aload_n hx hb dX6_common_61 rfl (lv_at hl 0 rfl) ?_
              refine va_get (D := D) (ci := 6) (v := .ref (ad 14)) (C := RX6) (T := TX6) (N := 42) hx hb hts iX6 hown hK hP 0 rfl rfl 37 (Nat.le_of_ble_eq_true rfl) f56 (fun _ h9 => h9) rfl dX6_common_62 ?_
              refine lv_iload hx hb dX6_common_65 (lv_at hl 5 rfl) ?_
              obtain ⟨v8, ev8, nv8, h⟩ := e_rd h
              refine xa_iald hx hb hK hP 14 rfl nv8 ev8 dX6_common_67 ?_
              obtain ⟨q9, eq9, h⟩ := e_b h
              refine xv_i0 (As := [.int x3, .int ((x3 + x2) - x1), .int v8]) (rest := []) (ci := 6) (b := ad 0) ⟨hx, hb, hml, hown, hts⟩ hl.1 (kX6_timesIn l D cA ad thrown tape taped value weight many block ties lines pastValue pastWeight pastMany undos fresh newValue newWeight newMany newBlock newTies newLines hasBlock hasTies size att place sort number fault faultPlace lastFault lastPlace toValue toWeight toMany often firstOf lastOf unlikes unlikeMany isCandidate modes fewest x3 ((x3 + x2) - x1) v8  _ eq9) (cwV 3 hts gX6_common_X6_timesIn rfl rfl rfl (by decide +kernel) ⟨Nat.le_of_ble_eq_true rfl, Nat.le_of_ble_eq_true rfl⟩) rfl hK hP hD hS hA 0 rfl rfl rfl rfl (Nat.le_of_ble_eq_true rfl) dX6_common_68 ⟨Nat.zero_le _, Nat.zero_le _⟩ (fun H locs hP hD hS hnq9 => ?_)
              have hP : va_P D vwCl (wX6 cA ad thrown tape taped value weight many block ties lines pastValue pastWeight pastMany undos fresh newValue newWeight newMany newBlock newTies newLines hasBlock hasTies size att place sort number fault faultPlace lastFault lastPlace toValue toWeight toMany often firstOf lastOf unlikes unlikeMany isCandidate modes fewest) H := hP
              have hD : va_D A (wX6 cA ad thrown tape taped value weight many block ties lines pastValue pastWeight pastMany undos fresh newValue newWeight newMany newBlock newTies newLines hasBlock hasTies size att place sort number fault faultPlace lastFault lastPlace toValue toWeight toMany often firstOf lastOf unlikes unlikeMany isCandidate modes fewest) := hD
              refine lv_istore (lv' := [(6, .int q9), (0, .ref (ad 0)), (1, .int x1), (2, .int x2), (3, .int x3), (4, .int x4), (5, .int x5)]) hx hb dX6_common_71 hl (by decide) rfl (fun ls hl => ?_)
              refine lv_iload hx hb dX6_common_73 (lv_at hl 5 rfl) ?_
              refine lv_iload hx hb dX6_common_75 (lv_at hl 0 rfl) ?_
              refine lv_aload_n hx hb dX6_common_77 rfl (lv_at hl 1 rfl) ?_
              refine va_get (D := D) (ci := 6) (v := .ref (ad 11)) (C := RX6) (T := TX6) (N := 42) hx hb hts iX6 hown hK hP 0 rfl rfl 34 (Nat.le_of_ble_eq_true rfl) f47 (fun _ h9 => h9) rfl dX6_common_78 ?_
              refine lv_aload_n hx hb dX6_common_81 rfl (lv_at hl 1 rfl) ?_
              refine va_get (D := D) (ci := 6) (v := .ref (ad 14)) (C := RX6) (T := TX6) (N := 42) hx hb hts iX6 hown hK hP 0 rfl rfl 37 (Nat.le_of_ble_eq_true rfl) f56 (fun _ h9 => h9) rfl dX6_common_82 ?_
              refine lv_iload hx hb dX6_common_85 (lv_at hl 6 rfl) ?_
              obtain ⟨v10, ev10, nv10, h⟩ := e_rd h
              refine xa_iald hx hb hK hP 14 rfl nv10 ev10 dX6_common_87 ?_
              obtain ⟨v11, ev11, nv11, h⟩ := e_rd h
              refine xa_iald hx hb hK hP 11 rfl nv11 ev11 dX6_common_88 ?_
              refine lv_icmp_ge (tgt := 97) hx hb dX6_common_89 (by decide) (fun c12 => ?_) (fun c12 => ?_)
              · have h := e_t c12 h
                refine lv_aload_n hx hb dX6_common_97 rfl (lv_at hl 1 rfl) ?_
                refine va_get (D := D) (ci := 6) (v := .ref (ad 11)) (C := RX6) (T := TX6) (N := 42) hx hb hts iX6 hown hK hP 0 rfl rfl 34 (Nat.le_of_ble_eq_true rfl) f47 (fun _ h9 => h9) rfl dX6_common_98 ?_
                refine lv_aload_n hx hb dX6_common_101 rfl (lv_at hl 1 rfl) ?_
                refine va_get (D := D) (ci := 6) (v := .ref (ad 14)) (C := RX6) (T := TX6) (N := 42) hx hb hts iX6 hown hK hP 0 rfl rfl 37 (Nat.le_of_ble_eq_true rfl) f56 (fun _ h9 => h9) rfl dX6_common_102 ?_
                refine lv_iload hx hb dX6_common_105 (lv_at hl 6 rfl) ?_
                obtain ⟨v13, ev13, nv13, h⟩ := e_rd h
                refine xa_iald hx hb hK hP 14 rfl nv13 ev13 dX6_common_107 ?_
                obtain ⟨v14, ev14, nv14, h⟩ := e_rd h
                refine xa_iald hx hb hK hP 11 rfl nv14 ev14 dX6_common_108 ?_
                refine lv_iadd hx hb dX6_common_109 ?_
                refine lv_istore (lv' := [(4, .int (x4 + v14)), (6, .int q9), (0, .ref (ad 0)), (1, .int x1), (2, .int x2), (3, .int x3), (5, .int x5)]) hx hb dX6_common_110 hl (by decide) rfl (fun ls hl => ?_)
                refine lv_iinc (v := (x5 + 1)) (lv' := [(5, .int (x5 + 1)), (4, .int (x4 + v14)), (6, .int q9), (0, .ref (ad 0)), (1, .int x1), (2, .int x2), (3, .int x3)]) hx hb dX6_common_112 hl (k := 6) rfl rfl (by decide) rfl (fun ls hl => ?_)
                refine lv_goto (tgt := 45) hx hb dX6_common_115 (by decide) ?_
                exact ih45 x1 x2 x3 (x4 + v14) (x5 + 1) thrown tape taped value weight many block ties lines pastValue pastWeight pastMany undos fresh newValue newWeight newMany newBlock newTies newLines hasBlock hasTies size att place sort number fault faultPlace lastFault lastPlace toValue toWeight toMany often firstOf lastOf unlikes unlikeMany isCandidate modes fewest z6 _ _ _ (lv_sub hl [3, 4, 5, 6, 1, 0] rfl) hP hD hS h hk45
              · have h := e_f c12 h
                refine lv_iload hx hb dX6_common_92 (lv_at hl 0 rfl) ?_
                refine lv_goto (tgt := 109) hx hb dX6_common_94 (by decide) ?_
                refine lv_iadd hx hb dX6_common_109 ?_
                refine lv_istore (lv' := [(4, .int (x4 + q9)), (6, .int q9), (0, .ref (ad 0)), (1, .int x1), (2, .int x2), (3, .int x3), (5, .int x5)]) hx hb dX6_common_110 hl (by decide) rfl (fun ls hl => ?_)
                refine lv_iinc (v := (x5 + 1)) (lv' := [(5, .int (x5 + 1)), (4, .int (x4 + q9)), (6, .int q9), (0, .ref (ad 0)), (1, .int x1), (2, .int x2), (3, .int x3)]) hx hb dX6_common_112 hl (k := 6) rfl rfl (by decide) rfl (fun ls hl => ?_)
                refine lv_goto (tgt := 45) hx hb dX6_common_115 (by decide) ?_
                exact ih45 x1 x2 x3 (x4 + q9) (x5 + 1) thrown tape taped value weight many block ties lines pastValue pastWeight pastMany undos fresh newValue newWeight newMany newBlock newTies newLines hasBlock hasTies size att place sort number fault faultPlace lastFault lastPlace toValue toWeight toMany often firstOf lastOf unlikes unlikeMany isCandidate modes fewest z6 _ _ _ (lv_sub hl [3, 4, 5, 6, 1, 0] rfl) hP hD hS h hk45
        obtain ⟨z15, ez15, h⟩ := e_b h
        refine hL45 FU x1 x2 x3 0 0 0 tape taped value weight many block ties lines pastValue pastWeight pastMany undos fresh newValue newWeight newMany newBlock newTies newLines hasBlock hasTies size att place sort number fault faultPlace lastFault lastPlace toValue toWeight toMany q5.1 q5.2.1 q5.2.2.1 q5.2.2.2.1 q5.2.2.2.2 isCandidate modes fewest z15 _ _ _ (lv_sub hl [2, 3, 4, 5, 1, 0] rfl) hP hD hS ez15 (fun ls H locs hl hP hD hS => ?_)
        refine lv_iload hx hb dX6_common_118 (lv_at hl 0 rfl) ?_
        obtain rfl := e_s h
        exact hret hP hS rfl dX6_common_120
      · have h := e_f c4 h
        refine lv_iconst (v := (-1)) hx hb dX6_common_30 (by decide) ?_
        obtain rfl := e_s h
        exact hret hP hS rfl dX6_common_31
set_option maxHeartbeats 4000000 in
set_option maxRecDepth 100000 in
theorem kX6_window (l : Launch) (D : va_G) (cA : Nat → ClassId) (ad : Nat → Nat) (thrown : Int32) (tape : Nat → Int32) (taped : Int32) (value : Nat → Int32) (weight : Nat → Int32) (many : Int32) (block : Int32) (ties : Int32) (lines : Int32) (pastValue : Nat → Int32) (pastWeight : Nat → Int32) (pastMany : Nat → Int32) (undos : Int32) (fresh : Int32) (newValue : Nat → Int32) (newWeight : Nat → Int32) (newMany : Int32) (newBlock : Int32) (newTies : Int32) (newLines : Int32) (hasBlock : Int32) (hasTies : Int32) (size : Int32) (att : Int32) (place : Int32) (sort : Int32) (number : Int32) (fault : Int32) (faultPlace : Int32) (lastFault : Int32) (lastPlace : Int32) (toValue : Nat → Int32) (toWeight : Nat → Int32) (toMany : Int32) (often : Nat → Int32) (firstOf : Nat → Int32) (lastOf : Nat → Int32) (unlikes : Nat → Int32) (unlikeMany : Int32) (isCandidate : Nat → Int32) (modes : Nat → Int32) (fewest : Nat → Int32) (x1 : Int32) (x2 : Int32) (q : Int32 × Int32 × (Nat → Int32) × (Nat → Int32) × (Nat → Int32) × (Nat → Int32) × Int32) (h : mX6_window thrown value many ties often firstOf lastOf unlikes unlikeMany x1 x2 = some q) : MI l yX6_window wsX6_window { frames := 3, cells := 0, slots := 0, locals := 68 } D cA .int [.ref (ad 0), .int x1, .int x2] (wX6 cA ad thrown tape taped value weight many block ties lines pastValue pastWeight pastMany undos fresh newValue newWeight newMany newBlock newTies newLines hasBlock hasTies size att place sort number fault faultPlace lastFault lastPlace toValue toWeight toMany often firstOf lastOf unlikes unlikeMany isCandidate modes fewest) (wX6 cA ad q.2.1 tape taped value weight many block ties lines pastValue pastWeight pastMany undos fresh newValue newWeight newMany newBlock newTies newLines hasBlock hasTies size att place sort number fault faultPlace lastFault lastPlace toValue toWeight toMany q.2.2.1 q.2.2.2.1 q.2.2.2.2.1 q.2.2.2.2.2.1 q.2.2.2.2.2.2 isCandidate modes fewest) q.1 := by
  refine MI.of (cc := cX6_window) (maxL := 3) (by decide +kernel) rfl rfl rfl (Nat.le_of_ble_eq_true rfl) ?_
  intro p e s m args below meth c A ls Q hx hb hml hts hown hK hP hD hA hS hl hret
  have hl : lv_has ls 3 [(0, .ref (ad 0)), (1, .int x1), (2, .int x2)] := hl
  have f175 := hts (.fieldLink RX6 175 "ModeDeskModel" "many" "I") (by decide +kernel)
  have f72 := hts (.fieldLink RX6 72 "ModeDeskModel" "thrown" "I") (by decide +kernel)
  have iX6 : ∀ w ∈ wsX60, w ∈ wsX6_window := by decide +kernel
  unfold mX6_window at h
  refine lv_aload_n hx hb dX6_window_0 rfl (lv_at hl 0 rfl) ?_
  refine lv_iconst (v := 0) hx hb dX6_window_1 (by decide) ?_
  refine va_put (D := D) (ci := 6) (v := .int 0) (ty := .int) (C := RX6) (T := TX6) (N := 42) hx hb hts iX6 tyX6 tyX6_ok nmX6 hown hK hP hD hS 0 rfl rfl 0 (Nat.le_of_ble_eq_true rfl) f72 (fun _ h9 => h9) rfl (tyX6_ok 0 (Nat.le_of_ble_eq_true rfl)) rfl rfl (Nat.le_of_ble_eq_true rfl) dX6_window_2 (fun H locs hP hD hS => ?_)
  have hP : va_P D vwCl (wX6 cA ad 0 tape taped value weight many block ties lines pastValue pastWeight pastMany undos fresh newValue newWeight newMany newBlock newTies newLines hasBlock hasTies size att place sort number fault faultPlace lastFault lastPlace toValue toWeight toMany often firstOf lastOf unlikes unlikeMany isCandidate modes fewest) H := hP
  have hD : va_D A (wX6 cA ad 0 tape taped value weight many block ties lines pastValue pastWeight pastMany undos fresh newValue newWeight newMany newBlock newTies newLines hasBlock hasTies size att place sort number fault faultPlace lastFault lastPlace toValue toWeight toMany often firstOf lastOf unlikes unlikeMany isCandidate modes fewest) := hD
  refine lv_iload_n hx hb dX6_window_5 rfl (lv_at hl 1 rfl) ?_
  refine lv_iconst (v := 1) hx hb dX6_window_6 (by decide) ?_
  refine lv_icmp_lt (tgt := 22) hx hb dX6_window_7 (by decide) (fun c1 => ?_) (fun c1 => ?_)
  · have h := e_t c1 h
    refine lv_iconst (v := (-1)) hx hb dX6_window_22 (by decide) ?_
    obtain rfl := e_s h
    exact hret hP hS rfl dX6_window_23
  · have h := e_f c1 h
    refine lv_iload_n hx hb dX6_window_10 rfl (lv_at hl 1 rfl) ?_
    refine lv_aload_n hx hb dX6_window_11 rfl (lv_at hl 0 rfl) ?_
    refine va_get (D := D) (ci := 6) (v := .int many) (C := RX6) (T := TX6) (N := 42) hx hb hts iX6 hown hK hP 0 rfl rfl 5 (Nat.le_of_ble_eq_true rfl) f175 (fun _ h9 => h9) rfl dX6_window_12 ?_
    refine lv_icmp_gt (tgt := 22) hx hb dX6_window_15 (by decide) (fun c2 => ?_) (fun c2 => ?_)
    · have h := e_t c2 h
      refine lv_iconst (v := (-1)) hx hb dX6_window_22 (by decide) ?_
      obtain rfl := e_s h
      exact hret hP hS rfl dX6_window_23
    · have h := e_f c2 h
      refine lv_iload_n hx hb dX6_window_18 rfl (lv_at hl 2 rfl) ?_
      refine lv_if_ge (tgt := 24) hx hb dX6_window_19 (by decide) (fun c3 => ?_) (fun c3 => ?_)
      · have h := e_t c3 h
        refine lv_iload_n hx hb dX6_window_24 rfl (lv_at hl 2 rfl) ?_
        refine lv_aload_n hx hb dX6_window_25 rfl (lv_at hl 0 rfl) ?_
        refine va_get (D := D) (ci := 6) (v := .int many) (C := RX6) (T := TX6) (N := 42) hx hb hts iX6 hown hK hP 0 rfl rfl 5 (Nat.le_of_ble_eq_true rfl) f175 (fun _ h9 => h9) rfl dX6_window_26 ?_
        refine lv_iload_n hx hb dX6_window_29 rfl (lv_at hl 1 rfl) ?_
        refine lv_isub hx hb dX6_window_30 ?_
        refine lv_icmp_le (tgt := 39) hx hb dX6_window_31 (by decide) (fun c4 => ?_) (fun c4 => ?_)
        · have h := e_t c4 h
          refine lv_aload_n hx hb dX6_window_39 rfl (lv_at hl 0 rfl) ?_
          refine lv_iload_n hx hb dX6_window_40 rfl (lv_at hl 2 rfl) ?_
          refine lv_iload_n hx hb dX6_window_41 rfl (lv_at hl 2 rfl) ?_
          refine lv_iload_n hx hb dX6_window_42 rfl (lv_at hl 1 rfl) ?_
          refine lv_iadd hx hb dX6_window_43 ?_
          refine lv_iconst (v := 1) hx hb dX6_window_44 (by decide) ?_
          refine lv_isub hx hb dX6_window_45 ?_
          obtain ⟨q5, eq5, h⟩ := e_b h
          refine xv_i0 (As := [.int x2, .int ((x2 + x1) - 1)]) (rest := []) (ci := 6) (b := ad 0) ⟨hx, hb, hml, hown, hts⟩ hl.1 (kX6_modeOf l D cA ad 0 tape taped value weight many block ties lines pastValue pastWeight pastMany undos fresh newValue newWeight newMany newBlock newTies newLines hasBlock hasTies size att place sort number fault faultPlace lastFault lastPlace toValue toWeight toMany often firstOf lastOf unlikes unlikeMany isCandidate modes fewest x2 ((x2 + x1) - 1)  _ eq5) (cwV 2 hts gX6_window_X6_modeOf rfl rfl rfl (by decide +kernel) ⟨Nat.le_of_ble_eq_true rfl, Nat.le_of_ble_eq_true rfl⟩) rfl hK hP hD hS hA 0 rfl rfl rfl rfl (Nat.le_of_ble_eq_true rfl) dX6_window_46 ⟨Nat.zero_le _, Nat.zero_le _⟩ (fun H locs hP hD hS hnq5 => ?_)
          have hP : va_P D vwCl (wX6 cA ad 0 tape taped value weight many block ties lines pastValue pastWeight pastMany undos fresh newValue newWeight newMany newBlock newTies newLines hasBlock hasTies size att place sort number fault faultPlace lastFault lastPlace toValue toWeight toMany q5.2.1 q5.2.2.1 q5.2.2.2.1 q5.2.2.2.2.1 q5.2.2.2.2.2 isCandidate modes fewest) H := hP
          have hD : va_D A (wX6 cA ad 0 tape taped value weight many block ties lines pastValue pastWeight pastMany undos fresh newValue newWeight newMany newBlock newTies newLines hasBlock hasTies size att place sort number fault faultPlace lastFault lastPlace toValue toWeight toMany q5.2.1 q5.2.2.1 q5.2.2.2.1 q5.2.2.2.2.1 q5.2.2.2.2.2 isCandidate modes fewest) := hD
          obtain rfl := e_s h
          exact hret hP hS rfl dX6_window_49
        · have h := e_f c4 h
          refine lv_bipush (v := (-2)) hx hb dX6_window_34 (by decide) ?_
          refine lv_goto (tgt := 49) hx hb dX6_window_36 (by decide) ?_
          obtain rfl := e_s h
          exact hret hP hS rfl dX6_window_49
      · have h := e_f c3 h
        refine lv_iconst (v := (-1)) hx hb dX6_window_22 (by decide) ?_
        obtain rfl := e_s h
        exact hret hP hS rfl dX6_window_23
set_option maxHeartbeats 4000000 in
set_option maxRecDepth 100000 in
theorem kX6_windows (l : Launch) (D : va_G) (cA : Nat → ClassId) (ad : Nat → Nat) (thrown : Int32) (tape : Nat → Int32) (taped : Int32) (value : Nat → Int32) (weight : Nat → Int32) (many : Int32) (block : Int32) (ties : Int32) (lines : Int32) (pastValue : Nat → Int32) (pastWeight : Nat → Int32) (pastMany : Nat → Int32) (undos : Int32) (fresh : Int32) (newValue : Nat → Int32) (newWeight : Nat → Int32) (newMany : Int32) (newBlock : Int32) (newTies : Int32) (newLines : Int32) (hasBlock : Int32) (hasTies : Int32) (size : Int32) (att : Int32) (place : Int32) (sort : Int32) (number : Int32) (fault : Int32) (faultPlace : Int32) (lastFault : Int32) (lastPlace : Int32) (toValue : Nat → Int32) (toWeight : Nat → Int32) (toMany : Int32) (often : Nat → Int32) (firstOf : Nat → Int32) (lastOf : Nat → Int32) (unlikes : Nat → Int32) (unlikeMany : Int32) (isCandidate : Nat → Int32) (modes : Nat → Int32) (fewest : Nat → Int32) (x1 : Int32) (x2 : Int32) (q : Int32 × Int32 × (Nat → Int32) × (Nat → Int32) × (Nat → Int32) × (Nat → Int32) × Int32 × (Nat → Int32)) (h : mX6_windows thrown value many ties often firstOf lastOf unlikes unlikeMany modes x1 x2 = some q) : MI l yX6_windows wsX6_windows { frames := 3, cells := 0, slots := 0, locals := 68 } D cA .int [.ref (ad 0), .int x1, .int x2] (wX6 cA ad thrown tape taped value weight many block ties lines pastValue pastWeight pastMany undos fresh newValue newWeight newMany newBlock newTies newLines hasBlock hasTies size att place sort number fault faultPlace lastFault lastPlace toValue toWeight toMany often firstOf lastOf unlikes unlikeMany isCandidate modes fewest) (wX6 cA ad q.2.1 tape taped value weight many block ties lines pastValue pastWeight pastMany undos fresh newValue newWeight newMany newBlock newTies newLines hasBlock hasTies size att place sort number fault faultPlace lastFault lastPlace toValue toWeight toMany q.2.2.1 q.2.2.2.1 q.2.2.2.2.1 q.2.2.2.2.2.1 q.2.2.2.2.2.2.1 isCandidate q.2.2.2.2.2.2.2 fewest) q.1 := by
  refine MI.of (cc := cX6_windows) (maxL := 8) (by decide +kernel) rfl rfl rfl (Nat.le_of_ble_eq_true rfl) ?_
  intro p e s m args below meth c A ls Q hx hb hml hts hown hK hP hD hA hS hl hret
  have hl : lv_has ls 8 [(0, .ref (ad 0)), (1, .int x1), (2, .int x2)] := hl
  have f175 := hts (.fieldLink RX6 175 "ModeDeskModel" "many" "I") (by decide +kernel)
  have f63 := hts (.fieldLink RX6 63 "ModeDeskModel" "modes" "[I") (by decide +kernel)
  have f72 := hts (.fieldLink RX6 72 "ModeDeskModel" "thrown" "I") (by decide +kernel)
  have iX6 : ∀ w ∈ wsX60, w ∈ wsX6_windows := by decide +kernel
  unfold mX6_windows at h
  refine lv_aload_n hx hb dX6_windows_0 rfl (lv_at hl 0 rfl) ?_
  refine lv_iconst (v := 0) hx hb dX6_windows_1 (by decide) ?_
  refine va_put (D := D) (ci := 6) (v := .int 0) (ty := .int) (C := RX6) (T := TX6) (N := 42) hx hb hts iX6 tyX6 tyX6_ok nmX6 hown hK hP hD hS 0 rfl rfl 0 (Nat.le_of_ble_eq_true rfl) f72 (fun _ h9 => h9) rfl (tyX6_ok 0 (Nat.le_of_ble_eq_true rfl)) rfl rfl (Nat.le_of_ble_eq_true rfl) dX6_windows_2 (fun H locs hP hD hS => ?_)
  have hP : va_P D vwCl (wX6 cA ad 0 tape taped value weight many block ties lines pastValue pastWeight pastMany undos fresh newValue newWeight newMany newBlock newTies newLines hasBlock hasTies size att place sort number fault faultPlace lastFault lastPlace toValue toWeight toMany often firstOf lastOf unlikes unlikeMany isCandidate modes fewest) H := hP
  have hD : va_D A (wX6 cA ad 0 tape taped value weight many block ties lines pastValue pastWeight pastMany undos fresh newValue newWeight newMany newBlock newTies newLines hasBlock hasTies size att place sort number fault faultPlace lastFault lastPlace toValue toWeight toMany often firstOf lastOf unlikes unlikeMany isCandidate modes fewest) := hD
  refine lv_iload_n hx hb dX6_windows_5 rfl (lv_at hl 1 rfl) ?_
  refine lv_iconst (v := 1) hx hb dX6_windows_6 (by decide) ?_
  refine lv_icmp_lt (tgt := 27) hx hb dX6_windows_7 (by decide) (fun c1 => ?_) (fun c1 => ?_)
  · have h := e_t c1 h
    refine lv_iconst (v := (-1)) hx hb dX6_windows_27 (by decide) ?_
    obtain rfl := e_s h
    exact hret hP hS rfl dX6_windows_28
  · have h := e_f c1 h
    refine lv_iload_n hx hb dX6_windows_10 rfl (lv_at hl 1 rfl) ?_
    refine lv_aload_n hx hb dX6_windows_11 rfl (lv_at hl 0 rfl) ?_
    refine va_get (D := D) (ci := 6) (v := .int many) (C := RX6) (T := TX6) (N := 42) hx hb hts iX6 hown hK hP 0 rfl rfl 5 (Nat.le_of_ble_eq_true rfl) f175 (fun _ h9 => h9) rfl dX6_windows_12 ?_
    refine lv_icmp_gt (tgt := 27) hx hb dX6_windows_15 (by decide) (fun c2 => ?_) (fun c2 => ?_)
    · have h := e_t c2 h
      refine lv_iconst (v := (-1)) hx hb dX6_windows_27 (by decide) ?_
      obtain rfl := e_s h
      exact hret hP hS rfl dX6_windows_28
    · have h := e_f c2 h
      refine lv_iload_n hx hb dX6_windows_18 rfl (lv_at hl 2 rfl) ?_
      refine lv_if_lt (tgt := 27) hx hb dX6_windows_19 (by decide) (fun c3 => ?_) (fun c3 => ?_)
      · have h := e_t c3 h
        refine lv_iconst (v := (-1)) hx hb dX6_windows_27 (by decide) ?_
        obtain rfl := e_s h
        exact hret hP hS rfl dX6_windows_28
      · have h := e_f c3 h
        refine lv_iload_n hx hb dX6_windows_22 rfl (lv_at hl 2 rfl) ?_
        refine lv_iconst (v := 2) hx hb dX6_windows_23 (by decide) ?_
        refine lv_icmp_le (tgt := 29) hx hb dX6_windows_24 (by decide) (fun c4 => ?_) (fun c4 => ?_)
        · have h := e_t c4 h
          refine lv_iconst (v := 0) hx hb dX6_windows_29 (by decide) ?_
          refine lv_istore_n (lv' := [(3, .int 0), (0, .ref (ad 0)), (1, .int x1), (2, .int x2)]) hx hb dX6_windows_30 rfl hl (by decide) rfl (fun ls hl => ?_)
          have hL31 : ∀ (n : Nat) (x1 : Int32) (x2 : Int32) (x3 : Int32) (thrown : Int32) (tape : Nat → Int32) (taped : Int32) (value : Nat → Int32) (weight : Nat → Int32) (many : Int32) (block : Int32) (ties : Int32) (lines : Int32) (pastValue : Nat → Int32) (pastWeight : Nat → Int32) (pastMany : Nat → Int32) (undos : Int32) (fresh : Int32) (newValue : Nat → Int32) (newWeight : Nat → Int32) (newMany : Int32) (newBlock : Int32) (newTies : Int32) (newLines : Int32) (hasBlock : Int32) (hasTies : Int32) (size : Int32) (att : Int32) (place : Int32) (sort : Int32) (number : Int32) (fault : Int32) (faultPlace : Int32) (lastFault : Int32) (lastPlace : Int32) (toValue : Nat → Int32) (toWeight : Nat → Int32) (toMany : Int32) (often : Nat → Int32) (firstOf : Nat → Int32) (lastOf : Nat → Int32) (unlikes : Nat → Int32) (unlikeMany : Int32) (isCandidate : Nat → Int32) (modes : Nat → Int32) (fewest : Nat → Int32) (z5 : (Nat → Int32)) (ls : Array Slot) (H : Heap) (locs : List Loc), lv_has ls 8 [(0, .ref (ad 0)), (1, .int x1), (2, .int x2), (3, .int x3)] → va_P D vwCl (wX6 cA ad thrown tape taped value weight many block ties lines pastValue pastWeight pastMany undos fresh newValue newWeight newMany newBlock newTies newLines hasBlock hasTies size att place sort number fault faultPlace lastFault lastPlace toValue toWeight toMany often firstOf lastOf unlikes unlikeMany isCandidate modes fewest) H → va_D A (wX6 cA ad thrown tape taped value weight many block ties lines pastValue pastWeight pastMany undos fresh newValue newWeight newMany newBlock newTies newLines hasBlock hasTies size att place sort number fault faultPlace lastFault lastPlace toValue toWeight toMany often firstOf lastOf unlikes unlikeMany isCandidate modes fewest) → va_S A s.heap H locs → mX6_windows_L31  n x3 modes = some z5 → (∀ (ls : Array Slot) (H : Heap) (locs : List Loc), lv_has ls 8 [(0, .ref (ad 0)), (1, .int x1), (2, .int x2)] → va_P D vwCl (wX6 cA ad thrown tape taped value weight many block ties lines pastValue pastWeight pastMany undos fresh newValue newWeight newMany newBlock newTies newLines hasBlock hasTies size att place sort number fault faultPlace lastFault lastPlace toValue toWeight toMany often firstOf lastOf unlikes unlikeMany isCandidate z5 fewest) H → va_D A (wX6 cA ad thrown tape taped value weight many block ties lines pastValue pastWeight pastMany undos fresh newValue newWeight newMany newBlock newTies newLines hasBlock hasTies size att place sort number fault faultPlace lastFault lastPlace toValue toWeight toMany often firstOf lastOf unlikes unlikeMany isCandidate z5 fewest) → va_S A s.heap H locs → W p l e (headSpec wsX6_windows { frames := 3, cells := 0, slots := 0, locals := 68 }).room s m args below meth c H locs 0 0 Q (F0 m 51 ls [])) → W p l e (headSpec wsX6_windows { frames := 3, cells := 0, slots := 0, locals := 68 }).room s m args below meth c H locs 0 0 Q (F0 m 31 ls []) := by
            intro n
            induction n with
            | zero => intro x1 x2 x3 thrown tape taped value weight many block ties lines pastValue pastWeight pastMany undos fresh newValue newWeight newMany newBlock newTies newLines hasBlock hasTies size att place sort number fault faultPlace lastFault lastPlace toValue toWeight toMany often firstOf lastOf unlikes unlikeMany isCandidate modes fewest z5 ls H locs hl hP hD hS h hk31; exact e_n h
            | succ n ih31 =>
              intro x1 x2 x3 thrown tape taped value weight many block ties lines pastValue pastWeight pastMany undos fresh newValue newWeight newMany newBlock newTies newLines hasBlock hasTies size att place sort number fault faultPlace lastFault lastPlace toValue toWeight toMany often firstOf lastOf unlikes unlikeMany isCandidate modes fewest z5 ls H locs hl hP hD hS h hk31
              rw [mX6_windows_L31.eq_2] at h
              refine lv_iload_n hx hb dX6_windows_31 rfl (lv_at hl 3 rfl) ?_
              refine lv_sipush (v := 1000) hx hb dX6_windows_32 (by decide) ?_
              refine lv_icmp_ge (tgt := 51) hx hb dX6_windows_35 (by decide) (fun c6 => ?_) (fun c6 => ?_)
              · have h := e_t c6 h
                obtain rfl := e_s h
                exact hk31 _ _ _ (lv_sub hl [0, 1, 2] rfl) hP hD hS
              · have h := e_f c6 h
                refine lv_aload_n hx hb dX6_windows_38 rfl (lv_at hl 0 rfl) ?_
                refine va_get (D := D) (ci := 6) (v := .ref (ad 16)) (C := RX6) (T := TX6) (N := 42) hx hb hts iX6 hown hK hP 0 rfl rfl 40 (Nat.le_of_ble_eq_true rfl) f63 (fun _ h9 => h9) rfl dX6_windows_39 ?_
                refine lv_iload_n hx hb dX6_windows_42 rfl (lv_at hl 3 rfl) ?_
                refine lv_iconst (v := 0) hx hb dX6_windows_43 (by decide) ?_
                obtain ⟨a7, ea7, na7, h⟩ := e_wr h
                refine xa_iast hx hb hK hP hD hS 16 rfl na7 ea7 dX6_windows_44 (fun H locs hP hD hS => ?_)
                have hP : va_P D vwCl (wX6 cA ad thrown tape taped value weight many block ties lines pastValue pastWeight pastMany undos fresh newValue newWeight newMany newBlock newTies newLines hasBlock hasTies size att place sort number fault faultPlace lastFault lastPlace toValue toWeight toMany often firstOf lastOf unlikes unlikeMany isCandidate a7 fewest) H := hP
                have hD : va_D A (wX6 cA ad thrown tape taped value weight many block ties lines pastValue pastWeight pastMany undos fresh newValue newWeight newMany newBlock newTies newLines hasBlock hasTies size att place sort number fault faultPlace lastFault lastPlace toValue toWeight toMany often firstOf lastOf unlikes unlikeMany isCandidate a7 fewest) := hD
                refine lv_iinc (v := (x3 + 1)) (lv' := [(3, .int (x3 + 1)), (0, .ref (ad 0)), (1, .int x1), (2, .int x2)]) hx hb dX6_windows_45 hl (k := 3) rfl rfl (by decide) rfl (fun ls hl => ?_)
                refine lv_goto (tgt := 31) hx hb dX6_windows_48 (by decide) ?_
                exact ih31 x1 x2 (x3 + 1) thrown tape taped value weight many block ties lines pastValue pastWeight pastMany undos fresh newValue newWeight newMany newBlock newTies newLines hasBlock hasTies size att place sort number fault faultPlace lastFault lastPlace toValue toWeight toMany often firstOf lastOf unlikes unlikeMany isCandidate a7 fewest z5 _ _ _ (lv_sub hl [1, 2, 3, 0] rfl) hP hD hS h hk31
          obtain ⟨z8, ez8, h⟩ := e_b h
          refine hL31 FU x1 x2 0 0 tape taped value weight many block ties lines pastValue pastWeight pastMany undos fresh newValue newWeight newMany newBlock newTies newLines hasBlock hasTies size att place sort number fault faultPlace lastFault lastPlace toValue toWeight toMany often firstOf lastOf unlikes unlikeMany isCandidate modes fewest z8 _ _ _ (lv_sub hl [1, 2, 3, 0] rfl) hP hD hS ez8 (fun ls H locs hl hP hD hS => ?_)
          refine lv_iconst (v := 0) hx hb dX6_windows_51 (by decide) ?_
          refine lv_istore_n (lv' := [(3, .int 0), (0, .ref (ad 0)), (1, .int x1), (2, .int x2)]) hx hb dX6_windows_52 rfl hl (by decide) rfl (fun ls hl => ?_)
          refine lv_iconst (v := (-1)) hx hb dX6_windows_53 (by decide) ?_
          refine lv_istore (lv' := [(4, .int (-1)), (3, .int 0), (0, .ref (ad 0)), (1, .int x1), (2, .int x2)]) hx hb dX6_windows_54 hl (by decide) rfl (fun ls hl => ?_)
          refine lv_iconst (v := 0) hx hb dX6_windows_56 (by decide) ?_
          refine lv_istore (lv' := [(5, .int 0), (4, .int (-1)), (3, .int 0), (0, .ref (ad 0)), (1, .int x1), (2, .int x2)]) hx hb dX6_windows_57 hl (by decide) rfl (fun ls hl => ?_)
          have hL59 : ∀ (n : Nat) (x1 : Int32) (x2 : Int32) (x3 : Int32) (x4 : Int32) (x5 : Int32) (thrown : Int32) (tape : Nat → Int32) (taped : Int32) (value : Nat → Int32) (weight : Nat → Int32) (many : Int32) (block : Int32) (ties : Int32) (lines : Int32) (pastValue : Nat → Int32) (pastWeight : Nat → Int32) (pastMany : Nat → Int32) (undos : Int32) (fresh : Int32) (newValue : Nat → Int32) (newWeight : Nat → Int32) (newMany : Int32) (newBlock : Int32) (newTies : Int32) (newLines : Int32) (hasBlock : Int32) (hasTies : Int32) (size : Int32) (att : Int32) (place : Int32) (sort : Int32) (number : Int32) (fault : Int32) (faultPlace : Int32) (lastFault : Int32) (lastPlace : Int32) (toValue : Nat → Int32) (toWeight : Nat → Int32) (toMany : Int32) (often : Nat → Int32) (firstOf : Nat → Int32) (lastOf : Nat → Int32) (unlikes : Nat → Int32) (unlikeMany : Int32) (isCandidate : Nat → Int32) (modes : Nat → Int32) (fewest : Nat → Int32) (z9 : Int32 × (Nat → Int32) × (Nat → Int32) × (Nat → Int32) × (Nat → Int32) × Int32 × (Nat → Int32)) (ls : Array Slot) (H : Heap) (locs : List Loc), lv_has ls 8 [(0, .ref (ad 0)), (1, .int x1), (2, .int x2), (3, .int x3), (4, .int x4), (5, .int x5)] → va_P D vwCl (wX6 cA ad thrown tape taped value weight many block ties lines pastValue pastWeight pastMany undos fresh newValue newWeight newMany newBlock newTies newLines hasBlock hasTies size att place sort number fault faultPlace lastFault lastPlace toValue toWeight toMany often firstOf lastOf unlikes unlikeMany isCandidate modes fewest) H → va_D A (wX6 cA ad thrown tape taped value weight many block ties lines pastValue pastWeight pastMany undos fresh newValue newWeight newMany newBlock newTies newLines hasBlock hasTies size att place sort number fault faultPlace lastFault lastPlace toValue toWeight toMany often firstOf lastOf unlikes unlikeMany isCandidate modes fewest) → va_S A s.heap H locs → mX6_windows_L59 value many ties x1 n x3 x4 x5 often firstOf lastOf unlikes unlikeMany modes = some z9 → (∀ (ls : Array Slot) (H : Heap) (locs : List Loc), lv_has ls 8 [(0, .ref (ad 0)), (2, .int x2), (3, .int z9.1)] → va_P D vwCl (wX6 cA ad thrown tape taped value weight many block ties lines pastValue pastWeight pastMany undos fresh newValue newWeight newMany newBlock newTies newLines hasBlock hasTies size att place sort number fault faultPlace lastFault lastPlace toValue toWeight toMany z9.2.1 z9.2.2.1 z9.2.2.2.1 z9.2.2.2.2.1 z9.2.2.2.2.2.1 isCandidate z9.2.2.2.2.2.2 fewest) H → va_D A (wX6 cA ad thrown tape taped value weight many block ties lines pastValue pastWeight pastMany undos fresh newValue newWeight newMany newBlock newTies newLines hasBlock hasTies size att place sort number fault faultPlace lastFault lastPlace toValue toWeight toMany z9.2.1 z9.2.2.1 z9.2.2.2.1 z9.2.2.2.2.1 z9.2.2.2.2.2.1 isCandidate z9.2.2.2.2.2.2 fewest) → va_S A s.heap H locs → W p l e (headSpec wsX6_windows { frames := 3, cells := 0, slots := 0, locals := 68 }).room s m args below meth c H locs 0 0 Q (F0 m 125 ls [])) → W p l e (headSpec wsX6_windows { frames := 3, cells := 0, slots := 0, locals := 68 }).room s m args below meth c H locs 0 0 Q (F0 m 59 ls []) := by
            intro n
            induction n with
            | zero => intro x1 x2 x3 x4 x5 thrown tape taped value weight many block ties lines pastValue pastWeight pastMany undos fresh newValue newWeight newMany newBlock newTies newLines hasBlock hasTies size att place sort number fault faultPlace lastFault lastPlace toValue toWeight toMany often firstOf lastOf unlikes unlikeMany isCandidate modes fewest z9 ls H locs hl hP hD hS h hk59; exact e_n h
            | succ n ih59 =>
              intro x1 x2 x3 x4 x5 thrown tape taped value weight many block ties lines pastValue pastWeight pastMany undos fresh newValue newWeight newMany newBlock newTies newLines hasBlock hasTies size att place sort number fault faultPlace lastFault lastPlace toValue toWeight toMany often firstOf lastOf unlikes unlikeMany isCandidate modes fewest z9 ls H locs hl hP hD hS h hk59
              rw [mX6_windows_L59.eq_2] at h
              refine lv_iload hx hb dX6_windows_59 (lv_at hl 5 rfl) ?_
              refine lv_iload_n hx hb dX6_windows_61 rfl (lv_at hl 1 rfl) ?_
              refine lv_iadd hx hb dX6_windows_62 ?_
              refine lv_aload_n hx hb dX6_windows_63 rfl (lv_at hl 0 rfl) ?_
              refine va_get (D := D) (ci := 6) (v := .int many) (C := RX6) (T := TX6) (N := 42) hx hb hts iX6 hown hK hP 0 rfl rfl 5 (Nat.le_of_ble_eq_true rfl) f175 (fun _ h9 => h9) rfl dX6_windows_64 ?_
              refine lv_icmp_gt (tgt := 125) hx hb dX6_windows_67 (by decide) (fun c10 => ?_) (fun c10 => ?_)
              · have h := e_t c10 h
                obtain rfl := e_s h
                exact hk59 _ _ _ (lv_sub hl [0, 2, 3] rfl) hP hD hS
              · have h := e_f c10 h
                refine lv_aload_n hx hb dX6_windows_70 rfl (lv_at hl 0 rfl) ?_
                refine lv_iload hx hb dX6_windows_71 (lv_at hl 5 rfl) ?_
                refine lv_iload hx hb dX6_windows_73 (lv_at hl 5 rfl) ?_
                refine lv_iload_n hx hb dX6_windows_75 rfl (lv_at hl 1 rfl) ?_
                refine lv_iadd hx hb dX6_windows_76 ?_
                refine lv_iconst (v := 1) hx hb dX6_windows_77 (by decide) ?_
                refine lv_isub hx hb dX6_windows_78 ?_
                obtain ⟨q11, eq11, h⟩ := e_b h
                refine xv_i0 (As := [.int x5, .int ((x5 + x1) - 1)]) (rest := []) (ci := 6) (b := ad 0) ⟨hx, hb, hml, hown, hts⟩ hl.1 (kX6_modeOf l D cA ad thrown tape taped value weight many block ties lines pastValue pastWeight pastMany undos fresh newValue newWeight newMany newBlock newTies newLines hasBlock hasTies size att place sort number fault faultPlace lastFault lastPlace toValue toWeight toMany often firstOf lastOf unlikes unlikeMany isCandidate modes fewest x5 ((x5 + x1) - 1)  _ eq11) (cwV 2 hts gX6_windows_X6_modeOf rfl rfl rfl (by decide +kernel) ⟨Nat.le_of_ble_eq_true rfl, Nat.le_of_ble_eq_true rfl⟩) rfl hK hP hD hS hA 0 rfl rfl rfl rfl (Nat.le_of_ble_eq_true rfl) dX6_windows_79 ⟨Nat.zero_le _, Nat.zero_le _⟩ (fun H locs hP hD hS hnq11 => ?_)
                have hP : va_P D vwCl (wX6 cA ad thrown tape taped value weight many block ties lines pastValue pastWeight pastMany undos fresh newValue newWeight newMany newBlock newTies newLines hasBlock hasTies size att place sort number fault faultPlace lastFault lastPlace toValue toWeight toMany q11.2.1 q11.2.2.1 q11.2.2.2.1 q11.2.2.2.2.1 q11.2.2.2.2.2 isCandidate modes fewest) H := hP
                have hD : va_D A (wX6 cA ad thrown tape taped value weight many block ties lines pastValue pastWeight pastMany undos fresh newValue newWeight newMany newBlock newTies newLines hasBlock hasTies size att place sort number fault faultPlace lastFault lastPlace toValue toWeight toMany q11.2.1 q11.2.2.1 q11.2.2.2.1 q11.2.2.2.2.1 q11.2.2.2.2.2 isCandidate modes fewest) := hD
                refine lv_istore (lv' := [(6, .int q11.1), (0, .ref (ad 0)), (1, .int x1), (2, .int x2), (3, .int x3), (4, .int x4), (5, .int x5)]) hx hb dX6_windows_82 hl (by decide) rfl (fun ls hl => ?_)
                refine lv_iload_n hx hb dX6_windows_84 rfl (lv_at hl 4 rfl) ?_
                refine lv_iload hx hb dX6_windows_85 (lv_at hl 6 rfl) ?_
                obtain ⟨z12, ez12, h⟩ := e_b h
                have hJ13 : ∀ (ls : Array Slot) (H : Heap) (locs : List Loc), lv_has ls 8 [(0, .ref (ad 0)), (1, .int x1), (2, .int x2), (5, .int x5), (6, .int q11.1)] → va_P D vwCl (wX6 cA ad thrown tape taped value weight many block ties lines pastValue pastWeight pastMany undos fresh newValue newWeight newMany newBlock newTies newLines hasBlock hasTies size att place sort number fault faultPlace lastFault lastPlace toValue toWeight toMany q11.2.1 q11.2.2.1 q11.2.2.2.1 q11.2.2.2.2.1 q11.2.2.2.2.2 isCandidate modes fewest) H → va_D A (wX6 cA ad thrown tape taped value weight many block ties lines pastValue pastWeight pastMany undos fresh newValue newWeight newMany newBlock newTies newLines hasBlock hasTies size att place sort number fault faultPlace lastFault lastPlace toValue toWeight toMany q11.2.1 q11.2.2.1 q11.2.2.2.1 q11.2.2.2.2.1 q11.2.2.2.2.2 isCandidate modes fewest) → va_S A s.heap H locs → W p l e (headSpec wsX6_windows { frames := 3, cells := 0, slots := 0, locals := 68 }).room s m args below meth c H locs 0 0 Q (F0 m 102 ls [.int z12, .int x3]) := by
                  intro ls H locs hl hP hD hS
                  refine lv_iadd hx hb dX6_windows_102 ?_
                  refine lv_istore_n (lv' := [(3, .int (x3 + z12)), (0, .ref (ad 0)), (1, .int x1), (2, .int x2), (5, .int x5), (6, .int q11.1)]) hx hb dX6_windows_103 rfl hl (by decide) rfl (fun ls hl => ?_)
                  refine lv_aload_n hx hb dX6_windows_104 rfl (lv_at hl 1 rfl) ?_
                  refine va_get (D := D) (ci := 6) (v := .ref (ad 16)) (C := RX6) (T := TX6) (N := 42) hx hb hts iX6 hown hK hP 0 rfl rfl 40 (Nat.le_of_ble_eq_true rfl) f63 (fun _ h9 => h9) rfl dX6_windows_105 ?_
                  refine lv_iload hx hb dX6_windows_108 (lv_at hl 5 rfl) ?_
                  refine lv_dup2_11 hx hb dX6_windows_110 rfl rfl ?_
                  obtain ⟨v14, ev14, nv14, h⟩ := e_rd h
                  refine xa_iald hx hb hK hP 16 rfl nv14 ev14 dX6_windows_111 ?_
                  refine lv_iconst (v := 1) hx hb dX6_windows_112 (by decide) ?_
                  refine lv_iadd hx hb dX6_windows_113 ?_
                  obtain ⟨a15, ea15, na15, h⟩ := e_wr h
                  refine xa_iast hx hb hK hP hD hS 16 rfl na15 ea15 dX6_windows_114 (fun H locs hP hD hS => ?_)
                  have hP : va_P D vwCl (wX6 cA ad thrown tape taped value weight many block ties lines pastValue pastWeight pastMany undos fresh newValue newWeight newMany newBlock newTies newLines hasBlock hasTies size att place sort number fault faultPlace lastFault lastPlace toValue toWeight toMany q11.2.1 q11.2.2.1 q11.2.2.2.1 q11.2.2.2.2.1 q11.2.2.2.2.2 isCandidate a15 fewest) H := hP
                  have hD : va_D A (wX6 cA ad thrown tape taped value weight many block ties lines pastValue pastWeight pastMany undos fresh newValue newWeight newMany newBlock newTies newLines hasBlock hasTies size att place sort number fault faultPlace lastFault lastPlace toValue toWeight toMany q11.2.1 q11.2.2.1 q11.2.2.2.1 q11.2.2.2.2.1 q11.2.2.2.2.2 isCandidate a15 fewest) := hD
                  refine lv_iload hx hb dX6_windows_115 (lv_at hl 5 rfl) ?_
                  refine lv_istore (lv' := [(4, .int q11.1), (3, .int (x3 + z12)), (0, .ref (ad 0)), (1, .int x1), (2, .int x2), (5, .int x5), (6, .int q11.1)]) hx hb dX6_windows_117 hl (by decide) rfl (fun ls hl => ?_)
                  refine lv_iinc (v := (x5 + 1)) (lv' := [(5, .int (x5 + 1)), (4, .int q11.1), (3, .int (x3 + z12)), (0, .ref (ad 0)), (1, .int x1), (2, .int x2), (6, .int q11.1)]) hx hb dX6_windows_119 hl (k := 5) rfl rfl (by decide) rfl (fun ls hl => ?_)
                  refine lv_goto (tgt := 59) hx hb dX6_windows_122 (by decide) ?_
                  exact ih59 x1 x2 (x3 + z12) q11.1 (x5 + 1) thrown tape taped value weight many block ties lines pastValue pastWeight pastMany undos fresh newValue newWeight newMany newBlock newTies newLines hasBlock hasTies size att place sort number fault faultPlace lastFault lastPlace toValue toWeight toMany q11.2.1 q11.2.2.1 q11.2.2.2.1 q11.2.2.2.2.1 q11.2.2.2.2.2 isCandidate a15 fewest z9 _ _ _ (lv_sub hl [3, 4, 5, 2, 1, 0] rfl) hP hD hS h hk59
                have h := ez12
                refine lv_if_le (tgt := 101) hx hb dX6_windows_87 (by decide) (fun c16 => ?_) (fun c16 => ?_)
                · have h := e_t c16 h
                  refine lv_iconst (v := 0) hx hb dX6_windows_101 (by decide) ?_
                  obtain rfl := e_s h
                  exact hJ13 _ _ _ (lv_sub hl [1, 2, 3, 6, 0] rfl) hP hD hS
                · have h := e_f c16 h
                  refine lv_iload hx hb dX6_windows_90 (lv_at hl 0 rfl) ?_
                  refine lv_iload hx hb dX6_windows_92 (lv_at hl 5 rfl) ?_
                  refine lv_icmp_eq (tgt := 101) hx hb dX6_windows_94 (by decide) (fun c17 => ?_) (fun c17 => ?_)
                  · have h := e_t c17 h
                    refine lv_iconst (v := 0) hx hb dX6_windows_101 (by decide) ?_
                    obtain rfl := e_s h
                    exact hJ13 _ _ _ (lv_sub hl [1, 2, 3, 6, 0] rfl) hP hD hS
                  · have h := e_f c17 h
                    refine lv_iconst (v := 1) hx hb dX6_windows_97 (by decide) ?_
                    refine lv_goto (tgt := 102) hx hb dX6_windows_98 (by decide) ?_
                    obtain rfl := e_s h
                    exact hJ13 _ _ _ (lv_sub hl [1, 2, 3, 6, 0] rfl) hP hD hS
          obtain ⟨z18, ez18, h⟩ := e_b h
          refine hL59 FU x1 x2 0 (-1) 0 0 tape taped value weight many block ties lines pastValue pastWeight pastMany undos fresh newValue newWeight newMany newBlock newTies newLines hasBlock hasTies size att place sort number fault faultPlace lastFault lastPlace toValue toWeight toMany often firstOf lastOf unlikes unlikeMany isCandidate z8 fewest z18 _ _ _ (lv_sub hl [3, 4, 5, 2, 1, 0] rfl) hP hD hS ez18 (fun ls H locs hl hP hD hS => ?_)
          refine lv_iconst (v := 0) hx hb dX6_windows_125 (by decide) ?_
          refine lv_istore (lv' := [(5, .int 0), (0, .ref (ad 0)), (2, .int x2), (3, .int z18.1)]) hx hb dX6_windows_126 hl (by decide) rfl (fun ls hl => ?_)
          refine lv_iconst (v := (-1)) hx hb dX6_windows_128 (by decide) ?_
          refine lv_istore (lv' := [(6, .int (-1)), (5, .int 0), (0, .ref (ad 0)), (2, .int x2), (3, .int z18.1)]) hx hb dX6_windows_129 hl (by decide) rfl (fun ls hl => ?_)
          refine lv_iconst (v := 0) hx hb dX6_windows_131 (by decide) ?_
          refine lv_istore (lv' := [(7, .int 0), (6, .int (-1)), (5, .int 0), (0, .ref (ad 0)), (2, .int x2), (3, .int z18.1)]) hx hb dX6_windows_132 hl (by decide) rfl (fun ls hl => ?_)
          have hL134 : ∀ (n : Nat) (x2 : Int32) (x3 : Int32) (x5 : Int32) (x6 : Int32) (x7 : Int32) (thrown : Int32) (tape : Nat → Int32) (taped : Int32) (value : Nat → Int32) (weight : Nat → Int32) (many : Int32) (block : Int32) (ties : Int32) (lines : Int32) (pastValue : Nat → Int32) (pastWeight : Nat → Int32) (pastMany : Nat → Int32) (undos : Int32) (fresh : Int32) (newValue : Nat → Int32) (newWeight : Nat → Int32) (newMany : Int32) (newBlock : Int32) (newTies : Int32) (newLines : Int32) (hasBlock : Int32) (hasTies : Int32) (size : Int32) (att : Int32) (place : Int32) (sort : Int32) (number : Int32) (fault : Int32) (faultPlace : Int32) (lastFault : Int32) (lastPlace : Int32) (toValue : Nat → Int32) (toWeight : Nat → Int32) (toMany : Int32) (often : Nat → Int32) (firstOf : Nat → Int32) (lastOf : Nat → Int32) (unlikes : Nat → Int32) (unlikeMany : Int32) (isCandidate : Nat → Int32) (modes : Nat → Int32) (fewest : Nat → Int32) (z19 : Int32 × Int32) (ls : Array Slot) (H : Heap) (locs : List Loc), lv_has ls 8 [(0, .ref (ad 0)), (2, .int x2), (3, .int x3), (5, .int x5), (6, .int x6), (7, .int x7)] → va_P D vwCl (wX6 cA ad thrown tape taped value weight many block ties lines pastValue pastWeight pastMany undos fresh newValue newWeight newMany newBlock newTies newLines hasBlock hasTies size att place sort number fault faultPlace lastFault lastPlace toValue toWeight toMany often firstOf lastOf unlikes unlikeMany isCandidate modes fewest) H → va_D A (wX6 cA ad thrown tape taped value weight many block ties lines pastValue pastWeight pastMany undos fresh newValue newWeight newMany newBlock newTies newLines hasBlock hasTies size att place sort number fault faultPlace lastFault lastPlace toValue toWeight toMany often firstOf lastOf unlikes unlikeMany isCandidate modes fewest) → va_S A s.heap H locs → mX6_windows_L134 modes n x5 x6 x7 = some z19 → (∀ (ls : Array Slot) (H : Heap) (locs : List Loc), lv_has ls 8 [(2, .int x2), (3, .int x3), (5, .int z19.1), (6, .int z19.2)] → va_P D vwCl (wX6 cA ad thrown tape taped value weight many block ties lines pastValue pastWeight pastMany undos fresh newValue newWeight newMany newBlock newTies newLines hasBlock hasTies size att place sort number fault faultPlace lastFault lastPlace toValue toWeight toMany often firstOf lastOf unlikes unlikeMany isCandidate modes fewest) H → va_D A (wX6 cA ad thrown tape taped value weight many block ties lines pastValue pastWeight pastMany undos fresh newValue newWeight newMany newBlock newTies newLines hasBlock hasTies size att place sort number fault faultPlace lastFault lastPlace toValue toWeight toMany often firstOf lastOf unlikes unlikeMany isCandidate modes fewest) → va_S A s.heap H locs → W p l e (headSpec wsX6_windows { frames := 3, cells := 0, slots := 0, locals := 68 }).room s m args below meth c H locs 0 0 Q (F0 m 199 ls [])) → W p l e (headSpec wsX6_windows { frames := 3, cells := 0, slots := 0, locals := 68 }).room s m args below meth c H locs 0 0 Q (F0 m 134 ls []) := by
            intro n
            induction n with
            | zero => intro x2 x3 x5 x6 x7 thrown tape taped value weight many block ties lines pastValue pastWeight pastMany undos fresh newValue newWeight newMany newBlock newTies newLines hasBlock hasTies size att place sort number fault faultPlace lastFault lastPlace toValue toWeight toMany often firstOf lastOf unlikes unlikeMany isCandidate modes fewest z19 ls H locs hl hP hD hS h hk134; exact e_n h
            | succ n ih134 =>
              intro x2 x3 x5 x6 x7 thrown tape taped value weight many block ties lines pastValue pastWeight pastMany undos fresh newValue newWeight newMany newBlock newTies newLines hasBlock hasTies size att place sort number fault faultPlace lastFault lastPlace toValue toWeight toMany often firstOf lastOf unlikes unlikeMany isCandidate modes fewest z19 ls H locs hl hP hD hS h hk134
              rw [mX6_windows_L134.eq_2] at h
              refine lv_iload hx hb dX6_windows_134 (lv_at hl 5 rfl) ?_
              refine lv_sipush (v := 1000) hx hb dX6_windows_136 (by decide) ?_
              refine lv_icmp_ge (tgt := 199) hx hb dX6_windows_139 (by decide) (fun c20 => ?_) (fun c20 => ?_)
              · have h := e_t c20 h
                obtain rfl := e_s h
                exact hk134 _ _ _ (lv_sub hl [1, 2, 3, 4] rfl) hP hD hS
              · have h := e_f c20 h
                refine lv_iload hx hb dX6_windows_142 (lv_at hl 3 rfl) ?_
                refine lv_aload_n hx hb dX6_windows_144 rfl (lv_at hl 0 rfl) ?_
                refine va_get (D := D) (ci := 6) (v := .ref (ad 16)) (C := RX6) (T := TX6) (N := 42) hx hb hts iX6 hown hK hP 0 rfl rfl 40 (Nat.le_of_ble_eq_true rfl) f63 (fun _ h9 => h9) rfl dX6_windows_145 ?_
                refine lv_iload hx hb dX6_windows_148 (lv_at hl 5 rfl) ?_
                obtain ⟨v21, ev21, nv21, h⟩ := e_rd h
                refine xa_iald hx hb hK hP 16 rfl nv21 ev21 dX6_windows_150 ?_
                obtain ⟨z22, ez22, h⟩ := e_b h
                have hJ23 : ∀ (ls : Array Slot) (H : Heap) (locs : List Loc), lv_has ls 8 [(0, .ref (ad 0)), (2, .int x2), (3, .int x3), (6, .int x6), (7, .int x7)] → va_P D vwCl (wX6 cA ad thrown tape taped value weight many block ties lines pastValue pastWeight pastMany undos fresh newValue newWeight newMany newBlock newTies newLines hasBlock hasTies size att place sort number fault faultPlace lastFault lastPlace toValue toWeight toMany often firstOf lastOf unlikes unlikeMany isCandidate modes fewest) H → va_D A (wX6 cA ad thrown tape taped value weight many block ties lines pastValue pastWeight pastMany undos fresh newValue newWeight newMany newBlock newTies newLines hasBlock hasTies size att place sort number fault faultPlace lastFault lastPlace toValue toWeight toMany often firstOf lastOf unlikes unlikeMany isCandidate modes fewest) → va_S A s.heap H locs → W p l e (headSpec wsX6_windows { frames := 3, cells := 0, slots := 0, locals := 68 }).room s m args below meth c H locs 0 0 Q (F0 m 159 ls [.int z22, .int x5]) := by
                  intro ls H locs hl hP hD hS
                  refine lv_iadd hx hb dX6_windows_159 ?_
                  refine lv_istore (lv' := [(5, .int (x5 + z22)), (0, .ref (ad 0)), (2, .int x2), (3, .int x3), (6, .int x6), (7, .int x7)]) hx hb dX6_windows_160 hl (by decide) rfl (fun ls hl => ?_)
                  refine lv_aload_n hx hb dX6_windows_162 rfl (lv_at hl 1 rfl) ?_
                  refine va_get (D := D) (ci := 6) (v := .ref (ad 16)) (C := RX6) (T := TX6) (N := 42) hx hb hts iX6 hown hK hP 0 rfl rfl 40 (Nat.le_of_ble_eq_true rfl) f63 (fun _ h9 => h9) rfl dX6_windows_163 ?_
                  refine lv_iload hx hb dX6_windows_166 (lv_at hl 5 rfl) ?_
                  obtain ⟨v24, ev24, nv24, h⟩ := e_rd h
                  refine xa_iald hx hb hK hP 16 rfl nv24 ev24 dX6_windows_168 ?_
                  refine lv_iload hx hb dX6_windows_169 (lv_at hl 4 rfl) ?_
                  refine lv_iconst (v := (-1)) hx hb dX6_windows_171 (by decide) ?_
                  refine lv_icmp_ne (tgt := 179) hx hb dX6_windows_172 (by decide) (fun c25 => ?_) (fun c25 => ?_)
                  · have h := e_t c25 h
                    refine lv_aload_n hx hb dX6_windows_179 rfl (lv_at hl 1 rfl) ?_
                    refine va_get (D := D) (ci := 6) (v := .ref (ad 16)) (C := RX6) (T := TX6) (N := 42) hx hb hts iX6 hown hK hP 0 rfl rfl 40 (Nat.le_of_ble_eq_true rfl) f63 (fun _ h9 => h9) rfl dX6_windows_180 ?_
                    refine lv_iload hx hb dX6_windows_183 (lv_at hl 4 rfl) ?_
                    obtain ⟨v26, ev26, nv26, h⟩ := e_rd h
                    refine xa_iald hx hb hK hP 16 rfl nv26 ev26 dX6_windows_185 ?_
                    refine lv_icmp_le (tgt := 193) hx hb dX6_windows_186 (by decide) (fun c27 => ?_) (fun c27 => ?_)
                    · have h := e_t c27 h
                      refine lv_iinc (v := (x7 + 1)) (lv' := [(7, .int (x7 + 1)), (5, .int (x5 + z22)), (0, .ref (ad 0)), (2, .int x2), (3, .int x3), (6, .int x6)]) hx hb dX6_windows_193 hl (k := 5) rfl rfl (by decide) rfl (fun ls hl => ?_)
                      refine lv_goto (tgt := 134) hx hb dX6_windows_196 (by decide) ?_
                      exact ih134 x2 x3 (x5 + z22) x6 (x7 + 1) thrown tape taped value weight many block ties lines pastValue pastWeight pastMany undos fresh newValue newWeight newMany newBlock newTies newLines hasBlock hasTies size att place sort number fault faultPlace lastFault lastPlace toValue toWeight toMany often firstOf lastOf unlikes unlikeMany isCandidate modes fewest z19 _ _ _ (lv_sub hl [2, 3, 4, 1, 5, 0] rfl) hP hD hS h hk134
                    · have h := e_f c27 h
                      refine lv_iload hx hb dX6_windows_189 (lv_at hl 5 rfl) ?_
                      refine lv_istore (lv' := [(6, .int x7), (5, .int (x5 + z22)), (0, .ref (ad 0)), (2, .int x2), (3, .int x3), (7, .int x7)]) hx hb dX6_windows_191 hl (by decide) rfl (fun ls hl => ?_)
                      refine lv_iinc (v := (x7 + 1)) (lv' := [(7, .int (x7 + 1)), (6, .int x7), (5, .int (x5 + z22)), (0, .ref (ad 0)), (2, .int x2), (3, .int x3)]) hx hb dX6_windows_193 hl (k := 5) rfl rfl (by decide) rfl (fun ls hl => ?_)
                      refine lv_goto (tgt := 134) hx hb dX6_windows_196 (by decide) ?_
                      exact ih134 x2 x3 (x5 + z22) x7 (x7 + 1) thrown tape taped value weight many block ties lines pastValue pastWeight pastMany undos fresh newValue newWeight newMany newBlock newTies newLines hasBlock hasTies size att place sort number fault faultPlace lastFault lastPlace toValue toWeight toMany often firstOf lastOf unlikes unlikeMany isCandidate modes fewest z19 _ _ _ (lv_sub hl [3, 4, 5, 2, 1, 0] rfl) hP hD hS h hk134
                  · have h := e_f (not_not_intro c25) h
                    refine lv_iconst (v := 0) hx hb dX6_windows_175 (by decide) ?_
                    refine lv_goto (tgt := 186) hx hb dX6_windows_176 (by decide) ?_
                    refine lv_icmp_le (tgt := 193) hx hb dX6_windows_186 (by decide) (fun c28 => ?_) (fun c28 => ?_)
                    · have h := e_t c28 h
                      refine lv_iinc (v := (x7 + 1)) (lv' := [(7, .int (x7 + 1)), (5, .int (x5 + z22)), (0, .ref (ad 0)), (2, .int x2), (3, .int x3), (6, .int x6)]) hx hb dX6_windows_193 hl (k := 5) rfl rfl (by decide) rfl (fun ls hl => ?_)
                      refine lv_goto (tgt := 134) hx hb dX6_windows_196 (by decide) ?_
                      exact ih134 x2 x3 (x5 + z22) x6 (x7 + 1) thrown tape taped value weight many block ties lines pastValue pastWeight pastMany undos fresh newValue newWeight newMany newBlock newTies newLines hasBlock hasTies size att place sort number fault faultPlace lastFault lastPlace toValue toWeight toMany often firstOf lastOf unlikes unlikeMany isCandidate modes fewest z19 _ _ _ (lv_sub hl [2, 3, 4, 1, 5, 0] rfl) hP hD hS h hk134
                    · have h := e_f c28 h
                      refine lv_iload hx hb dX6_windows_189 (lv_at hl 5 rfl) ?_
                      refine lv_istore (lv' := [(6, .int x7), (5, .int (x5 + z22)), (0, .ref (ad 0)), (2, .int x2), (3, .int x3), (7, .int x7)]) hx hb dX6_windows_191 hl (by decide) rfl (fun ls hl => ?_)
                      refine lv_iinc (v := (x7 + 1)) (lv' := [(7, .int (x7 + 1)), (6, .int x7), (5, .int (x5 + z22)), (0, .ref (ad 0)), (2, .int x2), (3, .int x3)]) hx hb dX6_windows_193 hl (k := 5) rfl rfl (by decide) rfl (fun ls hl => ?_)
                      refine lv_goto (tgt := 134) hx hb dX6_windows_196 (by decide) ?_
                      exact ih134 x2 x3 (x5 + z22) x7 (x7 + 1) thrown tape taped value weight many block ties lines pastValue pastWeight pastMany undos fresh newValue newWeight newMany newBlock newTies newLines hasBlock hasTies size att place sort number fault faultPlace lastFault lastPlace toValue toWeight toMany often firstOf lastOf unlikes unlikeMany isCandidate modes fewest z19 _ _ _ (lv_sub hl [3, 4, 5, 2, 1, 0] rfl) hP hD hS h hk134
                have h := ez22
                refine lv_if_le (tgt := 158) hx hb dX6_windows_151 (by decide) (fun c29 => ?_) (fun c29 => ?_)
                · have h := e_t c29 h
                  refine lv_iconst (v := 0) hx hb dX6_windows_158 (by decide) ?_
                  obtain rfl := e_s h
                  exact hJ23 _ _ _ (lv_sub hl [0, 1, 2, 4, 5] rfl) hP hD hS
                · have h := e_f c29 h
                  refine lv_iconst (v := 1) hx hb dX6_windows_154 (by decide) ?_
                  refine lv_goto (tgt := 159) hx hb dX6_windows_155 (by decide) ?_
                  obtain rfl := e_s h
                  exact hJ23 _ _ _ (lv_sub hl [0, 1, 2, 4, 5] rfl) hP hD hS
          obtain ⟨z30, ez30, h⟩ := e_b h
          refine hL134 FU x2 z18.1 0 (-1) 0 0 tape taped value weight many block ties lines pastValue pastWeight pastMany undos fresh newValue newWeight newMany newBlock newTies newLines hasBlock hasTies size att place sort number fault faultPlace lastFault lastPlace toValue toWeight toMany z18.2.1 z18.2.2.1 z18.2.2.2.1 z18.2.2.2.2.1 z18.2.2.2.2.2.1 isCandidate z18.2.2.2.2.2.2 fewest z30 _ _ _ (lv_sub hl [3, 4, 5, 2, 1, 0] rfl) hP hD hS ez30 (fun ls H locs hl hP hD hS => ?_)
          refine lv_iload_n hx hb dX6_windows_199 rfl (lv_at hl 0 rfl) ?_
          refine lv_if_ne (tgt := 207) hx hb dX6_windows_200 (by decide) (fun c31 => ?_) (fun c31 => ?_)
          · have h := e_t c31 h
            refine lv_iload_n hx hb dX6_windows_207 rfl (lv_at hl 0 rfl) ?_
            refine lv_iconst (v := 1) hx hb dX6_windows_208 (by decide) ?_
            refine lv_icmp_ne (tgt := 217) hx hb dX6_windows_209 (by decide) (fun c32 => ?_) (fun c32 => ?_)
            · have h := e_t c32 h
              refine lv_iload hx hb dX6_windows_217 (lv_at hl 3 rfl) ?_
              obtain rfl := e_s h
              exact hret hP hS rfl dX6_windows_219
            · have h := e_f (not_not_intro c32) h
              refine lv_iload hx hb dX6_windows_212 (lv_at hl 2 rfl) ?_
              refine lv_goto (tgt := 219) hx hb dX6_windows_214 (by decide) ?_
              obtain rfl := e_s h
              exact hret hP hS rfl dX6_windows_219
          · have h := e_f (not_not_intro c31) h
            refine lv_iload_n hx hb dX6_windows_203 rfl (lv_at hl 1 rfl) ?_
            refine lv_goto (tgt := 219) hx hb dX6_windows_204 (by decide) ?_
            obtain rfl := e_s h
            exact hret hP hS rfl dX6_windows_219
        · have h := e_f c4 h
          refine lv_iconst (v := (-1)) hx hb dX6_windows_27 (by decide) ?_
          obtain rfl := e_s h
          exact hret hP hS rfl dX6_windows_28
set_option maxHeartbeats 4000000 in
set_option maxRecDepth 100000 in
theorem kX6_stands (l : Launch) (D : va_G) (cA : Nat → ClassId) (ad : Nat → Nat) (thrown : Int32) (tape : Nat → Int32) (taped : Int32) (value : Nat → Int32) (weight : Nat → Int32) (many : Int32) (block : Int32) (ties : Int32) (lines : Int32) (pastValue : Nat → Int32) (pastWeight : Nat → Int32) (pastMany : Nat → Int32) (undos : Int32) (fresh : Int32) (newValue : Nat → Int32) (newWeight : Nat → Int32) (newMany : Int32) (newBlock : Int32) (newTies : Int32) (newLines : Int32) (hasBlock : Int32) (hasTies : Int32) (size : Int32) (att : Int32) (place : Int32) (sort : Int32) (number : Int32) (fault : Int32) (faultPlace : Int32) (lastFault : Int32) (lastPlace : Int32) (toValue : Nat → Int32) (toWeight : Nat → Int32) (toMany : Int32) (often : Nat → Int32) (firstOf : Nat → Int32) (lastOf : Nat → Int32) (unlikes : Nat → Int32) (unlikeMany : Int32) (isCandidate : Nat → Int32) (modes : Nat → Int32) (fewest : Nat → Int32) (x1 : Int32) (x2 : Int32) (q : (Nat → Int32) × (Nat → Int32) × (Nat → Int32) × (Nat → Int32) × Int32) (h : mX6_stands often firstOf lastOf unlikes unlikeMany x1 x2 = some q) : MV l yX6_stands wsX6_stands { frames := 0, cells := 0, slots := 0, locals := 0 } D cA [.ref (ad 0), .int x1, .int x2] (wX6 cA ad thrown tape taped value weight many block ties lines pastValue pastWeight pastMany undos fresh newValue newWeight newMany newBlock newTies newLines hasBlock hasTies size att place sort number fault faultPlace lastFault lastPlace toValue toWeight toMany often firstOf lastOf unlikes unlikeMany isCandidate modes fewest) (wX6 cA ad thrown tape taped value weight many block ties lines pastValue pastWeight pastMany undos fresh newValue newWeight newMany newBlock newTies newLines hasBlock hasTies size att place sort number fault faultPlace lastFault lastPlace toValue toWeight toMany q.1 q.2.1 q.2.2.1 q.2.2.2.1 q.2.2.2.2 isCandidate modes fewest) := by
  refine MV.of (cc := cX6_stands) (maxL := 3) (by decide) rfl rfl rfl (Nat.le_of_ble_eq_true rfl) ?_
  intro p e s m args below meth c A ls Q hx hb hml hts hown hK hP hD hA hS hl hret
  have hl : lv_has ls 3 [(0, .ref (ad 0)), (1, .int x1), (2, .int x2)] := hl
  have f242 := hts (.fieldLink RX6 242 "ModeDeskModel" "unlikeMany" "I") (by decide +kernel)
  have f47 := hts (.fieldLink RX6 47 "ModeDeskModel" "often" "[I") (by decide +kernel)
  have f50 := hts (.fieldLink RX6 50 "ModeDeskModel" "firstOf" "[I") (by decide +kernel)
  have f53 := hts (.fieldLink RX6 53 "ModeDeskModel" "lastOf" "[I") (by decide +kernel)
  have f56 := hts (.fieldLink RX6 56 "ModeDeskModel" "unlikes" "[I") (by decide +kernel)
  have iX6 : ∀ w ∈ wsX60, w ∈ wsX6_stands := by decide +kernel
  unfold mX6_stands at h
  refine lv_aload_n hx hb dX6_stands_0 rfl (lv_at hl 0 rfl) ?_
  refine va_get (D := D) (ci := 6) (v := .ref (ad 11)) (C := RX6) (T := TX6) (N := 42) hx hb hts iX6 hown hK hP 0 rfl rfl 34 (Nat.le_of_ble_eq_true rfl) f47 (fun _ h9 => h9) rfl dX6_stands_1 ?_
  refine lv_iload_n hx hb dX6_stands_4 rfl (lv_at hl 1 rfl) ?_
  obtain ⟨v1, ev1, nv1, h⟩ := e_rd h
  refine xa_iald hx hb hK hP 11 rfl nv1 ev1 dX6_stands_5 ?_
  obtain ⟨z2, ez2, h⟩ := e_b h
  have hJ3 : ∀ (ls : Array Slot) (H : Heap) (locs : List Loc), lv_has ls 3 [(0, .ref (ad 0)), (1, .int x1), (2, .int x2)] → va_P D vwCl (wX6 cA ad thrown tape taped value weight many block ties lines pastValue pastWeight pastMany undos fresh newValue newWeight newMany newBlock newTies newLines hasBlock hasTies size att place sort number fault faultPlace lastFault lastPlace toValue toWeight toMany often z2.1 lastOf z2.2.1 z2.2.2 isCandidate modes fewest) H → va_D A (wX6 cA ad thrown tape taped value weight many block ties lines pastValue pastWeight pastMany undos fresh newValue newWeight newMany newBlock newTies newLines hasBlock hasTies size att place sort number fault faultPlace lastFault lastPlace toValue toWeight toMany often z2.1 lastOf z2.2.1 z2.2.2 isCandidate modes fewest) → va_S A s.heap H locs → W p l e (headSpec wsX6_stands { frames := 0, cells := 0, slots := 0, locals := 0 }).room s m args below meth c H locs 0 0 Q (F0 m 36 ls []) := by
    intro ls H locs hl hP hD hS
    refine lv_aload_n hx hb dX6_stands_36 rfl (lv_at hl 0 rfl) ?_
    refine va_get (D := D) (ci := 6) (v := .ref (ad 13)) (C := RX6) (T := TX6) (N := 42) hx hb hts iX6 hown hK hP 0 rfl rfl 36 (Nat.le_of_ble_eq_true rfl) f53 (fun _ h9 => h9) rfl dX6_stands_37 ?_
    refine lv_iload_n hx hb dX6_stands_40 rfl (lv_at hl 1 rfl) ?_
    refine lv_iload_n hx hb dX6_stands_41 rfl (lv_at hl 2 rfl) ?_
    obtain ⟨a4, ea4, na4, h⟩ := e_wr h
    refine xa_iast hx hb hK hP hD hS 13 rfl na4 ea4 dX6_stands_42 (fun H locs hP hD hS => ?_)
    have hP : va_P D vwCl (wX6 cA ad thrown tape taped value weight many block ties lines pastValue pastWeight pastMany undos fresh newValue newWeight newMany newBlock newTies newLines hasBlock hasTies size att place sort number fault faultPlace lastFault lastPlace toValue toWeight toMany often z2.1 a4 z2.2.1 z2.2.2 isCandidate modes fewest) H := hP
    have hD : va_D A (wX6 cA ad thrown tape taped value weight many block ties lines pastValue pastWeight pastMany undos fresh newValue newWeight newMany newBlock newTies newLines hasBlock hasTies size att place sort number fault faultPlace lastFault lastPlace toValue toWeight toMany often z2.1 a4 z2.2.1 z2.2.2 isCandidate modes fewest) := hD
    refine lv_aload_n hx hb dX6_stands_43 rfl (lv_at hl 0 rfl) ?_
    refine va_get (D := D) (ci := 6) (v := .ref (ad 11)) (C := RX6) (T := TX6) (N := 42) hx hb hts iX6 hown hK hP 0 rfl rfl 34 (Nat.le_of_ble_eq_true rfl) f47 (fun _ h9 => h9) rfl dX6_stands_44 ?_
    refine lv_iload_n hx hb dX6_stands_47 rfl (lv_at hl 1 rfl) ?_
    refine lv_dup2_11 hx hb dX6_stands_48 rfl rfl ?_
    obtain ⟨v5, ev5, nv5, h⟩ := e_rd h
    refine xa_iald hx hb hK hP 11 rfl nv5 ev5 dX6_stands_49 ?_
    refine lv_iconst (v := 1) hx hb dX6_stands_50 (by decide) ?_
    refine lv_iadd hx hb dX6_stands_51 ?_
    obtain ⟨a6, ea6, na6, h⟩ := e_wr h
    refine xa_iast hx hb hK hP hD hS 11 rfl na6 ea6 dX6_stands_52 (fun H locs hP hD hS => ?_)
    have hP : va_P D vwCl (wX6 cA ad thrown tape taped value weight many block ties lines pastValue pastWeight pastMany undos fresh newValue newWeight newMany newBlock newTies newLines hasBlock hasTies size att place sort number fault faultPlace lastFault lastPlace toValue toWeight toMany a6 z2.1 a4 z2.2.1 z2.2.2 isCandidate modes fewest) H := hP
    have hD : va_D A (wX6 cA ad thrown tape taped value weight many block ties lines pastValue pastWeight pastMany undos fresh newValue newWeight newMany newBlock newTies newLines hasBlock hasTies size att place sort number fault faultPlace lastFault lastPlace toValue toWeight toMany a6 z2.1 a4 z2.2.1 z2.2.2 isCandidate modes fewest) := hD
    obtain rfl := e_s h
    exact hret hP hS dX6_stands_53
  have h := ez2
  refine lv_if_ne (tgt := 36) hx hb dX6_stands_6 (by decide) (fun c7 => ?_) (fun c7 => ?_)
  · have h := e_t c7 h
    obtain rfl := e_s h
    exact hJ3 _ _ _ (lv_sub hl [0, 1, 2] rfl) hP hD hS
  · have h := e_f (not_not_intro c7) h
    refine lv_aload_n hx hb dX6_stands_9 rfl (lv_at hl 0 rfl) ?_
    refine va_get (D := D) (ci := 6) (v := .ref (ad 12)) (C := RX6) (T := TX6) (N := 42) hx hb hts iX6 hown hK hP 0 rfl rfl 35 (Nat.le_of_ble_eq_true rfl) f50 (fun _ h9 => h9) rfl dX6_stands_10 ?_
    refine lv_iload_n hx hb dX6_stands_13 rfl (lv_at hl 1 rfl) ?_
    refine lv_iload_n hx hb dX6_stands_14 rfl (lv_at hl 2 rfl) ?_
    obtain ⟨a8, ea8, na8, h⟩ := e_wr h
    refine xa_iast hx hb hK hP hD hS 12 rfl na8 ea8 dX6_stands_15 (fun H locs hP hD hS => ?_)
    have hP : va_P D vwCl (wX6 cA ad thrown tape taped value weight many block ties lines pastValue pastWeight pastMany undos fresh newValue newWeight newMany newBlock newTies newLines hasBlock hasTies size att place sort number fault faultPlace lastFault lastPlace toValue toWeight toMany often a8 lastOf unlikes unlikeMany isCandidate modes fewest) H := hP
    have hD : va_D A (wX6 cA ad thrown tape taped value weight many block ties lines pastValue pastWeight pastMany undos fresh newValue newWeight newMany newBlock newTies newLines hasBlock hasTies size att place sort number fault faultPlace lastFault lastPlace toValue toWeight toMany often a8 lastOf unlikes unlikeMany isCandidate modes fewest) := hD
    refine lv_aload_n hx hb dX6_stands_16 rfl (lv_at hl 0 rfl) ?_
    refine va_get (D := D) (ci := 6) (v := .ref (ad 14)) (C := RX6) (T := TX6) (N := 42) hx hb hts iX6 hown hK hP 0 rfl rfl 37 (Nat.le_of_ble_eq_true rfl) f56 (fun _ h9 => h9) rfl dX6_stands_17 ?_
    refine lv_aload_n hx hb dX6_stands_20 rfl (lv_at hl 0 rfl) ?_
    refine va_get (D := D) (ci := 6) (v := .int unlikeMany) (C := RX6) (T := TX6) (N := 42) hx hb hts iX6 hown hK hP 0 rfl rfl 38 (Nat.le_of_ble_eq_true rfl) f242 (fun _ h9 => h9) rfl dX6_stands_21 ?_
    refine lv_iload_n hx hb dX6_stands_24 rfl (lv_at hl 1 rfl) ?_
    obtain ⟨a9, ea9, na9, h⟩ := e_wr h
    refine xa_iast hx hb hK hP hD hS 14 rfl na9 ea9 dX6_stands_25 (fun H locs hP hD hS => ?_)
    have hP : va_P D vwCl (wX6 cA ad thrown tape taped value weight many block ties lines pastValue pastWeight pastMany undos fresh newValue newWeight newMany newBlock newTies newLines hasBlock hasTies size att place sort number fault faultPlace lastFault lastPlace toValue toWeight toMany often a8 lastOf a9 unlikeMany isCandidate modes fewest) H := hP
    have hD : va_D A (wX6 cA ad thrown tape taped value weight many block ties lines pastValue pastWeight pastMany undos fresh newValue newWeight newMany newBlock newTies newLines hasBlock hasTies size att place sort number fault faultPlace lastFault lastPlace toValue toWeight toMany often a8 lastOf a9 unlikeMany isCandidate modes fewest) := hD
    refine lv_aload_n hx hb dX6_stands_26 rfl (lv_at hl 0 rfl) ?_
    refine lv_dup hx hb dX6_stands_27 rfl ?_
    refine va_get (D := D) (ci := 6) (v := .int unlikeMany) (C := RX6) (T := TX6) (N := 42) hx hb hts iX6 hown hK hP 0 rfl rfl 38 (Nat.le_of_ble_eq_true rfl) f242 (fun _ h9 => h9) rfl dX6_stands_28 ?_
    refine lv_iconst (v := 1) hx hb dX6_stands_31 (by decide) ?_
    refine lv_iadd hx hb dX6_stands_32 ?_
    refine va_put (D := D) (ci := 6) (v := .int (unlikeMany + 1)) (ty := .int) (C := RX6) (T := TX6) (N := 42) hx hb hts iX6 tyX6 tyX6_ok nmX6 hown hK hP hD hS 0 rfl rfl 38 (Nat.le_of_ble_eq_true rfl) f242 (fun _ h9 => h9) rfl (tyX6_ok 38 (Nat.le_of_ble_eq_true rfl)) rfl rfl (Nat.le_of_ble_eq_true rfl) dX6_stands_33 (fun H locs hP hD hS => ?_)
    have hP : va_P D vwCl (wX6 cA ad thrown tape taped value weight many block ties lines pastValue pastWeight pastMany undos fresh newValue newWeight newMany newBlock newTies newLines hasBlock hasTies size att place sort number fault faultPlace lastFault lastPlace toValue toWeight toMany often a8 lastOf a9 (unlikeMany + 1) isCandidate modes fewest) H := hP
    have hD : va_D A (wX6 cA ad thrown tape taped value weight many block ties lines pastValue pastWeight pastMany undos fresh newValue newWeight newMany newBlock newTies newLines hasBlock hasTies size att place sort number fault faultPlace lastFault lastPlace toValue toWeight toMany often a8 lastOf a9 (unlikeMany + 1) isCandidate modes fewest) := hD
    obtain rfl := e_s h
    exact hJ3 _ _ _ (lv_sub hl [0, 1, 2] rfl) hP hD hS
set_option maxHeartbeats 4000000 in
set_option maxRecDepth 100000 in
theorem kX6_longer (l : Launch) (D : va_G) (cA : Nat → ClassId) (ad : Nat → Nat) (thrown : Int32) (tape : Nat → Int32) (taped : Int32) (value : Nat → Int32) (weight : Nat → Int32) (many : Int32) (block : Int32) (ties : Int32) (lines : Int32) (pastValue : Nat → Int32) (pastWeight : Nat → Int32) (pastMany : Nat → Int32) (undos : Int32) (fresh : Int32) (newValue : Nat → Int32) (newWeight : Nat → Int32) (newMany : Int32) (newBlock : Int32) (newTies : Int32) (newLines : Int32) (hasBlock : Int32) (hasTies : Int32) (size : Int32) (att : Int32) (place : Int32) (sort : Int32) (number : Int32) (fault : Int32) (faultPlace : Int32) (lastFault : Int32) (lastPlace : Int32) (toValue : Nat → Int32) (toWeight : Nat → Int32) (toMany : Int32) (often : Nat → Int32) (firstOf : Nat → Int32) (lastOf : Nat → Int32) (unlikes : Nat → Int32) (unlikeMany : Int32) (isCandidate : Nat → Int32) (modes : Nat → Int32) (fewest : Nat → Int32) (x1 : Int32) (x2 : Int32) (q : Int32 × (Nat → Int32) × (Nat → Int32) × (Nat → Int32) × (Nat → Int32) × Int32) (h : mX6_longer value ties often firstOf lastOf unlikes unlikeMany x1 x2 = some q) : MI l yX6_longer wsX6_longer { frames := 2, cells := 0, slots := 0, locals := 46 } D cA .int [.ref (ad 0), .int x1, .int x2] (wX6 cA ad thrown tape taped value weight many block ties lines pastValue pastWeight pastMany undos fresh newValue newWeight newMany newBlock newTies newLines hasBlock hasTies size att place sort number fault faultPlace lastFault lastPlace toValue toWeight toMany often firstOf lastOf unlikes unlikeMany isCandidate modes fewest) (wX6 cA ad thrown tape taped value weight many block ties lines pastValue pastWeight pastMany undos fresh newValue newWeight newMany newBlock newTies newLines hasBlock hasTies size att place sort number fault faultPlace lastFault lastPlace toValue toWeight toMany q.2.1 q.2.2.1 q.2.2.2.1 q.2.2.2.2.1 q.2.2.2.2.2 isCandidate modes fewest) q.1 := by
  refine MI.of (cc := cX6_longer) (maxL := 3) (by decide +kernel) rfl rfl rfl (Nat.le_of_ble_eq_true rfl) ?_
  intro p e s m args below meth c A ls Q hx hb hml hts hown hK hP hD hA hS hl hret
  have hl : lv_has ls 3 [(0, .ref (ad 0)), (1, .int x1), (2, .int x2)] := hl
  have f13 := hts (.fieldLink RX6 13 "ModeDeskModel" "value" "[I") (by decide +kernel)
  have f178 := hts (.fieldLink RX6 178 "ModeDeskModel" "ties" "I") (by decide +kernel)
  have iX6 : ∀ w ∈ wsX60, w ∈ wsX6_longer := by decide +kernel
  unfold mX6_longer at h
  refine lv_iload_n hx hb dX6_longer_0 rfl (lv_at hl 1 rfl) ?_
  refine lv_iload_n hx hb dX6_longer_1 rfl (lv_at hl 2 rfl) ?_
  obtain ⟨z1, ez1, h⟩ := e_b h
  have hJ2 : ∀ (ls : Array Slot) (H : Heap) (locs : List Loc), lv_has ls 3 [(0, .ref (ad 0))] → va_P D vwCl (wX6 cA ad thrown tape taped value weight many block ties lines pastValue pastWeight pastMany undos fresh newValue newWeight newMany newBlock newTies newLines hasBlock hasTies size att place sort number fault faultPlace lastFault lastPlace toValue toWeight toMany z1.1 z1.2.1 z1.2.2.1 z1.2.2.2.1 z1.2.2.2.2 isCandidate modes fewest) H → va_D A (wX6 cA ad thrown tape taped value weight many block ties lines pastValue pastWeight pastMany undos fresh newValue newWeight newMany newBlock newTies newLines hasBlock hasTies size att place sort number fault faultPlace lastFault lastPlace toValue toWeight toMany z1.1 z1.2.1 z1.2.2.1 z1.2.2.2.1 z1.2.2.2.2 isCandidate modes fewest) → va_S A s.heap H locs → W p l e (headSpec wsX6_longer { frames := 2, cells := 0, slots := 0, locals := 46 }).room s m args below meth c H locs 0 0 Q (F0 m 26 ls []) := by
    intro ls H locs hl hP hD hS
    refine lv_aload_n hx hb dX6_longer_26 rfl (lv_at hl 0 rfl) ?_
    refine lv_aload_n hx hb dX6_longer_27 rfl (lv_at hl 0 rfl) ?_
    refine va_get (D := D) (ci := 6) (v := .int ties) (C := RX6) (T := TX6) (N := 42) hx hb hts iX6 hown hK hP 0 rfl rfl 7 (Nat.le_of_ble_eq_true rfl) f178 (fun _ h9 => h9) rfl dX6_longer_28 ?_
    obtain ⟨q3, eq3, h⟩ := e_b h
    refine xv_i0 (As := [.int ties]) (rest := []) (ci := 6) (b := ad 0) ⟨hx, hb, hml, hown, hts⟩ hl.1 (kX6_modeBy l D cA ad thrown tape taped value weight many block ties lines pastValue pastWeight pastMany undos fresh newValue newWeight newMany newBlock newTies newLines hasBlock hasTies size att place sort number fault faultPlace lastFault lastPlace toValue toWeight toMany z1.1 z1.2.1 z1.2.2.1 z1.2.2.2.1 z1.2.2.2.2 isCandidate modes fewest ties  _ eq3) (cwV 1 hts gX6_longer_X6_modeBy rfl rfl rfl (by decide +kernel) ⟨Nat.le_of_ble_eq_true rfl, Nat.le_of_ble_eq_true rfl⟩) rfl hK hP hD hS hA 0 rfl rfl rfl rfl (Nat.le_of_ble_eq_true rfl) dX6_longer_31 ⟨Nat.zero_le _, Nat.zero_le _⟩ (fun H locs hP hD hS hnq3 => ?_)
    have hP : va_P D vwCl (wX6 cA ad thrown tape taped value weight many block ties lines pastValue pastWeight pastMany undos fresh newValue newWeight newMany newBlock newTies newLines hasBlock hasTies size att place sort number fault faultPlace lastFault lastPlace toValue toWeight toMany z1.1 z1.2.1 z1.2.2.1 z1.2.2.2.1 z1.2.2.2.2 isCandidate modes fewest) H := hP
    have hD : va_D A (wX6 cA ad thrown tape taped value weight many block ties lines pastValue pastWeight pastMany undos fresh newValue newWeight newMany newBlock newTies newLines hasBlock hasTies size att place sort number fault faultPlace lastFault lastPlace toValue toWeight toMany z1.1 z1.2.1 z1.2.2.1 z1.2.2.2.1 z1.2.2.2.2 isCandidate modes fewest) := hD
    obtain rfl := e_s h
    exact hret hP hS rfl dX6_longer_34
  have h := ez1
  refine lv_icmp_ne (tgt := 15) hx hb dX6_longer_2 (by decide) (fun c4 => ?_) (fun c4 => ?_)
  · have h := e_t c4 h
    refine lv_aload_n hx hb dX6_longer_15 rfl (lv_at hl 0 rfl) ?_
    refine lv_aload_n hx hb dX6_longer_16 rfl (lv_at hl 0 rfl) ?_
    refine va_get (D := D) (ci := 6) (v := .ref (ad 2)) (C := RX6) (T := TX6) (N := 42) hx hb hts iX6 hown hK hP 0 rfl rfl 3 (Nat.le_of_ble_eq_true rfl) f13 (fun _ h9 => h9) rfl dX6_longer_17 ?_
    refine lv_iload_n hx hb dX6_longer_20 rfl (lv_at hl 2 rfl) ?_
    obtain ⟨v5, ev5, nv5, h⟩ := e_rd h
    refine xa_iald hx hb hK hP 2 rfl nv5 ev5 dX6_longer_21 ?_
    refine lv_iload_n hx hb dX6_longer_22 rfl (lv_at hl 2 rfl) ?_
    obtain ⟨q6, eq6, h⟩ := e_b h
    refine xv_v0 (As := [.int v5, .int x2]) (rest := []) (ci := 6) (b := ad 0) ⟨hx, hb, hml, hown, hts⟩ hl.1 (kX6_stands l D cA ad thrown tape taped value weight many block ties lines pastValue pastWeight pastMany undos fresh newValue newWeight newMany newBlock newTies newLines hasBlock hasTies size att place sort number fault faultPlace lastFault lastPlace toValue toWeight toMany often firstOf lastOf unlikes unlikeMany isCandidate modes fewest v5 x2  _ eq6) (cwV 2 hts gX6_longer_X6_stands rfl rfl rfl (by decide +kernel) ⟨Nat.le_of_ble_eq_true rfl, Nat.le_of_ble_eq_true rfl⟩) rfl hK hP hD hS hA 0 rfl rfl rfl rfl (Nat.le_of_ble_eq_true rfl) dX6_longer_23 ⟨Nat.zero_le _, Nat.zero_le _⟩ (fun H locs hP hD hS => ?_)
    have hP : va_P D vwCl (wX6 cA ad thrown tape taped value weight many block ties lines pastValue pastWeight pastMany undos fresh newValue newWeight newMany newBlock newTies newLines hasBlock hasTies size att place sort number fault faultPlace lastFault lastPlace toValue toWeight toMany q6.1 q6.2.1 q6.2.2.1 q6.2.2.2.1 q6.2.2.2.2 isCandidate modes fewest) H := hP
    have hD : va_D A (wX6 cA ad thrown tape taped value weight many block ties lines pastValue pastWeight pastMany undos fresh newValue newWeight newMany newBlock newTies newLines hasBlock hasTies size att place sort number fault faultPlace lastFault lastPlace toValue toWeight toMany q6.1 q6.2.1 q6.2.2.1 q6.2.2.2.1 q6.2.2.2.2 isCandidate modes fewest) := hD
    obtain rfl := e_s h
    exact hJ2 _ _ _ (lv_sub hl [0] rfl) hP hD hS
  · have h := e_f (not_not_intro c4) h
    refine lv_aload_n hx hb dX6_longer_5 rfl (lv_at hl 0 rfl) ?_
    refine lv_iload_n hx hb dX6_longer_6 rfl (lv_at hl 1 rfl) ?_
    refine lv_iload_n hx hb dX6_longer_7 rfl (lv_at hl 2 rfl) ?_
    refine lv_iconst (v := (-1)) hx hb dX6_longer_8 (by decide) ?_
    obtain ⟨q7, eq7, h⟩ := e_b h
    refine xv_v0 (As := [.int x1, .int x2, .int (-1)]) (rest := []) (ci := 6) (b := ad 0) ⟨hx, hb, hml, hown, hts⟩ hl.1 (kX6_counts l D cA ad thrown tape taped value weight many block ties lines pastValue pastWeight pastMany undos fresh newValue newWeight newMany newBlock newTies newLines hasBlock hasTies size att place sort number fault faultPlace lastFault lastPlace toValue toWeight toMany often firstOf lastOf unlikes unlikeMany isCandidate modes fewest x1 x2 (-1)  _ eq7) (cwV 3 hts gX6_longer_X6_counts rfl rfl rfl (by decide +kernel) ⟨Nat.le_of_ble_eq_true rfl, Nat.le_of_ble_eq_true rfl⟩) rfl hK hP hD hS hA 0 rfl rfl rfl rfl (Nat.le_of_ble_eq_true rfl) dX6_longer_9 ⟨Nat.zero_le _, Nat.zero_le _⟩ (fun H locs hP hD hS => ?_)
    have hP : va_P D vwCl (wX6 cA ad thrown tape taped value weight many block ties lines pastValue pastWeight pastMany undos fresh newValue newWeight newMany newBlock newTies newLines hasBlock hasTies size att place sort number fault faultPlace lastFault lastPlace toValue toWeight toMany q7.1 q7.2.1 q7.2.2.1 q7.2.2.2.1 q7.2.2.2.2 isCandidate modes fewest) H := hP
    have hD : va_D A (wX6 cA ad thrown tape taped value weight many block ties lines pastValue pastWeight pastMany undos fresh newValue newWeight newMany newBlock newTies newLines hasBlock hasTies size att place sort number fault faultPlace lastFault lastPlace toValue toWeight toMany q7.1 q7.2.1 q7.2.2.1 q7.2.2.2.1 q7.2.2.2.2 isCandidate modes fewest) := hD
    refine lv_goto (tgt := 26) hx hb dX6_longer_12 (by decide) ?_
    obtain rfl := e_s h
    exact hJ2 _ _ _ (lv_sub hl [0] rfl) hP hD hS
set_option maxHeartbeats 4000000 in
set_option maxRecDepth 100000 in
theorem kX6_spans (l : Launch) (D : va_G) (cA : Nat → ClassId) (ad : Nat → Nat) (thrown : Int32) (tape : Nat → Int32) (taped : Int32) (value : Nat → Int32) (weight : Nat → Int32) (many : Int32) (block : Int32) (ties : Int32) (lines : Int32) (pastValue : Nat → Int32) (pastWeight : Nat → Int32) (pastMany : Nat → Int32) (undos : Int32) (fresh : Int32) (newValue : Nat → Int32) (newWeight : Nat → Int32) (newMany : Int32) (newBlock : Int32) (newTies : Int32) (newLines : Int32) (hasBlock : Int32) (hasTies : Int32) (size : Int32) (att : Int32) (place : Int32) (sort : Int32) (number : Int32) (fault : Int32) (faultPlace : Int32) (lastFault : Int32) (lastPlace : Int32) (toValue : Nat → Int32) (toWeight : Nat → Int32) (toMany : Int32) (often : Nat → Int32) (firstOf : Nat → Int32) (lastOf : Nat → Int32) (unlikes : Nat → Int32) (unlikeMany : Int32) (isCandidate : Nat → Int32) (modes : Nat → Int32) (fewest : Nat → Int32) (x1 : Int32) (q : Int32 × Int32 × (Nat → Int32) × (Nat → Int32) × (Nat → Int32) × (Nat → Int32) × Int32) (h : mX6_spans thrown value many ties often firstOf lastOf unlikes unlikeMany x1 = some q) : MI l yX6_spans wsX6_spans { frames := 3, cells := 0, slots := 0, locals := 68 } D cA .int [.ref (ad 0), .int x1] (wX6 cA ad thrown tape taped value weight many block ties lines pastValue pastWeight pastMany undos fresh newValue newWeight newMany newBlock newTies newLines hasBlock hasTies size att place sort number fault faultPlace lastFault lastPlace toValue toWeight toMany often firstOf lastOf unlikes unlikeMany isCandidate modes fewest) (wX6 cA ad q.2.1 tape taped value weight many block ties lines pastValue pastWeight pastMany undos fresh newValue newWeight newMany newBlock newTies newLines hasBlock hasTies size att place sort number fault faultPlace lastFault lastPlace toValue toWeight toMany q.2.2.1 q.2.2.2.1 q.2.2.2.2.1 q.2.2.2.2.2.1 q.2.2.2.2.2.2 isCandidate modes fewest) q.1 := by
  refine MI.of (cc := cX6_spans) (maxL := 5) (by decide +kernel) rfl rfl rfl (Nat.le_of_ble_eq_true rfl) ?_
  intro p e s m args below meth c A ls Q hx hb hml hts hown hK hP hD hA hS hl hret
  have hl : lv_has ls 5 [(0, .ref (ad 0)), (1, .int x1)] := hl
  have f175 := hts (.fieldLink RX6 175 "ModeDeskModel" "many" "I") (by decide +kernel)
  have f72 := hts (.fieldLink RX6 72 "ModeDeskModel" "thrown" "I") (by decide +kernel)
  have iX6 : ∀ w ∈ wsX60, w ∈ wsX6_spans := by decide +kernel
  unfold mX6_spans at h
  refine lv_aload_n hx hb dX6_spans_0 rfl (lv_at hl 0 rfl) ?_
  refine lv_iconst (v := 0) hx hb dX6_spans_1 (by decide) ?_
  refine va_put (D := D) (ci := 6) (v := .int 0) (ty := .int) (C := RX6) (T := TX6) (N := 42) hx hb hts iX6 tyX6 tyX6_ok nmX6 hown hK hP hD hS 0 rfl rfl 0 (Nat.le_of_ble_eq_true rfl) f72 (fun _ h9 => h9) rfl (tyX6_ok 0 (Nat.le_of_ble_eq_true rfl)) rfl rfl (Nat.le_of_ble_eq_true rfl) dX6_spans_2 (fun H locs hP hD hS => ?_)
  have hP : va_P D vwCl (wX6 cA ad 0 tape taped value weight many block ties lines pastValue pastWeight pastMany undos fresh newValue newWeight newMany newBlock newTies newLines hasBlock hasTies size att place sort number fault faultPlace lastFault lastPlace toValue toWeight toMany often firstOf lastOf unlikes unlikeMany isCandidate modes fewest) H := hP
  have hD : va_D A (wX6 cA ad 0 tape taped value weight many block ties lines pastValue pastWeight pastMany undos fresh newValue newWeight newMany newBlock newTies newLines hasBlock hasTies size att place sort number fault faultPlace lastFault lastPlace toValue toWeight toMany often firstOf lastOf unlikes unlikeMany isCandidate modes fewest) := hD
  refine lv_iload_n hx hb dX6_spans_5 rfl (lv_at hl 1 rfl) ?_
  obtain ⟨q1, eq1, h⟩ := e_b h
  refine xs_i (As := [.int x1]) (rest := []) ⟨hx, hb, hml, hown, hts⟩ hl.1 (kX6_isValue l D cA   x1  _ eq1) (va_cwS 1 hts gX6_spans_X6_isValue rfl rfl rfl (by decide +kernel) ⟨Nat.le_of_ble_eq_true rfl, Nat.le_of_ble_eq_true rfl⟩) rfl hK hP hD hS hA [] rfl (by decide +kernel) rfl (Nat.le_of_ble_eq_true rfl) dX6_spans_6 ⟨Nat.zero_le _, Nat.zero_le _⟩ (fun H locs hP hD hS hnq1 => ?_)
  have hP : va_P D vwCl (wX6 cA ad 0 tape taped value weight many block ties lines pastValue pastWeight pastMany undos fresh newValue newWeight newMany newBlock newTies newLines hasBlock hasTies size att place sort number fault faultPlace lastFault lastPlace toValue toWeight toMany often firstOf lastOf unlikes unlikeMany isCandidate modes fewest) H := hP
  have hD : va_D A (wX6 cA ad 0 tape taped value weight many block ties lines pastValue pastWeight pastMany undos fresh newValue newWeight newMany newBlock newTies newLines hasBlock hasTies size att place sort number fault faultPlace lastFault lastPlace toValue toWeight toMany often firstOf lastOf unlikes unlikeMany isCandidate modes fewest) := hD
  refine lv_if_ne (tgt := 14) hx hb dX6_spans_9 (by decide) (fun c2 => ?_) (fun c2 => ?_)
  · have h := e_t c2 h
    refine lv_iconst (v := 0) hx hb dX6_spans_14 (by decide) ?_
    refine lv_istore_n (lv' := [(2, .int 0), (0, .ref (ad 0)), (1, .int x1)]) hx hb dX6_spans_15 rfl hl (by decide) rfl (fun ls hl => ?_)
    refine lv_iconst (v := 0) hx hb dX6_spans_16 (by decide) ?_
    refine lv_istore_n (lv' := [(3, .int 0), (2, .int 0), (0, .ref (ad 0)), (1, .int x1)]) hx hb dX6_spans_17 rfl hl (by decide) rfl (fun ls hl => ?_)
    have hL18 : ∀ (n : Nat) (x1 : Int32) (x2 : Int32) (x3 : Int32) (thrown : Int32) (tape : Nat → Int32) (taped : Int32) (value : Nat → Int32) (weight : Nat → Int32) (many : Int32) (block : Int32) (ties : Int32) (lines : Int32) (pastValue : Nat → Int32) (pastWeight : Nat → Int32) (pastMany : Nat → Int32) (undos : Int32) (fresh : Int32) (newValue : Nat → Int32) (newWeight : Nat → Int32) (newMany : Int32) (newBlock : Int32) (newTies : Int32) (newLines : Int32) (hasBlock : Int32) (hasTies : Int32) (size : Int32) (att : Int32) (place : Int32) (sort : Int32) (number : Int32) (fault : Int32) (faultPlace : Int32) (lastFault : Int32) (lastPlace : Int32) (toValue : Nat → Int32) (toWeight : Nat → Int32) (toMany : Int32) (often : Nat → Int32) (firstOf : Nat → Int32) (lastOf : Nat → Int32) (unlikes : Nat → Int32) (unlikeMany : Int32) (isCandidate : Nat → Int32) (modes : Nat → Int32) (fewest : Nat → Int32) (z3 : Int32 × (Nat → Int32) × (Nat → Int32) × (Nat → Int32) × (Nat → Int32) × Int32) (ls : Array Slot) (H : Heap) (locs : List Loc), lv_has ls 5 [(0, .ref (ad 0)), (1, .int x1), (2, .int x2), (3, .int x3)] → va_P D vwCl (wX6 cA ad thrown tape taped value weight many block ties lines pastValue pastWeight pastMany undos fresh newValue newWeight newMany newBlock newTies newLines hasBlock hasTies size att place sort number fault faultPlace lastFault lastPlace toValue toWeight toMany often firstOf lastOf unlikes unlikeMany isCandidate modes fewest) H → va_D A (wX6 cA ad thrown tape taped value weight many block ties lines pastValue pastWeight pastMany undos fresh newValue newWeight newMany newBlock newTies newLines hasBlock hasTies size att place sort number fault faultPlace lastFault lastPlace toValue toWeight toMany often firstOf lastOf unlikes unlikeMany isCandidate modes fewest) → va_S A s.heap H locs → mX6_spans_L18 value many ties x1 n x2 x3 often firstOf lastOf unlikes unlikeMany = some z3 → (∀ (ls : Array Slot) (H : Heap) (locs : List Loc), lv_has ls 5 [(2, .int z3.1)] → va_P D vwCl (wX6 cA ad thrown tape taped value weight many block ties lines pastValue pastWeight pastMany undos fresh newValue newWeight newMany newBlock newTies newLines hasBlock hasTies size att place sort number fault faultPlace lastFault lastPlace toValue toWeight toMany z3.2.1 z3.2.2.1 z3.2.2.2.1 z3.2.2.2.2.1 z3.2.2.2.2.2 isCandidate modes fewest) H → va_D A (wX6 cA ad thrown tape taped value weight many block ties lines pastValue pastWeight pastMany undos fresh newValue newWeight newMany newBlock newTies newLines hasBlock hasTies size att place sort number fault faultPlace lastFault lastPlace toValue toWeight toMany z3.2.1 z3.2.2.1 z3.2.2.2.1 z3.2.2.2.2.1 z3.2.2.2.2.2 isCandidate modes fewest) → va_S A s.heap H locs → W p l e (headSpec wsX6_spans { frames := 3, cells := 0, slots := 0, locals := 68 }).room s m args below meth c H locs 0 0 Q (F0 m 69 ls [])) → W p l e (headSpec wsX6_spans { frames := 3, cells := 0, slots := 0, locals := 68 }).room s m args below meth c H locs 0 0 Q (F0 m 18 ls []) := by
      intro n
      induction n with
      | zero => intro x1 x2 x3 thrown tape taped value weight many block ties lines pastValue pastWeight pastMany undos fresh newValue newWeight newMany newBlock newTies newLines hasBlock hasTies size att place sort number fault faultPlace lastFault lastPlace toValue toWeight toMany often firstOf lastOf unlikes unlikeMany isCandidate modes fewest z3 ls H locs hl hP hD hS h hk18; exact e_n h
      | succ n ih18 =>
        intro x1 x2 x3 thrown tape taped value weight many block ties lines pastValue pastWeight pastMany undos fresh newValue newWeight newMany newBlock newTies newLines hasBlock hasTies size att place sort number fault faultPlace lastFault lastPlace toValue toWeight toMany often firstOf lastOf unlikes unlikeMany isCandidate modes fewest z3 ls H locs hl hP hD hS h hk18
        rw [mX6_spans_L18.eq_2] at h
        refine lv_iload_n hx hb dX6_spans_18 rfl (lv_at hl 3 rfl) ?_
        refine lv_aload_n hx hb dX6_spans_19 rfl (lv_at hl 0 rfl) ?_
        refine va_get (D := D) (ci := 6) (v := .int many) (C := RX6) (T := TX6) (N := 42) hx hb hts iX6 hown hK hP 0 rfl rfl 5 (Nat.le_of_ble_eq_true rfl) f175 (fun _ h9 => h9) rfl dX6_spans_20 ?_
        refine lv_icmp_ge (tgt := 69) hx hb dX6_spans_23 (by decide) (fun c4 => ?_) (fun c4 => ?_)
        · have h := e_t c4 h
          obtain rfl := e_s h
          exact hk18 _ _ _ (lv_sub hl [2] rfl) hP hD hS
        · have h := e_f c4 h
          refine lv_iload_n hx hb dX6_spans_26 rfl (lv_at hl 3 rfl) ?_
          refine lv_istore (lv' := [(4, .int x3), (0, .ref (ad 0)), (1, .int x1), (2, .int x2), (3, .int x3)]) hx hb dX6_spans_27 hl (by decide) rfl (fun ls hl => ?_)
          have hL29 : ∀ (n : Nat) (x1 : Int32) (x2 : Int32) (x3 : Int32) (x4 : Int32) (thrown : Int32) (tape : Nat → Int32) (taped : Int32) (value : Nat → Int32) (weight : Nat → Int32) (many : Int32) (block : Int32) (ties : Int32) (lines : Int32) (pastValue : Nat → Int32) (pastWeight : Nat → Int32) (pastMany : Nat → Int32) (undos : Int32) (fresh : Int32) (newValue : Nat → Int32) (newWeight : Nat → Int32) (newMany : Int32) (newBlock : Int32) (newTies : Int32) (newLines : Int32) (hasBlock : Int32) (hasTies : Int32) (size : Int32) (att : Int32) (place : Int32) (sort : Int32) (number : Int32) (fault : Int32) (faultPlace : Int32) (lastFault : Int32) (lastPlace : Int32) (toValue : Nat → Int32) (toWeight : Nat → Int32) (toMany : Int32) (often : Nat → Int32) (firstOf : Nat → Int32) (lastOf : Nat → Int32) (unlikes : Nat → Int32) (unlikeMany : Int32) (isCandidate : Nat → Int32) (modes : Nat → Int32) (fewest : Nat → Int32) (z5 : Int32 × (Nat → Int32) × (Nat → Int32) × (Nat → Int32) × (Nat → Int32) × Int32) (ls : Array Slot) (H : Heap) (locs : List Loc), lv_has ls 5 [(0, .ref (ad 0)), (1, .int x1), (2, .int x2), (3, .int x3), (4, .int x4)] → va_P D vwCl (wX6 cA ad thrown tape taped value weight many block ties lines pastValue pastWeight pastMany undos fresh newValue newWeight newMany newBlock newTies newLines hasBlock hasTies size att place sort number fault faultPlace lastFault lastPlace toValue toWeight toMany often firstOf lastOf unlikes unlikeMany isCandidate modes fewest) H → va_D A (wX6 cA ad thrown tape taped value weight many block ties lines pastValue pastWeight pastMany undos fresh newValue newWeight newMany newBlock newTies newLines hasBlock hasTies size att place sort number fault faultPlace lastFault lastPlace toValue toWeight toMany often firstOf lastOf unlikes unlikeMany isCandidate modes fewest) → va_S A s.heap H locs → mX6_spans_L29 value many ties x1 x3 n x2 x4 often firstOf lastOf unlikes unlikeMany = some z5 → (∀ (ls : Array Slot) (H : Heap) (locs : List Loc), lv_has ls 5 [(0, .ref (ad 0)), (1, .int x1), (2, .int z5.1), (3, .int x3)] → va_P D vwCl (wX6 cA ad thrown tape taped value weight many block ties lines pastValue pastWeight pastMany undos fresh newValue newWeight newMany newBlock newTies newLines hasBlock hasTies size att place sort number fault faultPlace lastFault lastPlace toValue toWeight toMany z5.2.1 z5.2.2.1 z5.2.2.2.1 z5.2.2.2.2.1 z5.2.2.2.2.2 isCandidate modes fewest) H → va_D A (wX6 cA ad thrown tape taped value weight many block ties lines pastValue pastWeight pastMany undos fresh newValue newWeight newMany newBlock newTies newLines hasBlock hasTies size att place sort number fault faultPlace lastFault lastPlace toValue toWeight toMany z5.2.1 z5.2.2.1 z5.2.2.2.1 z5.2.2.2.2.1 z5.2.2.2.2.2 isCandidate modes fewest) → va_S A s.heap H locs → W p l e (headSpec wsX6_spans { frames := 3, cells := 0, slots := 0, locals := 68 }).room s m args below meth c H locs 0 0 Q (F0 m 63 ls [])) → W p l e (headSpec wsX6_spans { frames := 3, cells := 0, slots := 0, locals := 68 }).room s m args below meth c H locs 0 0 Q (F0 m 29 ls []) := by
            intro n
            induction n with
            | zero => intro x1 x2 x3 x4 thrown tape taped value weight many block ties lines pastValue pastWeight pastMany undos fresh newValue newWeight newMany newBlock newTies newLines hasBlock hasTies size att place sort number fault faultPlace lastFault lastPlace toValue toWeight toMany often firstOf lastOf unlikes unlikeMany isCandidate modes fewest z5 ls H locs hl hP hD hS h hk29; exact e_n h
            | succ n ih29 =>
              intro x1 x2 x3 x4 thrown tape taped value weight many block ties lines pastValue pastWeight pastMany undos fresh newValue newWeight newMany newBlock newTies newLines hasBlock hasTies size att place sort number fault faultPlace lastFault lastPlace toValue toWeight toMany often firstOf lastOf unlikes unlikeMany isCandidate modes fewest z5 ls H locs hl hP hD hS h hk29
              rw [mX6_spans_L29.eq_2] at h
              refine lv_iload hx hb dX6_spans_29 (lv_at hl 4 rfl) ?_
              refine lv_aload_n hx hb dX6_spans_31 rfl (lv_at hl 0 rfl) ?_
              refine va_get (D := D) (ci := 6) (v := .int many) (C := RX6) (T := TX6) (N := 42) hx hb hts iX6 hown hK hP 0 rfl rfl 5 (Nat.le_of_ble_eq_true rfl) f175 (fun _ h9 => h9) rfl dX6_spans_32 ?_
              refine lv_icmp_ge (tgt := 63) hx hb dX6_spans_35 (by decide) (fun c6 => ?_) (fun c6 => ?_)
              · have h := e_t c6 h
                obtain rfl := e_s h
                exact hk29 _ _ _ (lv_sub hl [0, 1, 2, 3] rfl) hP hD hS
              · have h := e_f c6 h
                refine lv_iload_n hx hb dX6_spans_38 rfl (lv_at hl 2 rfl) ?_
                refine lv_aload_n hx hb dX6_spans_39 rfl (lv_at hl 0 rfl) ?_
                refine lv_iload_n hx hb dX6_spans_40 rfl (lv_at hl 3 rfl) ?_
                refine lv_iload hx hb dX6_spans_41 (lv_at hl 4 rfl) ?_
                obtain ⟨q7, eq7, h⟩ := e_b h
                refine xv_i0 (As := [.int x3, .int x4]) (rest := [.int x2]) (ci := 6) (b := ad 0) ⟨hx, hb, hml, hown, hts⟩ hl.1 (kX6_longer l D cA ad thrown tape taped value weight many block ties lines pastValue pastWeight pastMany undos fresh newValue newWeight newMany newBlock newTies newLines hasBlock hasTies size att place sort number fault faultPlace lastFault lastPlace toValue toWeight toMany often firstOf lastOf unlikes unlikeMany isCandidate modes fewest x3 x4  _ eq7) (cwV 2 hts gX6_spans_X6_longer rfl rfl rfl (by decide +kernel) ⟨Nat.le_of_ble_eq_true rfl, Nat.le_of_ble_eq_true rfl⟩) rfl hK hP hD hS hA 0 rfl rfl rfl rfl (Nat.le_of_ble_eq_true rfl) dX6_spans_43 ⟨Nat.zero_le _, Nat.zero_le _⟩ (fun H locs hP hD hS hnq7 => ?_)
                have hP : va_P D vwCl (wX6 cA ad thrown tape taped value weight many block ties lines pastValue pastWeight pastMany undos fresh newValue newWeight newMany newBlock newTies newLines hasBlock hasTies size att place sort number fault faultPlace lastFault lastPlace toValue toWeight toMany q7.2.1 q7.2.2.1 q7.2.2.2.1 q7.2.2.2.2.1 q7.2.2.2.2.2 isCandidate modes fewest) H := hP
                have hD : va_D A (wX6 cA ad thrown tape taped value weight many block ties lines pastValue pastWeight pastMany undos fresh newValue newWeight newMany newBlock newTies newLines hasBlock hasTies size att place sort number fault faultPlace lastFault lastPlace toValue toWeight toMany q7.2.1 q7.2.2.1 q7.2.2.2.1 q7.2.2.2.2.1 q7.2.2.2.2.2 isCandidate modes fewest) := hD
                refine lv_iload_n hx hb dX6_spans_46 rfl (lv_at hl 1 rfl) ?_
                refine lv_icmp_ne (tgt := 54) hx hb dX6_spans_47 (by decide) (fun c8 => ?_) (fun c8 => ?_)
                · have h := e_t c8 h
                  refine lv_iconst (v := 0) hx hb dX6_spans_54 (by decide) ?_
                  refine lv_iadd hx hb dX6_spans_55 ?_
                  refine lv_istore_n (lv' := [(2, .int (x2 + 0)), (0, .ref (ad 0)), (1, .int x1), (3, .int x3), (4, .int x4)]) hx hb dX6_spans_56 rfl hl (by decide) rfl (fun ls hl => ?_)
                  refine lv_iinc (v := (x4 + 1)) (lv' := [(4, .int (x4 + 1)), (2, .int (x2 + 0)), (0, .ref (ad 0)), (1, .int x1), (3, .int x3)]) hx hb dX6_spans_57 hl (k := 4) rfl rfl (by decide) rfl (fun ls hl => ?_)
                  refine lv_goto (tgt := 29) hx hb dX6_spans_60 (by decide) ?_
                  exact ih29 x1 (x2 + 0) x3 (x4 + 1) thrown tape taped value weight many block ties lines pastValue pastWeight pastMany undos fresh newValue newWeight newMany newBlock newTies newLines hasBlock hasTies size att place sort number fault faultPlace lastFault lastPlace toValue toWeight toMany q7.2.1 q7.2.2.1 q7.2.2.2.1 q7.2.2.2.2.1 q7.2.2.2.2.2 isCandidate modes fewest z5 _ _ _ (lv_sub hl [2, 3, 1, 4, 0] rfl) hP hD hS h hk29
                · have h := e_f (not_not_intro c8) h
                  refine lv_iconst (v := 1) hx hb dX6_spans_50 (by decide) ?_
                  refine lv_goto (tgt := 55) hx hb dX6_spans_51 (by decide) ?_
                  refine lv_iadd hx hb dX6_spans_55 ?_
                  refine lv_istore_n (lv' := [(2, .int (x2 + 1)), (0, .ref (ad 0)), (1, .int x1), (3, .int x3), (4, .int x4)]) hx hb dX6_spans_56 rfl hl (by decide) rfl (fun ls hl => ?_)
                  refine lv_iinc (v := (x4 + 1)) (lv' := [(4, .int (x4 + 1)), (2, .int (x2 + 1)), (0, .ref (ad 0)), (1, .int x1), (3, .int x3)]) hx hb dX6_spans_57 hl (k := 4) rfl rfl (by decide) rfl (fun ls hl => ?_)
                  refine lv_goto (tgt := 29) hx hb dX6_spans_60 (by decide) ?_
                  exact ih29 x1 (x2 + 1) x3 (x4 + 1) thrown tape taped value weight many block ties lines pastValue pastWeight pastMany undos fresh newValue newWeight newMany newBlock newTies newLines hasBlock hasTies size att place sort number fault faultPlace lastFault lastPlace toValue toWeight toMany q7.2.1 q7.2.2.1 q7.2.2.2.1 q7.2.2.2.2.1 q7.2.2.2.2.2 isCandidate modes fewest z5 _ _ _ (lv_sub hl [2, 3, 1, 4, 0] rfl) hP hD hS h hk29
          obtain ⟨z9, ez9, h⟩ := e_b h
          refine hL29 FU x1 x2 x3 x3 thrown tape taped value weight many block ties lines pastValue pastWeight pastMany undos fresh newValue newWeight newMany newBlock newTies newLines hasBlock hasTies size att place sort number fault faultPlace lastFault lastPlace toValue toWeight toMany often firstOf lastOf unlikes unlikeMany isCandidate modes fewest z9 _ _ _ (lv_sub hl [1, 2, 3, 4, 0] rfl) hP hD hS ez9 (fun ls H locs hl hP hD hS => ?_)
          refine lv_iinc (v := (x3 + 1)) (lv' := [(3, .int (x3 + 1)), (0, .ref (ad 0)), (1, .int x1), (2, .int z9.1)]) hx hb dX6_spans_63 hl (k := 3) rfl rfl (by decide) rfl (fun ls hl => ?_)
          refine lv_goto (tgt := 18) hx hb dX6_spans_66 (by decide) ?_
          exact ih18 x1 z9.1 (x3 + 1) thrown tape taped value weight many block ties lines pastValue pastWeight pastMany undos fresh newValue newWeight newMany newBlock newTies newLines hasBlock hasTies size att place sort number fault faultPlace lastFault lastPlace toValue toWeight toMany z9.2.1 z9.2.2.1 z9.2.2.2.1 z9.2.2.2.2.1 z9.2.2.2.2.2 isCandidate modes fewest z3 _ _ _ (lv_sub hl [1, 2, 3, 0] rfl) hP hD hS h hk18
    obtain ⟨z10, ez10, h⟩ := e_b h
    refine hL18 FU x1 0 0 0 tape taped value weight many block ties lines pastValue pastWeight pastMany undos fresh newValue newWeight newMany newBlock newTies newLines hasBlock hasTies size att place sort number fault faultPlace lastFault lastPlace toValue toWeight toMany often firstOf lastOf unlikes unlikeMany isCandidate modes fewest z10 _ _ _ (lv_sub hl [2, 3, 1, 0] rfl) hP hD hS ez10 (fun ls H locs hl hP hD hS => ?_)
    refine lv_iload_n hx hb dX6_spans_69 rfl (lv_at hl 0 rfl) ?_
    obtain rfl := e_s h
    exact hret hP hS rfl dX6_spans_70
  · have h := e_f (not_not_intro c2) h
    refine lv_iconst (v := (-1)) hx hb dX6_spans_12 (by decide) ?_
    obtain rfl := e_s h
    exact hret hP hS rfl dX6_spans_13
set_option maxHeartbeats 4000000 in
set_option maxRecDepth 100000 in
theorem kX6_longest (l : Launch) (D : va_G) (cA : Nat → ClassId) (ad : Nat → Nat) (thrown : Int32) (tape : Nat → Int32) (taped : Int32) (value : Nat → Int32) (weight : Nat → Int32) (many : Int32) (block : Int32) (ties : Int32) (lines : Int32) (pastValue : Nat → Int32) (pastWeight : Nat → Int32) (pastMany : Nat → Int32) (undos : Int32) (fresh : Int32) (newValue : Nat → Int32) (newWeight : Nat → Int32) (newMany : Int32) (newBlock : Int32) (newTies : Int32) (newLines : Int32) (hasBlock : Int32) (hasTies : Int32) (size : Int32) (att : Int32) (place : Int32) (sort : Int32) (number : Int32) (fault : Int32) (faultPlace : Int32) (lastFault : Int32) (lastPlace : Int32) (toValue : Nat → Int32) (toWeight : Nat → Int32) (toMany : Int32) (often : Nat → Int32) (firstOf : Nat → Int32) (lastOf : Nat → Int32) (unlikes : Nat → Int32) (unlikeMany : Int32) (isCandidate : Nat → Int32) (modes : Nat → Int32) (fewest : Nat → Int32) (x1 : Int32) (x2 : Int32) (q : Int32 × Int32 × (Nat → Int32) × (Nat → Int32) × (Nat → Int32) × (Nat → Int32) × Int32) (h : mX6_longest thrown value many ties often firstOf lastOf unlikes unlikeMany x1 x2 = some q) : MI l yX6_longest wsX6_longest { frames := 3, cells := 0, slots := 0, locals := 68 } D cA .int [.ref (ad 0), .int x1, .int x2] (wX6 cA ad thrown tape taped value weight many block ties lines pastValue pastWeight pastMany undos fresh newValue newWeight newMany newBlock newTies newLines hasBlock hasTies size att place sort number fault faultPlace lastFault lastPlace toValue toWeight toMany often firstOf lastOf unlikes unlikeMany isCandidate modes fewest) (wX6 cA ad q.2.1 tape taped value weight many block ties lines pastValue pastWeight pastMany undos fresh newValue newWeight newMany newBlock newTies newLines hasBlock hasTies size att place sort number fault faultPlace lastFault lastPlace toValue toWeight toMany q.2.2.1 q.2.2.2.1 q.2.2.2.2.1 q.2.2.2.2.2.1 q.2.2.2.2.2.2 isCandidate modes fewest) q.1 := by
  refine MI.of (cc := cX6_longest) (maxL := 7) (by decide +kernel) rfl rfl rfl (Nat.le_of_ble_eq_true rfl) ?_
  intro p e s m args below meth c A ls Q hx hb hml hts hown hK hP hD hA hS hl hret
  have hl : lv_has ls 7 [(0, .ref (ad 0)), (1, .int x1), (2, .int x2)] := hl
  have f175 := hts (.fieldLink RX6 175 "ModeDeskModel" "many" "I") (by decide +kernel)
  have f72 := hts (.fieldLink RX6 72 "ModeDeskModel" "thrown" "I") (by decide +kernel)
  have iX6 : ∀ w ∈ wsX60, w ∈ wsX6_longest := by decide +kernel
  unfold mX6_longest at h
  refine lv_aload_n hx hb dX6_longest_0 rfl (lv_at hl 0 rfl) ?_
  refine lv_iconst (v := 0) hx hb dX6_longest_1 (by decide) ?_
  refine va_put (D := D) (ci := 6) (v := .int 0) (ty := .int) (C := RX6) (T := TX6) (N := 42) hx hb hts iX6 tyX6 tyX6_ok nmX6 hown hK hP hD hS 0 rfl rfl 0 (Nat.le_of_ble_eq_true rfl) f72 (fun _ h9 => h9) rfl (tyX6_ok 0 (Nat.le_of_ble_eq_true rfl)) rfl rfl (Nat.le_of_ble_eq_true rfl) dX6_longest_2 (fun H locs hP hD hS => ?_)
  have hP : va_P D vwCl (wX6 cA ad 0 tape taped value weight many block ties lines pastValue pastWeight pastMany undos fresh newValue newWeight newMany newBlock newTies newLines hasBlock hasTies size att place sort number fault faultPlace lastFault lastPlace toValue toWeight toMany often firstOf lastOf unlikes unlikeMany isCandidate modes fewest) H := hP
  have hD : va_D A (wX6 cA ad 0 tape taped value weight many block ties lines pastValue pastWeight pastMany undos fresh newValue newWeight newMany newBlock newTies newLines hasBlock hasTies size att place sort number fault faultPlace lastFault lastPlace toValue toWeight toMany often firstOf lastOf unlikes unlikeMany isCandidate modes fewest) := hD
  refine lv_iload_n hx hb dX6_longest_5 rfl (lv_at hl 1 rfl) ?_
  obtain ⟨q1, eq1, h⟩ := e_b h
  refine xs_i (As := [.int x1]) (rest := []) ⟨hx, hb, hml, hown, hts⟩ hl.1 (kX6_isValue l D cA   x1  _ eq1) (va_cwS 1 hts gX6_longest_X6_isValue rfl rfl rfl (by decide +kernel) ⟨Nat.le_of_ble_eq_true rfl, Nat.le_of_ble_eq_true rfl⟩) rfl hK hP hD hS hA [] rfl (by decide +kernel) rfl (Nat.le_of_ble_eq_true rfl) dX6_longest_6 ⟨Nat.zero_le _, Nat.zero_le _⟩ (fun H locs hP hD hS hnq1 => ?_)
  have hP : va_P D vwCl (wX6 cA ad 0 tape taped value weight many block ties lines pastValue pastWeight pastMany undos fresh newValue newWeight newMany newBlock newTies newLines hasBlock hasTies size att place sort number fault faultPlace lastFault lastPlace toValue toWeight toMany often firstOf lastOf unlikes unlikeMany isCandidate modes fewest) H := hP
  have hD : va_D A (wX6 cA ad 0 tape taped value weight many block ties lines pastValue pastWeight pastMany undos fresh newValue newWeight newMany newBlock newTies newLines hasBlock hasTies size att place sort number fault faultPlace lastFault lastPlace toValue toWeight toMany often firstOf lastOf unlikes unlikeMany isCandidate modes fewest) := hD
  refine lv_if_eq (tgt := 21) hx hb dX6_longest_9 (by decide) (fun c2 => ?_) (fun c2 => ?_)
  · have h := e_t c2 h
    refine lv_iconst (v := (-1)) hx hb dX6_longest_21 (by decide) ?_
    obtain rfl := e_s h
    exact hret hP hS rfl dX6_longest_22
  · have h := e_f c2 h
    refine lv_iload_n hx hb dX6_longest_12 rfl (lv_at hl 2 rfl) ?_
    refine lv_if_lt (tgt := 21) hx hb dX6_longest_13 (by decide) (fun c3 => ?_) (fun c3 => ?_)
    · have h := e_t c3 h
      refine lv_iconst (v := (-1)) hx hb dX6_longest_21 (by decide) ?_
      obtain rfl := e_s h
      exact hret hP hS rfl dX6_longest_22
    · have h := e_f c3 h
      refine lv_iload_n hx hb dX6_longest_16 rfl (lv_at hl 2 rfl) ?_
      refine lv_iconst (v := 1) hx hb dX6_longest_17 (by decide) ?_
      refine lv_icmp_le (tgt := 23) hx hb dX6_longest_18 (by decide) (fun c4 => ?_) (fun c4 => ?_)
      · have h := e_t c4 h
        refine lv_bipush (v := (-2)) hx hb dX6_longest_23 (by decide) ?_
        refine lv_istore_n (lv' := [(3, .int (-2)), (0, .ref (ad 0)), (1, .int x1), (2, .int x2)]) hx hb dX6_longest_25 rfl hl (by decide) rfl (fun ls hl => ?_)
        refine lv_iconst (v := 0) hx hb dX6_longest_26 (by decide) ?_
        refine lv_istore (lv' := [(4, .int 0), (3, .int (-2)), (0, .ref (ad 0)), (1, .int x1), (2, .int x2)]) hx hb dX6_longest_27 hl (by decide) rfl (fun ls hl => ?_)
        refine lv_iconst (v := 0) hx hb dX6_longest_29 (by decide) ?_
        refine lv_istore (lv' := [(5, .int 0), (4, .int 0), (3, .int (-2)), (0, .ref (ad 0)), (1, .int x1), (2, .int x2)]) hx hb dX6_longest_30 hl (by decide) rfl (fun ls hl => ?_)
        have hL32 : ∀ (n : Nat) (x1 : Int32) (x2 : Int32) (x3 : Int32) (x4 : Int32) (x5 : Int32) (thrown : Int32) (tape : Nat → Int32) (taped : Int32) (value : Nat → Int32) (weight : Nat → Int32) (many : Int32) (block : Int32) (ties : Int32) (lines : Int32) (pastValue : Nat → Int32) (pastWeight : Nat → Int32) (pastMany : Nat → Int32) (undos : Int32) (fresh : Int32) (newValue : Nat → Int32) (newWeight : Nat → Int32) (newMany : Int32) (newBlock : Int32) (newTies : Int32) (newLines : Int32) (hasBlock : Int32) (hasTies : Int32) (size : Int32) (att : Int32) (place : Int32) (sort : Int32) (number : Int32) (fault : Int32) (faultPlace : Int32) (lastFault : Int32) (lastPlace : Int32) (toValue : Nat → Int32) (toWeight : Nat → Int32) (toMany : Int32) (often : Nat → Int32) (firstOf : Nat → Int32) (lastOf : Nat → Int32) (unlikes : Nat → Int32) (unlikeMany : Int32) (isCandidate : Nat → Int32) (modes : Nat → Int32) (fewest : Nat → Int32) (z5 : Int32 × Int32 × (Nat → Int32) × (Nat → Int32) × (Nat → Int32) × (Nat → Int32) × Int32) (ls : Array Slot) (H : Heap) (locs : List Loc), lv_has ls 7 [(0, .ref (ad 0)), (1, .int x1), (2, .int x2), (3, .int x3), (4, .int x4), (5, .int x5)] → va_P D vwCl (wX6 cA ad thrown tape taped value weight many block ties lines pastValue pastWeight pastMany undos fresh newValue newWeight newMany newBlock newTies newLines hasBlock hasTies size att place sort number fault faultPlace lastFault lastPlace toValue toWeight toMany often firstOf lastOf unlikes unlikeMany isCandidate modes fewest) H → va_D A (wX6 cA ad thrown tape taped value weight many block ties lines pastValue pastWeight pastMany undos fresh newValue newWeight newMany newBlock newTies newLines hasBlock hasTies size att place sort number fault faultPlace lastFault lastPlace toValue toWeight toMany often firstOf lastOf unlikes unlikeMany isCandidate modes fewest) → va_S A s.heap H locs → mX6_longest_L32 value many ties x1 n x3 x4 x5 often firstOf lastOf unlikes unlikeMany = some z5 → (∀ (ls : Array Slot) (H : Heap) (locs : List Loc), lv_has ls 7 [(2, .int x2), (3, .int z5.1), (4, .int z5.2.1)] → va_P D vwCl (wX6 cA ad thrown tape taped value weight many block ties lines pastValue pastWeight pastMany undos fresh newValue newWeight newMany newBlock newTies newLines hasBlock hasTies size att place sort number fault faultPlace lastFault lastPlace toValue toWeight toMany z5.2.2.1 z5.2.2.2.1 z5.2.2.2.2.1 z5.2.2.2.2.2.1 z5.2.2.2.2.2.2 isCandidate modes fewest) H → va_D A (wX6 cA ad thrown tape taped value weight many block ties lines pastValue pastWeight pastMany undos fresh newValue newWeight newMany newBlock newTies newLines hasBlock hasTies size att place sort number fault faultPlace lastFault lastPlace toValue toWeight toMany z5.2.2.1 z5.2.2.2.1 z5.2.2.2.2.1 z5.2.2.2.2.2.1 z5.2.2.2.2.2.2 isCandidate modes fewest) → va_S A s.heap H locs → W p l e (headSpec wsX6_longest { frames := 3, cells := 0, slots := 0, locals := 68 }).room s m args below meth c H locs 0 0 Q (F0 m 105 ls [])) → W p l e (headSpec wsX6_longest { frames := 3, cells := 0, slots := 0, locals := 68 }).room s m args below meth c H locs 0 0 Q (F0 m 32 ls []) := by
          intro n
          induction n with
          | zero => intro x1 x2 x3 x4 x5 thrown tape taped value weight many block ties lines pastValue pastWeight pastMany undos fresh newValue newWeight newMany newBlock newTies newLines hasBlock hasTies size att place sort number fault faultPlace lastFault lastPlace toValue toWeight toMany often firstOf lastOf unlikes unlikeMany isCandidate modes fewest z5 ls H locs hl hP hD hS h hk32; exact e_n h
          | succ n ih32 =>
            intro x1 x2 x3 x4 x5 thrown tape taped value weight many block ties lines pastValue pastWeight pastMany undos fresh newValue newWeight newMany newBlock newTies newLines hasBlock hasTies size att place sort number fault faultPlace lastFault lastPlace toValue toWeight toMany often firstOf lastOf unlikes unlikeMany isCandidate modes fewest z5 ls H locs hl hP hD hS h hk32
            rw [mX6_longest_L32.eq_2] at h
            refine lv_iload hx hb dX6_longest_32 (lv_at hl 5 rfl) ?_
            refine lv_aload_n hx hb dX6_longest_34 rfl (lv_at hl 0 rfl) ?_
            refine va_get (D := D) (ci := 6) (v := .int many) (C := RX6) (T := TX6) (N := 42) hx hb hts iX6 hown hK hP 0 rfl rfl 5 (Nat.le_of_ble_eq_true rfl) f175 (fun _ h9 => h9) rfl dX6_longest_35 ?_
            refine lv_icmp_ge (tgt := 105) hx hb dX6_longest_38 (by decide) (fun c6 => ?_) (fun c6 => ?_)
            · have h := e_t c6 h
              obtain rfl := e_s h
              exact hk32 _ _ _ (lv_sub hl [2, 3, 4] rfl) hP hD hS
            · have h := e_f c6 h
              refine lv_iload hx hb dX6_longest_41 (lv_at hl 5 rfl) ?_
              refine lv_istore (lv' := [(6, .int x5), (0, .ref (ad 0)), (1, .int x1), (2, .int x2), (3, .int x3), (4, .int x4), (5, .int x5)]) hx hb dX6_longest_43 hl (by decide) rfl (fun ls hl => ?_)
              have hL45 : ∀ (n : Nat) (x1 : Int32) (x2 : Int32) (x3 : Int32) (x4 : Int32) (x5 : Int32) (x6 : Int32) (thrown : Int32) (tape : Nat → Int32) (taped : Int32) (value : Nat → Int32) (weight : Nat → Int32) (many : Int32) (block : Int32) (ties : Int32) (lines : Int32) (pastValue : Nat → Int32) (pastWeight : Nat → Int32) (pastMany : Nat → Int32) (undos : Int32) (fresh : Int32) (newValue : Nat → Int32) (newWeight : Nat → Int32) (newMany : Int32) (newBlock : Int32) (newTies : Int32) (newLines : Int32) (hasBlock : Int32) (hasTies : Int32) (size : Int32) (att : Int32) (place : Int32) (sort : Int32) (number : Int32) (fault : Int32) (faultPlace : Int32) (lastFault : Int32) (lastPlace : Int32) (toValue : Nat → Int32) (toWeight : Nat → Int32) (toMany : Int32) (often : Nat → Int32) (firstOf : Nat → Int32) (lastOf : Nat → Int32) (unlikes : Nat → Int32) (unlikeMany : Int32) (isCandidate : Nat → Int32) (modes : Nat → Int32) (fewest : Nat → Int32) (z7 : Int32 × Int32 × (Nat → Int32) × (Nat → Int32) × (Nat → Int32) × (Nat → Int32) × Int32) (ls : Array Slot) (H : Heap) (locs : List Loc), lv_has ls 7 [(0, .ref (ad 0)), (1, .int x1), (2, .int x2), (3, .int x3), (4, .int x4), (5, .int x5), (6, .int x6)] → va_P D vwCl (wX6 cA ad thrown tape taped value weight many block ties lines pastValue pastWeight pastMany undos fresh newValue newWeight newMany newBlock newTies newLines hasBlock hasTies size att place sort number fault faultPlace lastFault lastPlace toValue toWeight toMany often firstOf lastOf unlikes unlikeMany isCandidate modes fewest) H → va_D A (wX6 cA ad thrown tape taped value weight many block ties lines pastValue pastWeight pastMany undos fresh newValue newWeight newMany newBlock newTies newLines hasBlock hasTies size att place sort number fault faultPlace lastFault lastPlace toValue toWeight toMany often firstOf lastOf unlikes unlikeMany isCandidate modes fewest) → va_S A s.heap H locs → mX6_longest_L45 value many ties x1 x5 n x3 x4 x6 often firstOf lastOf unlikes unlikeMany = some z7 → (∀ (ls : Array Slot) (H : Heap) (locs : List Loc), lv_has ls 7 [(0, .ref (ad 0)), (1, .int x1), (2, .int x2), (3, .int z7.1), (4, .int z7.2.1), (5, .int x5)] → va_P D vwCl (wX6 cA ad thrown tape taped value weight many block ties lines pastValue pastWeight pastMany undos fresh newValue newWeight newMany newBlock newTies newLines hasBlock hasTies size att place sort number fault faultPlace lastFault lastPlace toValue toWeight toMany z7.2.2.1 z7.2.2.2.1 z7.2.2.2.2.1 z7.2.2.2.2.2.1 z7.2.2.2.2.2.2 isCandidate modes fewest) H → va_D A (wX6 cA ad thrown tape taped value weight many block ties lines pastValue pastWeight pastMany undos fresh newValue newWeight newMany newBlock newTies newLines hasBlock hasTies size att place sort number fault faultPlace lastFault lastPlace toValue toWeight toMany z7.2.2.1 z7.2.2.2.1 z7.2.2.2.2.1 z7.2.2.2.2.2.1 z7.2.2.2.2.2.2 isCandidate modes fewest) → va_S A s.heap H locs → W p l e (headSpec wsX6_longest { frames := 3, cells := 0, slots := 0, locals := 68 }).room s m args below meth c H locs 0 0 Q (F0 m 99 ls [])) → W p l e (headSpec wsX6_longest { frames := 3, cells := 0, slots := 0, locals := 68 }).room s m args below meth c H locs 0 0 Q (F0 m 45 ls []) := by
                intro n
                induction n with
                | zero => intro x1 x2 x3 x4 x5 x6 thrown tape taped value weight many block ties lines pastValue pastWeight pastMany undos fresh newValue newWeight newMany newBlock newTies newLines hasBlock hasTies size att place sort number fault faultPlace lastFault lastPlace toValue toWeight toMany often firstOf lastOf unlikes unlikeMany isCandidate modes fewest z7 ls H locs hl hP hD hS h hk45; exact e_n h
                | succ n ih45 =>
                  intro x1 x2 x3 x4 x5 x6 thrown tape taped value weight many block ties lines pastValue pastWeight pastMany undos fresh newValue newWeight newMany newBlock newTies newLines hasBlock hasTies size att place sort number fault faultPlace lastFault lastPlace toValue toWeight toMany often firstOf lastOf unlikes unlikeMany isCandidate modes fewest z7 ls H locs hl hP hD hS h hk45
                  rw [mX6_longest_L45.eq_2] at h
                  refine lv_iload hx hb dX6_longest_45 (lv_at hl 6 rfl) ?_
                  refine lv_aload_n hx hb dX6_longest_47 rfl (lv_at hl 0 rfl) ?_
                  refine va_get (D := D) (ci := 6) (v := .int many) (C := RX6) (T := TX6) (N := 42) hx hb hts iX6 hown hK hP 0 rfl rfl 5 (Nat.le_of_ble_eq_true rfl) f175 (fun _ h9 => h9) rfl dX6_longest_48 ?_
                  refine lv_icmp_ge (tgt := 99) hx hb dX6_longest_51 (by decide) (fun c8 => ?_) (fun c8 => ?_)
                  · have h := e_t c8 h
                    obtain rfl := e_s h
                    exact hk45 _ _ _ (lv_sub hl [0, 1, 2, 3, 4, 5] rfl) hP hD hS
                  · have h := e_f c8 h
                    refine lv_aload_n hx hb dX6_longest_54 rfl (lv_at hl 0 rfl) ?_
                    refine lv_iload hx hb dX6_longest_55 (lv_at hl 5 rfl) ?_
                    refine lv_iload hx hb dX6_longest_57 (lv_at hl 6 rfl) ?_
                    obtain ⟨q9, eq9, h⟩ := e_b h
                    refine xv_i0 (As := [.int x5, .int x6]) (rest := []) (ci := 6) (b := ad 0) ⟨hx, hb, hml, hown, hts⟩ hl.1 (kX6_longer l D cA ad thrown tape taped value weight many block ties lines pastValue pastWeight pastMany undos fresh newValue newWeight newMany newBlock newTies newLines hasBlock hasTies size att place sort number fault faultPlace lastFault lastPlace toValue toWeight toMany often firstOf lastOf unlikes unlikeMany isCandidate modes fewest x5 x6  _ eq9) (cwV 2 hts gX6_longest_X6_longer rfl rfl rfl (by decide +kernel) ⟨Nat.le_of_ble_eq_true rfl, Nat.le_of_ble_eq_true rfl⟩) rfl hK hP hD hS hA 0 rfl rfl rfl rfl (Nat.le_of_ble_eq_true rfl) dX6_longest_59 ⟨Nat.zero_le _, Nat.zero_le _⟩ (fun H locs hP hD hS hnq9 => ?_)
                    have hP : va_P D vwCl (wX6 cA ad thrown tape taped value weight many block ties lines pastValue pastWeight pastMany undos fresh newValue newWeight newMany newBlock newTies newLines hasBlock hasTies size att place sort number fault faultPlace lastFault lastPlace toValue toWeight toMany q9.2.1 q9.2.2.1 q9.2.2.2.1 q9.2.2.2.2.1 q9.2.2.2.2.2 isCandidate modes fewest) H := hP
                    have hD : va_D A (wX6 cA ad thrown tape taped value weight many block ties lines pastValue pastWeight pastMany undos fresh newValue newWeight newMany newBlock newTies newLines hasBlock hasTies size att place sort number fault faultPlace lastFault lastPlace toValue toWeight toMany q9.2.1 q9.2.2.1 q9.2.2.2.1 q9.2.2.2.2.1 q9.2.2.2.2.2 isCandidate modes fewest) := hD
                    refine lv_iload_n hx hb dX6_longest_62 rfl (lv_at hl 1 rfl) ?_
                    refine lv_icmp_ne (tgt := 93) hx hb dX6_longest_63 (by decide) (fun c10 => ?_) (fun c10 => ?_)
                    · have h := e_t c10 h
                      refine lv_iinc (v := (x6 + 1)) (lv' := [(6, .int (x6 + 1)), (0, .ref (ad 0)), (1, .int x1), (2, .int x2), (3, .int x3), (4, .int x4), (5, .int x5)]) hx hb dX6_longest_93 hl (k := 6) rfl rfl (by decide) rfl (fun ls hl => ?_)
                      refine lv_goto (tgt := 45) hx hb dX6_longest_96 (by decide) ?_
                      exact ih45 x1 x2 x3 x4 x5 (x6 + 1) thrown tape taped value weight many block ties lines pastValue pastWeight pastMany undos fresh newValue newWeight newMany newBlock newTies newLines hasBlock hasTies size att place sort number fault faultPlace lastFault lastPlace toValue toWeight toMany q9.2.1 q9.2.2.1 q9.2.2.2.1 q9.2.2.2.2.1 q9.2.2.2.2.2 isCandidate modes fewest z7 _ _ _ (lv_sub hl [1, 2, 3, 4, 5, 6, 0] rfl) hP hD hS h hk45
                    · have h := e_f (not_not_intro c10) h
                      refine lv_iload hx hb dX6_longest_66 (lv_at hl 6 rfl) ?_
                      refine lv_iload hx hb dX6_longest_68 (lv_at hl 5 rfl) ?_
                      refine lv_isub hx hb dX6_longest_70 ?_
                      refine lv_iconst (v := 1) hx hb dX6_longest_71 (by decide) ?_
                      refine lv_iadd hx hb dX6_longest_72 ?_
                      refine lv_iload hx hb dX6_longest_73 (lv_at hl 4 rfl) ?_
                      refine lv_icmp_gt (tgt := 81) hx hb dX6_longest_75 (by decide) (fun c11 => ?_) (fun c11 => ?_)
                      · have h := e_t c11 h
                        refine lv_iload hx hb dX6_longest_81 (lv_at hl 5 rfl) ?_
                        refine lv_istore_n (lv' := [(3, .int x5), (0, .ref (ad 0)), (1, .int x1), (2, .int x2), (4, .int x4), (5, .int x5), (6, .int x6)]) hx hb dX6_longest_83 rfl hl (by decide) rfl (fun ls hl => ?_)
                        refine lv_iload hx hb dX6_longest_84 (lv_at hl 6 rfl) ?_
                        refine lv_iload hx hb dX6_longest_86 (lv_at hl 5 rfl) ?_
                        refine lv_isub hx hb dX6_longest_88 ?_
                        refine lv_iconst (v := 1) hx hb dX6_longest_89 (by decide) ?_
                        refine lv_iadd hx hb dX6_longest_90 ?_
                        refine lv_istore (lv' := [(4, .int ((x6 - x5) + 1)), (3, .int x5), (0, .ref (ad 0)), (1, .int x1), (2, .int x2), (5, .int x5), (6, .int x6)]) hx hb dX6_longest_91 hl (by decide) rfl (fun ls hl => ?_)
                        refine lv_iinc (v := (x6 + 1)) (lv' := [(6, .int (x6 + 1)), (4, .int ((x6 - x5) + 1)), (3, .int x5), (0, .ref (ad 0)), (1, .int x1), (2, .int x2), (5, .int x5)]) hx hb dX6_longest_93 hl (k := 6) rfl rfl (by decide) rfl (fun ls hl => ?_)
                        refine lv_goto (tgt := 45) hx hb dX6_longest_96 (by decide) ?_
                        exact ih45 x1 x2 x5 ((x6 - x5) + 1) x5 (x6 + 1) thrown tape taped value weight many block ties lines pastValue pastWeight pastMany undos fresh newValue newWeight newMany newBlock newTies newLines hasBlock hasTies size att place sort number fault faultPlace lastFault lastPlace toValue toWeight toMany q9.2.1 q9.2.2.1 q9.2.2.2.1 q9.2.2.2.2.1 q9.2.2.2.2.2 isCandidate modes fewest z7 _ _ _ (lv_sub hl [3, 4, 5, 2, 1, 6, 0] rfl) hP hD hS h hk45
                      · have h := e_f c11 h
                        refine lv_goto (tgt := 93) hx hb dX6_longest_78 (by decide) ?_
                        refine lv_iinc (v := (x6 + 1)) (lv' := [(6, .int (x6 + 1)), (0, .ref (ad 0)), (1, .int x1), (2, .int x2), (3, .int x3), (4, .int x4), (5, .int x5)]) hx hb dX6_longest_93 hl (k := 6) rfl rfl (by decide) rfl (fun ls hl => ?_)
                        refine lv_goto (tgt := 45) hx hb dX6_longest_96 (by decide) ?_
                        exact ih45 x1 x2 x3 x4 x5 (x6 + 1) thrown tape taped value weight many block ties lines pastValue pastWeight pastMany undos fresh newValue newWeight newMany newBlock newTies newLines hasBlock hasTies size att place sort number fault faultPlace lastFault lastPlace toValue toWeight toMany q9.2.1 q9.2.2.1 q9.2.2.2.1 q9.2.2.2.2.1 q9.2.2.2.2.2 isCandidate modes fewest z7 _ _ _ (lv_sub hl [1, 2, 3, 4, 5, 6, 0] rfl) hP hD hS h hk45
              obtain ⟨z12, ez12, h⟩ := e_b h
              refine hL45 FU x1 x2 x3 x4 x5 x5 thrown tape taped value weight many block ties lines pastValue pastWeight pastMany undos fresh newValue newWeight newMany newBlock newTies newLines hasBlock hasTies size att place sort number fault faultPlace lastFault lastPlace toValue toWeight toMany often firstOf lastOf unlikes unlikeMany isCandidate modes fewest z12 _ _ _ (lv_sub hl [1, 2, 3, 4, 5, 6, 0] rfl) hP hD hS ez12 (fun ls H locs hl hP hD hS => ?_)
              refine lv_iinc (v := (x5 + 1)) (lv' := [(5, .int (x5 + 1)), (0, .ref (ad 0)), (1, .int x1), (2, .int x2), (3, .int z12.1), (4, .int z12.2.1)]) hx hb dX6_longest_99 hl (k := 5) rfl rfl (by decide) rfl (fun ls hl => ?_)
              refine lv_goto (tgt := 32) hx hb dX6_longest_102 (by decide) ?_
              exact ih32 x1 x2 z12.1 z12.2.1 (x5 + 1) thrown tape taped value weight many block ties lines pastValue pastWeight pastMany undos fresh newValue newWeight newMany newBlock newTies newLines hasBlock hasTies size att place sort number fault faultPlace lastFault lastPlace toValue toWeight toMany z12.2.2.1 z12.2.2.2.1 z12.2.2.2.2.1 z12.2.2.2.2.2.1 z12.2.2.2.2.2.2 isCandidate modes fewest z5 _ _ _ (lv_sub hl [1, 2, 3, 4, 5, 0] rfl) hP hD hS h hk32
        obtain ⟨z13, ez13, h⟩ := e_b h
        refine hL32 FU x1 x2 (-2) 0 0 0 tape taped value weight many block ties lines pastValue pastWeight pastMany undos fresh newValue newWeight newMany newBlock newTies newLines hasBlock hasTies size att place sort number fault faultPlace lastFault lastPlace toValue toWeight toMany often firstOf lastOf unlikes unlikeMany isCandidate modes fewest z13 _ _ _ (lv_sub hl [3, 4, 5, 2, 1, 0] rfl) hP hD hS ez13 (fun ls H locs hl hP hD hS => ?_)
        refine lv_iload_n hx hb dX6_longest_105 rfl (lv_at hl 1 rfl) ?_
        refine lv_bipush (v := (-2)) hx hb dX6_longest_106 (by decide) ?_
        refine lv_icmp_eq (tgt := 115) hx hb dX6_longest_108 (by decide) (fun c14 => ?_) (fun c14 => ?_)
        · have h := e_t c14 h
          refine lv_iload_n hx hb dX6_longest_115 rfl (lv_at hl 1 rfl) ?_
          refine lv_goto (tgt := 125) hx hb dX6_longest_116 (by decide) ?_
          obtain rfl := e_s h
          exact hret hP hS rfl dX6_longest_125
        · have h := e_f c14 h
          refine lv_iload_n hx hb dX6_longest_111 rfl (lv_at hl 0 rfl) ?_
          refine lv_if_ne (tgt := 119) hx hb dX6_longest_112 (by decide) (fun c15 => ?_) (fun c15 => ?_)
          · have h := e_t c15 h
            refine lv_iload_n hx hb dX6_longest_119 rfl (lv_at hl 1 rfl) ?_
            refine lv_iload hx hb dX6_longest_120 (lv_at hl 2 rfl) ?_
            refine lv_iadd hx hb dX6_longest_122 ?_
            refine lv_iconst (v := 1) hx hb dX6_longest_123 (by decide) ?_
            refine lv_isub hx hb dX6_longest_124 ?_
            obtain rfl := e_s h
            exact hret hP hS rfl dX6_longest_125
          · have h := e_f (not_not_intro c15) h
            refine lv_iload_n hx hb dX6_longest_115 rfl (lv_at hl 1 rfl) ?_
            refine lv_goto (tgt := 125) hx hb dX6_longest_116 (by decide) ?_
            obtain rfl := e_s h
            exact hret hP hS rfl dX6_longest_125
      · have h := e_f c4 h
        refine lv_iconst (v := (-1)) hx hb dX6_longest_21 (by decide) ?_
        obtain rfl := e_s h
        exact hret hP hS rfl dX6_longest_22
set_option maxHeartbeats 4000000 in
set_option maxRecDepth 100000 in
theorem kX6_tightest (l : Launch) (D : va_G) (cA : Nat → ClassId) (ad : Nat → Nat) (thrown : Int32) (tape : Nat → Int32) (taped : Int32) (value : Nat → Int32) (weight : Nat → Int32) (many : Int32) (block : Int32) (ties : Int32) (lines : Int32) (pastValue : Nat → Int32) (pastWeight : Nat → Int32) (pastMany : Nat → Int32) (undos : Int32) (fresh : Int32) (newValue : Nat → Int32) (newWeight : Nat → Int32) (newMany : Int32) (newBlock : Int32) (newTies : Int32) (newLines : Int32) (hasBlock : Int32) (hasTies : Int32) (size : Int32) (att : Int32) (place : Int32) (sort : Int32) (number : Int32) (fault : Int32) (faultPlace : Int32) (lastFault : Int32) (lastPlace : Int32) (toValue : Nat → Int32) (toWeight : Nat → Int32) (toMany : Int32) (often : Nat → Int32) (firstOf : Nat → Int32) (lastOf : Nat → Int32) (unlikes : Nat → Int32) (unlikeMany : Int32) (isCandidate : Nat → Int32) (modes : Nat → Int32) (fewest : Nat → Int32) (x1 : Int32) (x2 : Int32) (q : Int32 × Int32) (h : mX6_tightest thrown value many x1 x2 = some q) : MI l yX6_tightest wsX6_tightest { frames := 0, cells := 0, slots := 0, locals := 0 } D cA .int [.ref (ad 0), .int x1, .int x2] (wX6 cA ad thrown tape taped value weight many block ties lines pastValue pastWeight pastMany undos fresh newValue newWeight newMany newBlock newTies newLines hasBlock hasTies size att place sort number fault faultPlace lastFault lastPlace toValue toWeight toMany often firstOf lastOf unlikes unlikeMany isCandidate modes fewest) (wX6 cA ad q.2 tape taped value weight many block ties lines pastValue pastWeight pastMany undos fresh newValue newWeight newMany newBlock newTies newLines hasBlock hasTies size att place sort number fault faultPlace lastFault lastPlace toValue toWeight toMany often firstOf lastOf unlikes unlikeMany isCandidate modes fewest) q.1 := by
  refine MI.of (cc := cX6_tightest) (maxL := 8) (by decide +kernel) rfl rfl rfl (Nat.le_of_ble_eq_true rfl) ?_
  intro p e s m args below meth c A ls Q hx hb hml hts hown hK hP hD hA hS hl hret
  have hl : lv_has ls 8 [(0, .ref (ad 0)), (1, .int x1), (2, .int x2)] := hl
  have f13 := hts (.fieldLink RX6 13 "ModeDeskModel" "value" "[I") (by decide +kernel)
  have f175 := hts (.fieldLink RX6 175 "ModeDeskModel" "many" "I") (by decide +kernel)
  have f72 := hts (.fieldLink RX6 72 "ModeDeskModel" "thrown" "I") (by decide +kernel)
  have iX6 : ∀ w ∈ wsX60, w ∈ wsX6_tightest := by decide +kernel
  unfold mX6_tightest at h
  refine lv_aload_n hx hb dX6_tightest_0 rfl (lv_at hl 0 rfl) ?_
  refine lv_iconst (v := 0) hx hb dX6_tightest_1 (by decide) ?_
  refine va_put (D := D) (ci := 6) (v := .int 0) (ty := .int) (C := RX6) (T := TX6) (N := 42) hx hb hts iX6 tyX6 tyX6_ok nmX6 hown hK hP hD hS 0 rfl rfl 0 (Nat.le_of_ble_eq_true rfl) f72 (fun _ h9 => h9) rfl (tyX6_ok 0 (Nat.le_of_ble_eq_true rfl)) rfl rfl (Nat.le_of_ble_eq_true rfl) dX6_tightest_2 (fun H locs hP hD hS => ?_)
  have hP : va_P D vwCl (wX6 cA ad 0 tape taped value weight many block ties lines pastValue pastWeight pastMany undos fresh newValue newWeight newMany newBlock newTies newLines hasBlock hasTies size att place sort number fault faultPlace lastFault lastPlace toValue toWeight toMany often firstOf lastOf unlikes unlikeMany isCandidate modes fewest) H := hP
  have hD : va_D A (wX6 cA ad 0 tape taped value weight many block ties lines pastValue pastWeight pastMany undos fresh newValue newWeight newMany newBlock newTies newLines hasBlock hasTies size att place sort number fault faultPlace lastFault lastPlace toValue toWeight toMany often firstOf lastOf unlikes unlikeMany isCandidate modes fewest) := hD
  refine lv_iload_n hx hb dX6_tightest_5 rfl (lv_at hl 1 rfl) ?_
  refine lv_iconst (v := 1) hx hb dX6_tightest_6 (by decide) ?_
  refine lv_icmp_lt (tgt := 19) hx hb dX6_tightest_7 (by decide) (fun c1 => ?_) (fun c1 => ?_)
  · have h := e_t c1 h
    refine lv_iconst (v := (-1)) hx hb dX6_tightest_19 (by decide) ?_
    obtain rfl := e_s h
    exact hret hP hS rfl dX6_tightest_20
  · have h := e_f c1 h
    refine lv_iload_n hx hb dX6_tightest_10 rfl (lv_at hl 2 rfl) ?_
    refine lv_if_lt (tgt := 19) hx hb dX6_tightest_11 (by decide) (fun c2 => ?_) (fun c2 => ?_)
    · have h := e_t c2 h
      refine lv_iconst (v := (-1)) hx hb dX6_tightest_19 (by decide) ?_
      obtain rfl := e_s h
      exact hret hP hS rfl dX6_tightest_20
    · have h := e_f c2 h
      refine lv_iload_n hx hb dX6_tightest_14 rfl (lv_at hl 2 rfl) ?_
      refine lv_iconst (v := 2) hx hb dX6_tightest_15 (by decide) ?_
      refine lv_icmp_le (tgt := 21) hx hb dX6_tightest_16 (by decide) (fun c3 => ?_) (fun c3 => ?_)
      · have h := e_t c3 h
        refine lv_bipush (v := (-2)) hx hb dX6_tightest_21 (by decide) ?_
        refine lv_istore_n (lv' := [(3, .int (-2)), (0, .ref (ad 0)), (1, .int x1), (2, .int x2)]) hx hb dX6_tightest_23 rfl hl (by decide) rfl (fun ls hl => ?_)
        refine lv_bipush (v := 121) hx hb dX6_tightest_24 (by decide) ?_
        refine lv_istore (lv' := [(4, .int 121), (3, .int (-2)), (0, .ref (ad 0)), (1, .int x1), (2, .int x2)]) hx hb dX6_tightest_26 hl (by decide) rfl (fun ls hl => ?_)
        refine lv_iconst (v := 0) hx hb dX6_tightest_28 (by decide) ?_
        refine lv_istore (lv' := [(5, .int 0), (4, .int 121), (3, .int (-2)), (0, .ref (ad 0)), (1, .int x1), (2, .int x2)]) hx hb dX6_tightest_29 hl (by decide) rfl (fun ls hl => ?_)
        have hL31 : ∀ (n : Nat) (x1 : Int32) (x2 : Int32) (x3 : Int32) (x4 : Int32) (x5 : Int32) (thrown : Int32) (tape : Nat → Int32) (taped : Int32) (value : Nat → Int32) (weight : Nat → Int32) (many : Int32) (block : Int32) (ties : Int32) (lines : Int32) (pastValue : Nat → Int32) (pastWeight : Nat → Int32) (pastMany : Nat → Int32) (undos : Int32) (fresh : Int32) (newValue : Nat → Int32) (newWeight : Nat → Int32) (newMany : Int32) (newBlock : Int32) (newTies : Int32) (newLines : Int32) (hasBlock : Int32) (hasTies : Int32) (size : Int32) (att : Int32) (place : Int32) (sort : Int32) (number : Int32) (fault : Int32) (faultPlace : Int32) (lastFault : Int32) (lastPlace : Int32) (toValue : Nat → Int32) (toWeight : Nat → Int32) (toMany : Int32) (often : Nat → Int32) (firstOf : Nat → Int32) (lastOf : Nat → Int32) (unlikes : Nat → Int32) (unlikeMany : Int32) (isCandidate : Nat → Int32) (modes : Nat → Int32) (fewest : Nat → Int32) (z4 : Int32 × Int32) (ls : Array Slot) (H : Heap) (locs : List Loc), lv_has ls 8 [(0, .ref (ad 0)), (1, .int x1), (2, .int x2), (3, .int x3), (4, .int x4), (5, .int x5)] → va_P D vwCl (wX6 cA ad thrown tape taped value weight many block ties lines pastValue pastWeight pastMany undos fresh newValue newWeight newMany newBlock newTies newLines hasBlock hasTies size att place sort number fault faultPlace lastFault lastPlace toValue toWeight toMany often firstOf lastOf unlikes unlikeMany isCandidate modes fewest) H → va_D A (wX6 cA ad thrown tape taped value weight many block ties lines pastValue pastWeight pastMany undos fresh newValue newWeight newMany newBlock newTies newLines hasBlock hasTies size att place sort number fault faultPlace lastFault lastPlace toValue toWeight toMany often firstOf lastOf unlikes unlikeMany isCandidate modes fewest) → va_S A s.heap H locs → mX6_tightest_L31 value many x1 n x3 x4 x5 = some z4 → (∀ (ls : Array Slot) (H : Heap) (locs : List Loc), lv_has ls 8 [(0, .ref (ad 0)), (2, .int x2), (3, .int z4.1), (4, .int z4.2)] → va_P D vwCl (wX6 cA ad thrown tape taped value weight many block ties lines pastValue pastWeight pastMany undos fresh newValue newWeight newMany newBlock newTies newLines hasBlock hasTies size att place sort number fault faultPlace lastFault lastPlace toValue toWeight toMany often firstOf lastOf unlikes unlikeMany isCandidate modes fewest) H → va_D A (wX6 cA ad thrown tape taped value weight many block ties lines pastValue pastWeight pastMany undos fresh newValue newWeight newMany newBlock newTies newLines hasBlock hasTies size att place sort number fault faultPlace lastFault lastPlace toValue toWeight toMany often firstOf lastOf unlikes unlikeMany isCandidate modes fewest) → va_S A s.heap H locs → W p l e (headSpec wsX6_tightest { frames := 0, cells := 0, slots := 0, locals := 0 }).room s m args below meth c H locs 0 0 Q (F0 m 130 ls [])) → W p l e (headSpec wsX6_tightest { frames := 0, cells := 0, slots := 0, locals := 0 }).room s m args below meth c H locs 0 0 Q (F0 m 31 ls []) := by
          intro n
          induction n with
          | zero => intro x1 x2 x3 x4 x5 thrown tape taped value weight many block ties lines pastValue pastWeight pastMany undos fresh newValue newWeight newMany newBlock newTies newLines hasBlock hasTies size att place sort number fault faultPlace lastFault lastPlace toValue toWeight toMany often firstOf lastOf unlikes unlikeMany isCandidate modes fewest z4 ls H locs hl hP hD hS h hk31; exact e_n h
          | succ n ih31 =>
            intro x1 x2 x3 x4 x5 thrown tape taped value weight many block ties lines pastValue pastWeight pastMany undos fresh newValue newWeight newMany newBlock newTies newLines hasBlock hasTies size att place sort number fault faultPlace lastFault lastPlace toValue toWeight toMany often firstOf lastOf unlikes unlikeMany isCandidate modes fewest z4 ls H locs hl hP hD hS h hk31
            rw [mX6_tightest_L31.eq_2] at h
            refine lv_iload hx hb dX6_tightest_31 (lv_at hl 5 rfl) ?_
            refine lv_aload_n hx hb dX6_tightest_33 rfl (lv_at hl 0 rfl) ?_
            refine va_get (D := D) (ci := 6) (v := .int many) (C := RX6) (T := TX6) (N := 42) hx hb hts iX6 hown hK hP 0 rfl rfl 5 (Nat.le_of_ble_eq_true rfl) f175 (fun _ h9 => h9) rfl dX6_tightest_34 ?_
            refine lv_icmp_ge (tgt := 130) hx hb dX6_tightest_37 (by decide) (fun c5 => ?_) (fun c5 => ?_)
            · have h := e_t c5 h
              obtain rfl := e_s h
              exact hk31 _ _ _ (lv_sub hl [0, 2, 3, 4] rfl) hP hD hS
            · have h := e_f c5 h
              refine lv_iconst (v := 0) hx hb dX6_tightest_40 (by decide) ?_
              refine lv_istore (lv' := [(6, .int 0), (0, .ref (ad 0)), (1, .int x1), (2, .int x2), (3, .int x3), (4, .int x4), (5, .int x5)]) hx hb dX6_tightest_41 hl (by decide) rfl (fun ls hl => ?_)
              refine lv_iload hx hb dX6_tightest_43 (lv_at hl 6 rfl) ?_
              refine lv_istore (lv' := [(7, .int x5), (6, .int 0), (0, .ref (ad 0)), (1, .int x1), (2, .int x2), (3, .int x3), (4, .int x4), (5, .int x5)]) hx hb dX6_tightest_45 hl (by decide) rfl (fun ls hl => ?_)
              have hL47 : ∀ (n : Nat) (x1 : Int32) (x2 : Int32) (x3 : Int32) (x4 : Int32) (x5 : Int32) (x6 : Int32) (x7 : Int32) (thrown : Int32) (tape : Nat → Int32) (taped : Int32) (value : Nat → Int32) (weight : Nat → Int32) (many : Int32) (block : Int32) (ties : Int32) (lines : Int32) (pastValue : Nat → Int32) (pastWeight : Nat → Int32) (pastMany : Nat → Int32) (undos : Int32) (fresh : Int32) (newValue : Nat → Int32) (newWeight : Nat → Int32) (newMany : Int32) (newBlock : Int32) (newTies : Int32) (newLines : Int32) (hasBlock : Int32) (hasTies : Int32) (size : Int32) (att : Int32) (place : Int32) (sort : Int32) (number : Int32) (fault : Int32) (faultPlace : Int32) (lastFault : Int32) (lastPlace : Int32) (toValue : Nat → Int32) (toWeight : Nat → Int32) (toMany : Int32) (often : Nat → Int32) (firstOf : Nat → Int32) (lastOf : Nat → Int32) (unlikes : Nat → Int32) (unlikeMany : Int32) (isCandidate : Nat → Int32) (modes : Nat → Int32) (fewest : Nat → Int32) (z6 : Int32 × Int32) (ls : Array Slot) (H : Heap) (locs : List Loc), lv_has ls 8 [(0, .ref (ad 0)), (1, .int x1), (2, .int x2), (3, .int x3), (4, .int x4), (5, .int x5), (6, .int x6), (7, .int x7)] → va_P D vwCl (wX6 cA ad thrown tape taped value weight many block ties lines pastValue pastWeight pastMany undos fresh newValue newWeight newMany newBlock newTies newLines hasBlock hasTies size att place sort number fault faultPlace lastFault lastPlace toValue toWeight toMany often firstOf lastOf unlikes unlikeMany isCandidate modes fewest) H → va_D A (wX6 cA ad thrown tape taped value weight many block ties lines pastValue pastWeight pastMany undos fresh newValue newWeight newMany newBlock newTies newLines hasBlock hasTies size att place sort number fault faultPlace lastFault lastPlace toValue toWeight toMany often firstOf lastOf unlikes unlikeMany isCandidate modes fewest) → va_S A s.heap H locs → mX6_tightest_L47 value many x1 x5 n x6 x7 = some z6 → (∀ (ls : Array Slot) (H : Heap) (locs : List Loc), lv_has ls 8 [(0, .ref (ad 0)), (1, .int x1), (2, .int x2), (3, .int x3), (4, .int x4), (5, .int x5), (6, .int z6.1), (7, .int z6.2)] → va_P D vwCl (wX6 cA ad thrown tape taped value weight many block ties lines pastValue pastWeight pastMany undos fresh newValue newWeight newMany newBlock newTies newLines hasBlock hasTies size att place sort number fault faultPlace lastFault lastPlace toValue toWeight toMany often firstOf lastOf unlikes unlikeMany isCandidate modes fewest) H → va_D A (wX6 cA ad thrown tape taped value weight many block ties lines pastValue pastWeight pastMany undos fresh newValue newWeight newMany newBlock newTies newLines hasBlock hasTies size att place sort number fault faultPlace lastFault lastPlace toValue toWeight toMany often firstOf lastOf unlikes unlikeMany isCandidate modes fewest) → va_S A s.heap H locs → W p l e (headSpec wsX6_tightest { frames := 0, cells := 0, slots := 0, locals := 0 }).room s m args below meth c H locs 0 0 Q (F0 m 95 ls [])) → W p l e (headSpec wsX6_tightest { frames := 0, cells := 0, slots := 0, locals := 0 }).room s m args below meth c H locs 0 0 Q (F0 m 47 ls []) := by
                intro n
                induction n with
                | zero => intro x1 x2 x3 x4 x5 x6 x7 thrown tape taped value weight many block ties lines pastValue pastWeight pastMany undos fresh newValue newWeight newMany newBlock newTies newLines hasBlock hasTies size att place sort number fault faultPlace lastFault lastPlace toValue toWeight toMany often firstOf lastOf unlikes unlikeMany isCandidate modes fewest z6 ls H locs hl hP hD hS h hk47; exact e_n h
                | succ n ih47 =>
                  intro x1 x2 x3 x4 x5 x6 x7 thrown tape taped value weight many block ties lines pastValue pastWeight pastMany undos fresh newValue newWeight newMany newBlock newTies newLines hasBlock hasTies size att place sort number fault faultPlace lastFault lastPlace toValue toWeight toMany often firstOf lastOf unlikes unlikeMany isCandidate modes fewest z6 ls H locs hl hP hD hS h hk47
                  rw [mX6_tightest_L47.eq_2] at h
                  refine lv_iload hx hb dX6_tightest_47 (lv_at hl 7 rfl) ?_
                  refine lv_aload_n hx hb dX6_tightest_49 rfl (lv_at hl 0 rfl) ?_
                  refine va_get (D := D) (ci := 6) (v := .int many) (C := RX6) (T := TX6) (N := 42) hx hb hts iX6 hown hK hP 0 rfl rfl 5 (Nat.le_of_ble_eq_true rfl) f175 (fun _ h9 => h9) rfl dX6_tightest_50 ?_
                  refine lv_icmp_ge (tgt := 95) hx hb dX6_tightest_53 (by decide) (fun c7 => ?_) (fun c7 => ?_)
                  · have h := e_t c7 h
                    obtain rfl := e_s h
                    exact hk47 _ _ _ (lv_sub hl [0, 1, 2, 3, 4, 5, 6, 7] rfl) hP hD hS
                  · have h := e_f c7 h
                    refine lv_iload hx hb dX6_tightest_56 (lv_at hl 6 rfl) ?_
                    refine lv_iload_n hx hb dX6_tightest_58 rfl (lv_at hl 1 rfl) ?_
                    refine lv_icmp_ge (tgt := 95) hx hb dX6_tightest_59 (by decide) (fun c8 => ?_) (fun c8 => ?_)
                    · have h := e_t c8 h
                      obtain rfl := e_s h
                      exact hk47 _ _ _ (lv_sub hl [0, 1, 2, 3, 4, 5, 6, 7] rfl) hP hD hS
                    · have h := e_f c8 h
                      refine lv_iload hx hb dX6_tightest_62 (lv_at hl 6 rfl) ?_
                      refine lv_aload_n hx hb dX6_tightest_64 rfl (lv_at hl 0 rfl) ?_
                      refine va_get (D := D) (ci := 6) (v := .ref (ad 2)) (C := RX6) (T := TX6) (N := 42) hx hb hts iX6 hown hK hP 0 rfl rfl 3 (Nat.le_of_ble_eq_true rfl) f13 (fun _ h9 => h9) rfl dX6_tightest_65 ?_
                      refine lv_iload hx hb dX6_tightest_68 (lv_at hl 7 rfl) ?_
                      obtain ⟨v9, ev9, nv9, h⟩ := e_rd h
                      refine xa_iald hx hb hK hP 2 rfl nv9 ev9 dX6_tightest_70 ?_
                      refine lv_aload_n hx hb dX6_tightest_71 rfl (lv_at hl 0 rfl) ?_
                      refine va_get (D := D) (ci := 6) (v := .ref (ad 2)) (C := RX6) (T := TX6) (N := 42) hx hb hts iX6 hown hK hP 0 rfl rfl 3 (Nat.le_of_ble_eq_true rfl) f13 (fun _ h9 => h9) rfl dX6_tightest_72 ?_
                      refine lv_iload hx hb dX6_tightest_75 (lv_at hl 5 rfl) ?_
                      obtain ⟨v10, ev10, nv10, h⟩ := e_rd h
                      refine xa_iald hx hb hK hP 2 rfl nv10 ev10 dX6_tightest_77 ?_
                      refine lv_icmp_ne (tgt := 85) hx hb dX6_tightest_78 (by decide) (fun c11 => ?_) (fun c11 => ?_)
                      · have h := e_t c11 h
                        refine lv_iconst (v := 0) hx hb dX6_tightest_85 (by decide) ?_
                        refine lv_iadd hx hb dX6_tightest_86 ?_
                        refine lv_istore (lv' := [(6, .int (x6 + 0)), (0, .ref (ad 0)), (1, .int x1), (2, .int x2), (3, .int x3), (4, .int x4), (5, .int x5), (7, .int x7)]) hx hb dX6_tightest_87 hl (by decide) rfl (fun ls hl => ?_)
                        refine lv_iinc (v := (x7 + 1)) (lv' := [(7, .int (x7 + 1)), (6, .int (x6 + 0)), (0, .ref (ad 0)), (1, .int x1), (2, .int x2), (3, .int x3), (4, .int x4), (5, .int x5)]) hx hb dX6_tightest_89 hl (k := 7) rfl rfl (by decide) rfl (fun ls hl => ?_)
                        refine lv_goto (tgt := 47) hx hb dX6_tightest_92 (by decide) ?_
                        exact ih47 x1 x2 x3 x4 x5 (x6 + 0) (x7 + 1) thrown tape taped value weight many block ties lines pastValue pastWeight pastMany undos fresh newValue newWeight newMany newBlock newTies newLines hasBlock hasTies size att place sort number fault faultPlace lastFault lastPlace toValue toWeight toMany often firstOf lastOf unlikes unlikeMany isCandidate modes fewest z6 _ _ _ (lv_sub hl [2, 3, 4, 5, 6, 7, 1, 0] rfl) hP hD hS h hk47
                      · have h := e_f (not_not_intro c11) h
                        refine lv_iconst (v := 1) hx hb dX6_tightest_81 (by decide) ?_
                        refine lv_goto (tgt := 86) hx hb dX6_tightest_82 (by decide) ?_
                        refine lv_iadd hx hb dX6_tightest_86 ?_
                        refine lv_istore (lv' := [(6, .int (x6 + 1)), (0, .ref (ad 0)), (1, .int x1), (2, .int x2), (3, .int x3), (4, .int x4), (5, .int x5), (7, .int x7)]) hx hb dX6_tightest_87 hl (by decide) rfl (fun ls hl => ?_)
                        refine lv_iinc (v := (x7 + 1)) (lv' := [(7, .int (x7 + 1)), (6, .int (x6 + 1)), (0, .ref (ad 0)), (1, .int x1), (2, .int x2), (3, .int x3), (4, .int x4), (5, .int x5)]) hx hb dX6_tightest_89 hl (k := 7) rfl rfl (by decide) rfl (fun ls hl => ?_)
                        refine lv_goto (tgt := 47) hx hb dX6_tightest_92 (by decide) ?_
                        exact ih47 x1 x2 x3 x4 x5 (x6 + 1) (x7 + 1) thrown tape taped value weight many block ties lines pastValue pastWeight pastMany undos fresh newValue newWeight newMany newBlock newTies newLines hasBlock hasTies size att place sort number fault faultPlace lastFault lastPlace toValue toWeight toMany often firstOf lastOf unlikes unlikeMany isCandidate modes fewest z6 _ _ _ (lv_sub hl [2, 3, 4, 5, 6, 7, 1, 0] rfl) hP hD hS h hk47
              obtain ⟨z12, ez12, h⟩ := e_b h
              refine hL47 FU x1 x2 x3 x4 x5 0 x5 thrown tape taped value weight many block ties lines pastValue pastWeight pastMany undos fresh newValue newWeight newMany newBlock newTies newLines hasBlock hasTies size att place sort number fault faultPlace lastFault lastPlace toValue toWeight toMany often firstOf lastOf unlikes unlikeMany isCandidate modes fewest z12 _ _ _ (lv_sub hl [2, 3, 4, 5, 6, 7, 1, 0] rfl) hP hD hS ez12 (fun ls H locs hl hP hD hS => ?_)
              refine lv_iload hx hb dX6_tightest_95 (lv_at hl 6 rfl) ?_
              refine lv_iload_n hx hb dX6_tightest_97 rfl (lv_at hl 1 rfl) ?_
              refine lv_icmp_lt (tgt := 124) hx hb dX6_tightest_98 (by decide) (fun c13 => ?_) (fun c13 => ?_)
              · have h := e_t c13 h
                refine lv_iinc (v := (x5 + 1)) (lv' := [(5, .int (x5 + 1)), (0, .ref (ad 0)), (1, .int x1), (2, .int x2), (3, .int x3), (4, .int x4), (6, .int z12.1), (7, .int z12.2)]) hx hb dX6_tightest_124 hl (k := 5) rfl rfl (by decide) rfl (fun ls hl => ?_)
                refine lv_goto (tgt := 31) hx hb dX6_tightest_127 (by decide) ?_
                exact ih31 x1 x2 x3 x4 (x5 + 1) thrown tape taped value weight many block ties lines pastValue pastWeight pastMany undos fresh newValue newWeight newMany newBlock newTies newLines hasBlock hasTies size att place sort number fault faultPlace lastFault lastPlace toValue toWeight toMany often firstOf lastOf unlikes unlikeMany isCandidate modes fewest z4 _ _ _ (lv_sub hl [1, 2, 3, 4, 5, 0] rfl) hP hD hS h hk31
              · have h := e_f c13 h
                refine lv_iload hx hb dX6_tightest_101 (lv_at hl 7 rfl) ?_
                refine lv_iload hx hb dX6_tightest_103 (lv_at hl 5 rfl) ?_
                refine lv_isub hx hb dX6_tightest_105 ?_
                refine lv_iload hx hb dX6_tightest_106 (lv_at hl 4 rfl) ?_
                refine lv_icmp_lt (tgt := 114) hx hb dX6_tightest_108 (by decide) (fun c14 => ?_) (fun c14 => ?_)
                · have h := e_t c14 h
                  refine lv_iload hx hb dX6_tightest_114 (lv_at hl 5 rfl) ?_
                  refine lv_istore_n (lv' := [(3, .int x5), (0, .ref (ad 0)), (1, .int x1), (2, .int x2), (4, .int x4), (5, .int x5), (6, .int z12.1), (7, .int z12.2)]) hx hb dX6_tightest_116 rfl hl (by decide) rfl (fun ls hl => ?_)
                  refine lv_iload hx hb dX6_tightest_117 (lv_at hl 7 rfl) ?_
                  refine lv_iload hx hb dX6_tightest_119 (lv_at hl 5 rfl) ?_
                  refine lv_isub hx hb dX6_tightest_121 ?_
                  refine lv_istore (lv' := [(4, .int (z12.2 - x5)), (3, .int x5), (0, .ref (ad 0)), (1, .int x1), (2, .int x2), (5, .int x5), (6, .int z12.1), (7, .int z12.2)]) hx hb dX6_tightest_122 hl (by decide) rfl (fun ls hl => ?_)
                  refine lv_iinc (v := (x5 + 1)) (lv' := [(5, .int (x5 + 1)), (4, .int (z12.2 - x5)), (3, .int x5), (0, .ref (ad 0)), (1, .int x1), (2, .int x2), (6, .int z12.1), (7, .int z12.2)]) hx hb dX6_tightest_124 hl (k := 5) rfl rfl (by decide) rfl (fun ls hl => ?_)
                  refine lv_goto (tgt := 31) hx hb dX6_tightest_127 (by decide) ?_
                  exact ih31 x1 x2 x5 (z12.2 - x5) (x5 + 1) thrown tape taped value weight many block ties lines pastValue pastWeight pastMany undos fresh newValue newWeight newMany newBlock newTies newLines hasBlock hasTies size att place sort number fault faultPlace lastFault lastPlace toValue toWeight toMany often firstOf lastOf unlikes unlikeMany isCandidate modes fewest z4 _ _ _ (lv_sub hl [3, 4, 5, 2, 1, 0] rfl) hP hD hS h hk31
                · have h := e_f c14 h
                  refine lv_goto (tgt := 124) hx hb dX6_tightest_111 (by decide) ?_
                  refine lv_iinc (v := (x5 + 1)) (lv' := [(5, .int (x5 + 1)), (0, .ref (ad 0)), (1, .int x1), (2, .int x2), (3, .int x3), (4, .int x4), (6, .int z12.1), (7, .int z12.2)]) hx hb dX6_tightest_124 hl (k := 5) rfl rfl (by decide) rfl (fun ls hl => ?_)
                  refine lv_goto (tgt := 31) hx hb dX6_tightest_127 (by decide) ?_
                  exact ih31 x1 x2 x3 x4 (x5 + 1) thrown tape taped value weight many block ties lines pastValue pastWeight pastMany undos fresh newValue newWeight newMany newBlock newTies newLines hasBlock hasTies size att place sort number fault faultPlace lastFault lastPlace toValue toWeight toMany often firstOf lastOf unlikes unlikeMany isCandidate modes fewest z4 _ _ _ (lv_sub hl [1, 2, 3, 4, 5, 0] rfl) hP hD hS h hk31
        obtain ⟨z15, ez15, h⟩ := e_b h
        refine hL31 FU x1 x2 (-2) 121 0 0 tape taped value weight many block ties lines pastValue pastWeight pastMany undos fresh newValue newWeight newMany newBlock newTies newLines hasBlock hasTies size att place sort number fault faultPlace lastFault lastPlace toValue toWeight toMany often firstOf lastOf unlikes unlikeMany isCandidate modes fewest z15 _ _ _ (lv_sub hl [3, 4, 5, 2, 1, 0] rfl) hP hD hS ez15 (fun ls H locs hl hP hD hS => ?_)
        refine lv_iload_n hx hb dX6_tightest_130 rfl (lv_at hl 2 rfl) ?_
        refine lv_bipush (v := (-2)) hx hb dX6_tightest_131 (by decide) ?_
        refine lv_icmp_eq (tgt := 140) hx hb dX6_tightest_133 (by decide) (fun c16 => ?_) (fun c16 => ?_)
        · have h := e_t c16 h
          refine lv_iload_n hx hb dX6_tightest_140 rfl (lv_at hl 2 rfl) ?_
          refine lv_goto (tgt := 164) hx hb dX6_tightest_141 (by decide) ?_
          obtain rfl := e_s h
          exact hret hP hS rfl dX6_tightest_164
        · have h := e_f c16 h
          refine lv_iload_n hx hb dX6_tightest_136 rfl (lv_at hl 1 rfl) ?_
          refine lv_if_ne (tgt := 144) hx hb dX6_tightest_137 (by decide) (fun c17 => ?_) (fun c17 => ?_)
          · have h := e_t c17 h
            refine lv_iload_n hx hb dX6_tightest_144 rfl (lv_at hl 1 rfl) ?_
            refine lv_iconst (v := 1) hx hb dX6_tightest_145 (by decide) ?_
            refine lv_icmp_ne (tgt := 158) hx hb dX6_tightest_146 (by decide) (fun c18 => ?_) (fun c18 => ?_)
            · have h := e_t c18 h
              refine lv_aload_n hx hb dX6_tightest_158 rfl (lv_at hl 0 rfl) ?_
              refine va_get (D := D) (ci := 6) (v := .ref (ad 2)) (C := RX6) (T := TX6) (N := 42) hx hb hts iX6 hown hK hP 0 rfl rfl 3 (Nat.le_of_ble_eq_true rfl) f13 (fun _ h9 => h9) rfl dX6_tightest_159 ?_
              refine lv_iload_n hx hb dX6_tightest_162 rfl (lv_at hl 2 rfl) ?_
              obtain ⟨v19, ev19, nv19, h⟩ := e_rd h
              refine xa_iald hx hb hK hP 2 rfl nv19 ev19 dX6_tightest_163 ?_
              obtain rfl := e_s h
              exact hret hP hS rfl dX6_tightest_164
            · have h := e_f (not_not_intro c18) h
              refine lv_iload_n hx hb dX6_tightest_149 rfl (lv_at hl 2 rfl) ?_
              refine lv_iload hx hb dX6_tightest_150 (lv_at hl 3 rfl) ?_
              refine lv_iadd hx hb dX6_tightest_152 ?_
              refine lv_iconst (v := 1) hx hb dX6_tightest_153 (by decide) ?_
              refine lv_isub hx hb dX6_tightest_154 ?_
              refine lv_goto (tgt := 164) hx hb dX6_tightest_155 (by decide) ?_
              obtain rfl := e_s h
              exact hret hP hS rfl dX6_tightest_164
          · have h := e_f (not_not_intro c17) h
            refine lv_iload_n hx hb dX6_tightest_140 rfl (lv_at hl 2 rfl) ?_
            refine lv_goto (tgt := 164) hx hb dX6_tightest_141 (by decide) ?_
            obtain rfl := e_s h
            exact hret hP hS rfl dX6_tightest_164
      · have h := e_f c3 h
        refine lv_iconst (v := (-1)) hx hb dX6_tightest_19 (by decide) ?_
        obtain rfl := e_s h
        exact hret hP hS rfl dX6_tightest_20

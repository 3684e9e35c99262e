set_option maxHeartbeats 4000000 in
set_option maxRecDepth 100000 in
theorem kX6_over (l : Launch) (D : va_G) (cA : Nat → ClassId) (ad : Nat → Nat) (thrown : Int32) (tape : Nat → Int32) (taped : Int32) (value : Nat → Int32) (weight : Nat → Int32) (many : Int32) (block : Int32) (ties : Int32) (lines : Int32) (pastValue : Nat → Int32) (pastWeight : Nat → Int32) (pastMany : Nat → Int32) (undos : Int32) (fresh : Int32) (newValue : Nat → Int32) (newWeight : Nat → Int32) (newMany : Int32) (newBlock : Int32) (newTies : Int32) (newLines : Int32) (hasBlock : Int32) (hasTies : Int32) (size : Int32) (att : Int32) (place : Int32) (sort : Int32) (number : Int32) (fault : Int32) (faultPlace : Int32) (lastFault : Int32) (lastPlace : Int32) (toValue : Nat → Int32) (toWeight : Nat → Int32) (toMany : Int32) (often : Nat → Int32) (firstOf : Nat → Int32) (lastOf : Nat → Int32) (unlikes : Nat → Int32) (unlikeMany : Int32) (isCandidate : Nat → Int32) (modes : Nat → Int32) (fewest : Nat → Int32) (x1 : Int32) (x2 : Int32) (q : Int32) (h : mX6_over often unlikes unlikeMany x1 x2 = some q) : MI l yX6_over wsX6_over { frames := 0, cells := 0, slots := 0, locals := 0 } D cA .int [.ref (ad 0), .int x1, .int x2] (wX6 cA ad thrown tape taped value weight many block ties lines pastValue pastWeight pastMany undos fresh newValue newWeight newMany newBlock newTies newLines hasBlock hasTies size att place sort number fault faultPlace lastFault lastPlace toValue toWeight toMany often firstOf lastOf unlikes unlikeMany isCandidate modes fewest) (wX6 cA ad thrown tape taped value weight many block ties lines pastValue pastWeight pastMany undos fresh newValue newWeight newMany newBlock newTies newLines hasBlock hasTies size att place sort number fault faultPlace lastFault lastPlace toValue toWeight toMany often firstOf lastOf unlikes unlikeMany isCandidate modes fewest) q := by
  refine MI.of (cc := cX6_over) (maxL := 6) (by decide +kernel) rfl rfl rfl (Nat.le_of_ble_eq_true rfl) ?_
  intro p e s m args below meth c A ls Q hx hb hml hts hown hK hP hD hA hS hl hret
  have hl : lv_has ls 6 [(0, .ref (ad 0)), (1, .int x1), (2, .int x2)] := hl
  have f242 := hts (.fieldLink RX6 242 "ModeDeskModel" "unlikeMany" "I") (by decide +kernel)
  have f47 := hts (.fieldLink RX6 47 "ModeDeskModel" "often" "[I") (by decide +kernel)
  have f56 := hts (.fieldLink RX6 56 "ModeDeskModel" "unlikes" "[I") (by decide +kernel)
  have iX6 : ∀ w ∈ wsX60, w ∈ wsX6_over := by decide +kernel
  unfold mX6_over at h
  refine lv_iconst (v := 0) hx hb dX6_over_0 (by decide) ?_
  refine lv_istore_n (lv' := [(3, .int 0), (0, .ref (ad 0)), (1, .int x1), (2, .int x2)]) hx hb dX6_over_1 rfl hl (by decide) rfl (fun ls hl => ?_)
  refine lv_iconst (v := 0) hx hb dX6_over_2 (by decide) ?_
  refine lv_istore (lv' := [(4, .int 0), (3, .int 0), (0, .ref (ad 0)), (1, .int x1), (2, .int x2)]) hx hb dX6_over_3 hl (by decide) rfl (fun ls hl => ?_)
  have hL5 : ∀ (n : Nat) (x1 : Int32) (x2 : Int32) (x3 : Int32) (x4 : Int32) (thrown : Int32) (tape : Nat → Int32) (taped : Int32) (value : Nat → Int32) (weight : Nat → Int32) (many : Int32) (block : Int32) (ties : Int32) (lines : Int32) (pastValue : Nat → Int32) (pastWeight : Nat → Int32) (pastMany : Nat → Int32) (undos : Int32) (fresh : Int32) (newValue : Nat → Int32) (newWeight : Nat → Int32) (newMany : Int32) (newBlock : Int32) (newTies : Int32) (newLines : Int32) (hasBlock : Int32) (hasTies : Int32) (size : Int32) (att : Int32) (place : Int32) (sort : Int32) (number : Int32) (fault : Int32) (faultPlace : Int32) (lastFault : Int32) (lastPlace : Int32) (toValue : Nat → Int32) (toWeight : Nat → Int32) (toMany : Int32) (often : Nat → Int32) (firstOf : Nat → Int32) (lastOf : Nat → Int32) (unlikes : Nat → Int32) (unlikeMany : Int32) (isCandidate : Nat → Int32) (modes : Nat → Int32) (fewest : Nat → Int32) (z1 : Int32) (ls : Array Slot) (H : Heap) (locs : List Loc), lv_has ls 6 [(0, .ref (ad 0)), (1, .int x1), (2, .int x2), (3, .int x3), (4, .int x4)] → va_P D vwCl (wX6 cA ad thrown tape taped value weight many block ties lines pastValue pastWeight pastMany undos fresh newValue newWeight newMany newBlock newTies newLines hasBlock hasTies size att place sort number fault faultPlace lastFault lastPlace toValue toWeight toMany often firstOf lastOf unlikes unlikeMany isCandidate modes fewest) H → va_D A (wX6 cA ad thrown tape taped value weight many block ties lines pastValue pastWeight pastMany undos fresh newValue newWeight newMany newBlock newTies newLines hasBlock hasTies size att place sort number fault faultPlace lastFault lastPlace toValue toWeight toMany often firstOf lastOf unlikes unlikeMany isCandidate modes fewest) → va_S A s.heap H locs → mX6_over_L5 often unlikes unlikeMany x1 x2 n x3 x4 = some z1 → (∀ (ls : Array Slot) (H : Heap) (locs : List Loc), lv_has ls 6 [(3, .int z1)] → va_P D vwCl (wX6 cA ad thrown tape taped value weight many block ties lines pastValue pastWeight pastMany undos fresh newValue newWeight newMany newBlock newTies newLines hasBlock hasTies size att place sort number fault faultPlace lastFault lastPlace toValue toWeight toMany often firstOf lastOf unlikes unlikeMany isCandidate modes fewest) H → va_D A (wX6 cA ad thrown tape taped value weight many block ties lines pastValue pastWeight pastMany undos fresh newValue newWeight newMany newBlock newTies newLines hasBlock hasTies size att place sort number fault faultPlace lastFault lastPlace toValue toWeight toMany often firstOf lastOf unlikes unlikeMany isCandidate modes fewest) → va_S A s.heap H locs → W p l e (headSpec wsX6_over { frames := 0, cells := 0, slots := 0, locals := 0 }).room s m args below meth c H locs 0 0 Q (F0 m 62 ls [])) → W p l e (headSpec wsX6_over { frames := 0, cells := 0, slots := 0, locals := 0 }).room s m args below meth c H locs 0 0 Q (F0 m 5 ls []) := by
    intro n
    induction n with
    | zero => intro x1 x2 x3 x4 thrown tape taped value weight many block ties lines pastValue pastWeight pastMany undos fresh newValue newWeight newMany newBlock newTies newLines hasBlock hasTies size att place sort number fault faultPlace lastFault lastPlace toValue toWeight toMany often firstOf lastOf unlikes unlikeMany isCandidate modes fewest z1 ls H locs hl hP hD hS h hk5; exact e_n h
    | succ n ih5 =>
      intro x1 x2 x3 x4 thrown tape taped value weight many block ties lines pastValue pastWeight pastMany undos fresh newValue newWeight newMany newBlock newTies newLines hasBlock hasTies size att place sort number fault faultPlace lastFault lastPlace toValue toWeight toMany often firstOf lastOf unlikes unlikeMany isCandidate modes fewest z1 ls H locs hl hP hD hS h hk5
      rw [mX6_over_L5.eq_2] at h
      refine lv_iload hx hb dX6_over_5 (lv_at hl 4 rfl) ?_
      refine lv_aload_n hx hb dX6_over_7 rfl (lv_at hl 0 rfl) ?_
      refine va_get (D := D) (ci := 6) (v := .int unlikeMany) (C := RX6) (T := TX6) (N := 42) hx hb hts iX6 hown hK hP 0 rfl rfl 38 (Nat.le_of_ble_eq_true rfl) f242 (fun _ h9 => h9) rfl dX6_over_8 ?_
      refine lv_icmp_ge (tgt := 62) hx hb dX6_over_11 (by decide) (fun c2 => ?_) (fun c2 => ?_)
      · have h := e_t c2 h
        obtain rfl := e_s h
        exact hk5 _ _ _ (lv_sub hl [3] rfl) hP hD hS
      · have h := e_f c2 h
        refine lv_aload_n hx hb dX6_over_14 rfl (lv_at hl 0 rfl) ?_
        refine va_get (D := D) (ci := 6) (v := .ref (ad 14)) (C := RX6) (T := TX6) (N := 42) hx hb hts iX6 hown hK hP 0 rfl rfl 37 (Nat.le_of_ble_eq_true rfl) f56 (fun _ h9 => h9) rfl dX6_over_15 ?_
        refine lv_iload hx hb dX6_over_18 (lv_at hl 4 rfl) ?_
        obtain ⟨v3, ev3, nv3, h⟩ := e_rd h
        refine xa_iald hx hb hK hP 14 rfl nv3 ev3 dX6_over_20 ?_
        refine lv_istore (lv' := [(5, .int v3), (0, .ref (ad 0)), (1, .int x1), (2, .int x2), (3, .int x3), (4, .int x4)]) hx hb dX6_over_21 hl (by decide) rfl (fun ls hl => ?_)
        refine lv_iload_n hx hb dX6_over_23 rfl (lv_at hl 4 rfl) ?_
        refine lv_iload hx hb dX6_over_24 (lv_at hl 0 rfl) ?_
        refine lv_iload_n hx hb dX6_over_26 rfl (lv_at hl 3 rfl) ?_
        refine lv_icmp_eq (tgt := 53) hx hb dX6_over_27 (by decide) (fun c4 => ?_) (fun c4 => ?_)
        · have h := e_t c4 h
          refine lv_iconst (v := 0) hx hb dX6_over_53 (by decide) ?_
          refine lv_iadd hx hb dX6_over_54 ?_
          refine lv_istore_n (lv' := [(3, .int (x3 + 0)), (5, .int v3), (0, .ref (ad 0)), (1, .int x1), (2, .int x2), (4, .int x4)]) hx hb dX6_over_55 rfl hl (by decide) rfl (fun ls hl => ?_)
          refine lv_iinc (v := (x4 + 1)) (lv' := [(4, .int (x4 + 1)), (3, .int (x3 + 0)), (5, .int v3), (0, .ref (ad 0)), (1, .int x1), (2, .int x2)]) hx hb dX6_over_56 hl (k := 5) rfl rfl (by decide) rfl (fun ls hl => ?_)
          refine lv_goto (tgt := 5) hx hb dX6_over_59 (by decide) ?_
          exact ih5 x1 x2 (x3 + 0) (x4 + 1) thrown tape taped value weight many block ties lines pastValue pastWeight pastMany undos fresh newValue newWeight newMany newBlock newTies newLines hasBlock hasTies size att place sort number fault faultPlace lastFault lastPlace toValue toWeight toMany often firstOf lastOf unlikes unlikeMany isCandidate modes fewest z1 _ _ _ (lv_sub hl [3, 4, 5, 1, 0] rfl) hP hD hS h hk5
        · have h := e_f c4 h
          refine lv_aload_n hx hb dX6_over_30 rfl (lv_at hl 1 rfl) ?_
          refine va_get (D := D) (ci := 6) (v := .ref (ad 11)) (C := RX6) (T := TX6) (N := 42) hx hb hts iX6 hown hK hP 0 rfl rfl 34 (Nat.le_of_ble_eq_true rfl) f47 (fun _ h9 => h9) rfl dX6_over_31 ?_
          refine lv_iload hx hb dX6_over_34 (lv_at hl 0 rfl) ?_
          obtain ⟨v5, ev5, nv5, h⟩ := e_rd h
          refine xa_iald hx hb hK hP 11 rfl nv5 ev5 dX6_over_36 ?_
          refine lv_iload_n hx hb dX6_over_37 rfl (lv_at hl 2 rfl) ?_
          refine lv_icmp_le (tgt := 53) hx hb dX6_over_38 (by decide) (fun c6 => ?_) (fun c6 => ?_)
          · have h := e_t c6 h
            refine lv_iconst (v := 0) hx hb dX6_over_53 (by decide) ?_
            refine lv_iadd hx hb dX6_over_54 ?_
            refine lv_istore_n (lv' := [(3, .int (x3 + 0)), (5, .int v3), (0, .ref (ad 0)), (1, .int x1), (2, .int x2), (4, .int x4)]) hx hb dX6_over_55 rfl hl (by decide) rfl (fun ls hl => ?_)
            refine lv_iinc (v := (x4 + 1)) (lv' := [(4, .int (x4 + 1)), (3, .int (x3 + 0)), (5, .int v3), (0, .ref (ad 0)), (1, .int x1), (2, .int x2)]) hx hb dX6_over_56 hl (k := 5) rfl rfl (by decide) rfl (fun ls hl => ?_)
            refine lv_goto (tgt := 5) hx hb dX6_over_59 (by decide) ?_
            exact ih5 x1 x2 (x3 + 0) (x4 + 1) thrown tape taped value weight many block ties lines pastValue pastWeight pastMany undos fresh newValue newWeight newMany newBlock newTies newLines hasBlock hasTies size att place sort number fault faultPlace lastFault lastPlace toValue toWeight toMany often firstOf lastOf unlikes unlikeMany isCandidate modes fewest z1 _ _ _ (lv_sub hl [3, 4, 5, 1, 0] rfl) hP hD hS h hk5
          · have h := e_f c6 h
            refine lv_aload_n hx hb dX6_over_41 rfl (lv_at hl 1 rfl) ?_
            refine va_get (D := D) (ci := 6) (v := .ref (ad 11)) (C := RX6) (T := TX6) (N := 42) hx hb hts iX6 hown hK hP 0 rfl rfl 34 (Nat.le_of_ble_eq_true rfl) f47 (fun _ h9 => h9) rfl dX6_over_42 ?_
            refine lv_iload hx hb dX6_over_45 (lv_at hl 0 rfl) ?_
            obtain ⟨v7, ev7, nv7, h⟩ := e_rd h
            refine xa_iald hx hb hK hP 11 rfl nv7 ev7 dX6_over_47 ?_
            refine lv_iload_n hx hb dX6_over_48 rfl (lv_at hl 2 rfl) ?_
            refine lv_isub hx hb dX6_over_49 ?_
            refine lv_goto (tgt := 54) hx hb dX6_over_50 (by decide) ?_
            refine lv_iadd hx hb dX6_over_54 ?_
            refine lv_istore_n (lv' := [(3, .int (x3 + (v7 - x1))), (5, .int v3), (0, .ref (ad 0)), (1, .int x1), (2, .int x2), (4, .int x4)]) hx hb dX6_over_55 rfl hl (by decide) rfl (fun ls hl => ?_)
            refine lv_iinc (v := (x4 + 1)) (lv' := [(4, .int (x4 + 1)), (3, .int (x3 + (v7 - x1))), (5, .int v3), (0, .ref (ad 0)), (1, .int x1), (2, .int x2)]) hx hb dX6_over_56 hl (k := 5) rfl rfl (by decide) rfl (fun ls hl => ?_)
            refine lv_goto (tgt := 5) hx hb dX6_over_59 (by decide) ?_
            exact ih5 x1 x2 (x3 + (v7 - x1)) (x4 + 1) thrown tape taped value weight many block ties lines pastValue pastWeight pastMany undos fresh newValue newWeight newMany newBlock newTies newLines hasBlock hasTies size att place sort number fault faultPlace lastFault lastPlace toValue toWeight toMany often firstOf lastOf unlikes unlikeMany isCandidate modes fewest z1 _ _ _ (lv_sub hl [3, 4, 5, 1, 0] rfl) hP hD hS h hk5
  obtain ⟨z8, ez8, h⟩ := e_b h
  refine hL5 FU x1 x2 0 0 thrown tape taped value weight many block ties lines pastValue pastWeight pastMany undos fresh newValue newWeight newMany newBlock newTies newLines hasBlock hasTies size att place sort number fault faultPlace lastFault lastPlace toValue toWeight toMany often firstOf lastOf unlikes unlikeMany isCandidate modes fewest z8 _ _ _ (lv_sub hl [2, 3, 4, 1, 0] rfl) hP hD hS ez8 (fun ls H locs hl hP hD hS => ?_)
  refine lv_iload_n hx hb dX6_over_62 rfl (lv_at hl 0 rfl) ?_
  obtain rfl := e_s h
  exact hret hP hS rfl dX6_over_63
set_option maxHeartbeats 4000000 in
set_option maxRecDepth 100000 in
theorem kX6_needed (l : Launch) (D : va_G) (cA : Nat → ClassId) (ad : Nat → Nat) (thrown : Int32) (tape : Nat → Int32) (taped : Int32) (value : Nat → Int32) (weight : Nat → Int32) (many : Int32) (block : Int32) (ties : Int32) (lines : Int32) (pastValue : Nat → Int32) (pastWeight : Nat → Int32) (pastMany : Nat → Int32) (undos : Int32) (fresh : Int32) (newValue : Nat → Int32) (newWeight : Nat → Int32) (newMany : Int32) (newBlock : Int32) (newTies : Int32) (newLines : Int32) (hasBlock : Int32) (hasTies : Int32) (size : Int32) (att : Int32) (place : Int32) (sort : Int32) (number : Int32) (fault : Int32) (faultPlace : Int32) (lastFault : Int32) (lastPlace : Int32) (toValue : Nat → Int32) (toWeight : Nat → Int32) (toMany : Int32) (often : Nat → Int32) (firstOf : Nat → Int32) (lastOf : Nat → Int32) (unlikes : Nat → Int32) (unlikeMany : Int32) (isCandidate : Nat → Int32) (modes : Nat → Int32) (fewest : Nat → Int32) (x1 : Int32) (x2 : Int32) (x3 : Int32) (q : Int32 × Int32 × (Nat → Int32) × (Nat → Int32) × (Nat → Int32) × (Nat → Int32) × Int32) (h : mX6_needed thrown value many often firstOf lastOf unlikes unlikeMany x1 x2 x3 = some q) : MI l yX6_needed wsX6_needed { frames := 1, cells := 0, slots := 0, locals := 25 } D cA .int [.ref (ad 0), .int x1, .int x2, .int x3] (wX6 cA ad thrown tape taped value weight many block ties lines pastValue pastWeight pastMany undos fresh newValue newWeight newMany newBlock newTies newLines hasBlock hasTies size att place sort number fault faultPlace lastFault lastPlace toValue toWeight toMany often firstOf lastOf unlikes unlikeMany isCandidate modes fewest) (wX6 cA ad q.2.1 tape taped value weight many block ties lines pastValue pastWeight pastMany undos fresh newValue newWeight newMany newBlock newTies newLines hasBlock hasTies size att place sort number fault faultPlace lastFault lastPlace toValue toWeight toMany q.2.2.1 q.2.2.2.1 q.2.2.2.2.1 q.2.2.2.2.2.1 q.2.2.2.2.2.2 isCandidate modes fewest) q.1 := by
  refine MI.of (cc := cX6_needed) (maxL := 5) (by decide +kernel) rfl rfl rfl (Nat.le_of_ble_eq_true rfl) ?_
  intro p e s m args below meth c A ls Q hx hb hml hts hown hK hP hD hA hS hl hret
  have hl : lv_has ls 5 [(0, .ref (ad 0)), (1, .int x1), (2, .int x2), (3, .int x3)] := hl
  have f47 := hts (.fieldLink RX6 47 "ModeDeskModel" "often" "[I") (by decide +kernel)
  have f72 := hts (.fieldLink RX6 72 "ModeDeskModel" "thrown" "I") (by decide +kernel)
  have iX6 : ∀ w ∈ wsX60, w ∈ wsX6_needed := by decide +kernel
  unfold mX6_needed at h
  refine lv_aload_n hx hb dX6_needed_0 rfl (lv_at hl 0 rfl) ?_
  refine lv_iconst (v := 0) hx hb dX6_needed_1 (by decide) ?_
  refine va_put (D := D) (ci := 6) (v := .int 0) (ty := .int) (C := RX6) (T := TX6) (N := 42) hx hb hts iX6 tyX6 tyX6_ok nmX6 hown hK hP hD hS 0 rfl rfl 0 (Nat.le_of_ble_eq_true rfl) f72 (fun _ h9 => h9) rfl (tyX6_ok 0 (Nat.le_of_ble_eq_true rfl)) rfl rfl (Nat.le_of_ble_eq_true rfl) dX6_needed_2 (fun H locs hP hD hS => ?_)
  have hP : va_P D vwCl (wX6 cA ad 0 tape taped value weight many block ties lines pastValue pastWeight pastMany undos fresh newValue newWeight newMany newBlock newTies newLines hasBlock hasTies size att place sort number fault faultPlace lastFault lastPlace toValue toWeight toMany often firstOf lastOf unlikes unlikeMany isCandidate modes fewest) H := hP
  have hD : va_D A (wX6 cA ad 0 tape taped value weight many block ties lines pastValue pastWeight pastMany undos fresh newValue newWeight newMany newBlock newTies newLines hasBlock hasTies size att place sort number fault faultPlace lastFault lastPlace toValue toWeight toMany often firstOf lastOf unlikes unlikeMany isCandidate modes fewest) := hD
  refine lv_aload_n hx hb dX6_needed_5 rfl (lv_at hl 0 rfl) ?_
  refine lv_iload_n hx hb dX6_needed_6 rfl (lv_at hl 1 rfl) ?_
  refine lv_iload_n hx hb dX6_needed_7 rfl (lv_at hl 2 rfl) ?_
  obtain ⟨q1, eq1, h⟩ := e_b h
  refine xv_i0 (As := [.int x1, .int x2]) (rest := []) (ci := 6) (b := ad 0) ⟨hx, hb, hml, hown, hts⟩ hl.1 (kX6_isSpan l D cA ad 0 tape taped value weight many block ties lines pastValue pastWeight pastMany undos fresh newValue newWeight newMany newBlock newTies newLines hasBlock hasTies size att place sort number fault faultPlace lastFault lastPlace toValue toWeight toMany often firstOf lastOf unlikes unlikeMany isCandidate modes fewest x1 x2  _ eq1) (cwV 2 hts gX6_needed_X6_isSpan rfl rfl rfl (by decide +kernel) ⟨Nat.le_of_ble_eq_true rfl, Nat.le_of_ble_eq_true rfl⟩) rfl hK hP hD hS hA 0 rfl rfl rfl rfl (Nat.le_of_ble_eq_true rfl) dX6_needed_8 ⟨Nat.zero_le _, Nat.zero_le _⟩ (fun H locs hP hD hS hnq1 => ?_)
  have hP : va_P D vwCl (wX6 cA ad 0 tape taped value weight many block ties lines pastValue pastWeight pastMany undos fresh newValue newWeight newMany newBlock newTies newLines hasBlock hasTies size att place sort number fault faultPlace lastFault lastPlace toValue toWeight toMany often firstOf lastOf unlikes unlikeMany isCandidate modes fewest) H := hP
  have hD : va_D A (wX6 cA ad 0 tape taped value weight many block ties lines pastValue pastWeight pastMany undos fresh newValue newWeight newMany newBlock newTies newLines hasBlock hasTies size att place sort number fault faultPlace lastFault lastPlace toValue toWeight toMany often firstOf lastOf unlikes unlikeMany isCandidate modes fewest) := hD
  refine lv_if_eq (tgt := 21) hx hb dX6_needed_11 (by decide) (fun c2 => ?_) (fun c2 => ?_)
  · have h := e_t c2 h
    refine lv_iconst (v := (-1)) hx hb dX6_needed_21 (by decide) ?_
    obtain rfl := e_s h
    exact hret hP hS rfl dX6_needed_22
  · have h := e_f c2 h
    refine lv_iload_n hx hb dX6_needed_14 rfl (lv_at hl 3 rfl) ?_
    obtain ⟨q3, eq3, h⟩ := e_b h
    refine xs_i (As := [.int x3]) (rest := []) ⟨hx, hb, hml, hown, hts⟩ hl.1 (kX6_isValue l D cA   x3  _ eq3) (va_cwS 1 hts gX6_needed_X6_isValue rfl rfl rfl (by decide +kernel) ⟨Nat.le_of_ble_eq_true rfl, Nat.le_of_ble_eq_true rfl⟩) rfl hK hP hD hS hA [] rfl (by decide +kernel) rfl (Nat.le_of_ble_eq_true rfl) dX6_needed_15 ⟨Nat.zero_le _, Nat.zero_le _⟩ (fun H locs hP hD hS hnq3 => ?_)
    have hP : va_P D vwCl (wX6 cA ad 0 tape taped value weight many block ties lines pastValue pastWeight pastMany undos fresh newValue newWeight newMany newBlock newTies newLines hasBlock hasTies size att place sort number fault faultPlace lastFault lastPlace toValue toWeight toMany often firstOf lastOf unlikes unlikeMany isCandidate modes fewest) H := hP
    have hD : va_D A (wX6 cA ad 0 tape taped value weight many block ties lines pastValue pastWeight pastMany undos fresh newValue newWeight newMany newBlock newTies newLines hasBlock hasTies size att place sort number fault faultPlace lastFault lastPlace toValue toWeight toMany often firstOf lastOf unlikes unlikeMany isCandidate modes fewest) := hD
    refine lv_if_ne (tgt := 23) hx hb dX6_needed_18 (by decide) (fun c4 => ?_) (fun c4 => ?_)
    · have h := e_t c4 h
      refine lv_aload_n hx hb dX6_needed_23 rfl (lv_at hl 0 rfl) ?_
      refine lv_iload_n hx hb dX6_needed_24 rfl (lv_at hl 1 rfl) ?_
      refine lv_iload_n hx hb dX6_needed_25 rfl (lv_at hl 2 rfl) ?_
      refine lv_iconst (v := (-1)) hx hb dX6_needed_26 (by decide) ?_
      obtain ⟨q5, eq5, h⟩ := e_b h
      refine xv_v0 (As := [.int x1, .int x2, .int (-1)]) (rest := []) (ci := 6) (b := ad 0) ⟨hx, hb, hml, hown, hts⟩ hl.1 (kX6_counts l D cA ad 0 tape taped value weight many block ties lines pastValue pastWeight pastMany undos fresh newValue newWeight newMany newBlock newTies newLines hasBlock hasTies size att place sort number fault faultPlace lastFault lastPlace toValue toWeight toMany often firstOf lastOf unlikes unlikeMany isCandidate modes fewest x1 x2 (-1)  _ eq5) (cwV 3 hts gX6_needed_X6_counts rfl rfl rfl (by decide +kernel) ⟨Nat.le_of_ble_eq_true rfl, Nat.le_of_ble_eq_true rfl⟩) rfl hK hP hD hS hA 0 rfl rfl rfl rfl (Nat.le_of_ble_eq_true rfl) dX6_needed_27 ⟨Nat.zero_le _, Nat.zero_le _⟩ (fun H locs hP hD hS => ?_)
      have hP : va_P D vwCl (wX6 cA ad 0 tape taped value weight many block ties lines pastValue pastWeight pastMany undos fresh newValue newWeight newMany newBlock newTies newLines hasBlock hasTies size att place sort number fault faultPlace lastFault lastPlace toValue toWeight toMany q5.1 q5.2.1 q5.2.2.1 q5.2.2.2.1 q5.2.2.2.2 isCandidate modes fewest) H := hP
      have hD : va_D A (wX6 cA ad 0 tape taped value weight many block ties lines pastValue pastWeight pastMany undos fresh newValue newWeight newMany newBlock newTies newLines hasBlock hasTies size att place sort number fault faultPlace lastFault lastPlace toValue toWeight toMany q5.1 q5.2.1 q5.2.2.1 q5.2.2.2.1 q5.2.2.2.2 isCandidate modes fewest) := hD
      refine lv_iconst (v := 0) hx hb dX6_needed_30 (by decide) ?_
      refine lv_istore (lv' := [(4, .int 0), (0, .ref (ad 0)), (1, .int x1), (2, .int x2), (3, .int x3)]) hx hb dX6_needed_31 hl (by decide) rfl (fun ls hl => ?_)
      have hL33 : ∀ (n : Nat) (x3 : Int32) (x4 : Int32) (thrown : Int32) (tape : Nat → Int32) (taped : Int32) (value : Nat → Int32) (weight : Nat → Int32) (many : Int32) (block : Int32) (ties : Int32) (lines : Int32) (pastValue : Nat → Int32) (pastWeight : Nat → Int32) (pastMany : Nat → Int32) (undos : Int32) (fresh : Int32) (newValue : Nat → Int32) (newWeight : Nat → Int32) (newMany : Int32) (newBlock : Int32) (newTies : Int32) (newLines : Int32) (hasBlock : Int32) (hasTies : Int32) (size : Int32) (att : Int32) (place : Int32) (sort : Int32) (number : Int32) (fault : Int32) (faultPlace : Int32) (lastFault : Int32) (lastPlace : Int32) (toValue : Nat → Int32) (toWeight : Nat → Int32) (toMany : Int32) (often : Nat → Int32) (firstOf : Nat → Int32) (lastOf : Nat → Int32) (unlikes : Nat → Int32) (unlikeMany : Int32) (isCandidate : Nat → Int32) (modes : Nat → Int32) (fewest : Nat → Int32) (z6 : Int32) (ls : Array Slot) (H : Heap) (locs : List Loc), lv_has ls 5 [(0, .ref (ad 0)), (3, .int x3), (4, .int x4)] → va_P D vwCl (wX6 cA ad thrown tape taped value weight many block ties lines pastValue pastWeight pastMany undos fresh newValue newWeight newMany newBlock newTies newLines hasBlock hasTies size att place sort number fault faultPlace lastFault lastPlace toValue toWeight toMany often firstOf lastOf unlikes unlikeMany isCandidate modes fewest) H → va_D A (wX6 cA ad thrown tape taped value weight many block ties lines pastValue pastWeight pastMany undos fresh newValue newWeight newMany newBlock newTies newLines hasBlock hasTies size att place sort number fault faultPlace lastFault lastPlace toValue toWeight toMany often firstOf lastOf unlikes unlikeMany isCandidate modes fewest) → va_S A s.heap H locs → mX6_needed_L33 often unlikes unlikeMany x3 n x4 = some z6 → (∀ (ls : Array Slot) (H : Heap) (locs : List Loc), lv_has ls 5 [(4, .int z6)] → va_P D vwCl (wX6 cA ad thrown tape taped value weight many block ties lines pastValue pastWeight pastMany undos fresh newValue newWeight newMany newBlock newTies newLines hasBlock hasTies size att place sort number fault faultPlace lastFault lastPlace toValue toWeight toMany often firstOf lastOf unlikes unlikeMany isCandidate modes fewest) H → va_D A (wX6 cA ad thrown tape taped value weight many block ties lines pastValue pastWeight pastMany undos fresh newValue newWeight newMany newBlock newTies newLines hasBlock hasTies size att place sort number fault faultPlace lastFault lastPlace toValue toWeight toMany often firstOf lastOf unlikes unlikeMany isCandidate modes fewest) → va_S A s.heap H locs → W p l e (headSpec wsX6_needed { frames := 1, cells := 0, slots := 0, locals := 25 }).room s m args below meth c H locs 0 0 Q (F0 m 60 ls [])) → W p l e (headSpec wsX6_needed { frames := 1, cells := 0, slots := 0, locals := 25 }).room s m args below meth c H locs 0 0 Q (F0 m 33 ls []) := by
        intro n
        induction n with
        | zero => intro x3 x4 thrown tape taped value weight many block ties lines pastValue pastWeight pastMany undos fresh newValue newWeight newMany newBlock newTies newLines hasBlock hasTies size att place sort number fault faultPlace lastFault lastPlace toValue toWeight toMany often firstOf lastOf unlikes unlikeMany isCandidate modes fewest z6 ls H locs hl hP hD hS h hk33; exact e_n h
        | succ n ih33 =>
          intro x3 x4 thrown tape taped value weight many block ties lines pastValue pastWeight pastMany undos fresh newValue newWeight newMany newBlock newTies newLines hasBlock hasTies size att place sort number fault faultPlace lastFault lastPlace toValue toWeight toMany often firstOf lastOf unlikes unlikeMany isCandidate modes fewest z6 ls H locs hl hP hD hS h hk33
          rw [mX6_needed_L33.eq_2] at h
          refine lv_aload_n hx hb dX6_needed_33 rfl (lv_at hl 0 rfl) ?_
          refine lv_aload_n hx hb dX6_needed_34 rfl (lv_at hl 0 rfl) ?_
          refine va_get (D := D) (ci := 6) (v := .ref (ad 11)) (C := RX6) (T := TX6) (N := 42) hx hb hts iX6 hown hK hP 0 rfl rfl 34 (Nat.le_of_ble_eq_true rfl) f47 (fun _ h9 => h9) rfl dX6_needed_35 ?_
          refine lv_iload_n hx hb dX6_needed_38 rfl (lv_at hl 1 rfl) ?_
          obtain ⟨v7, ev7, nv7, h⟩ := e_rd h
          refine xa_iald hx hb hK hP 11 rfl nv7 ev7 dX6_needed_39 ?_
          refine lv_iload hx hb dX6_needed_40 (lv_at hl 2 rfl) ?_
          refine lv_iadd hx hb dX6_needed_42 ?_
          refine lv_iconst (v := 1) hx hb dX6_needed_43 (by decide) ?_
          refine lv_isub hx hb dX6_needed_44 ?_
          refine lv_iload_n hx hb dX6_needed_45 rfl (lv_at hl 1 rfl) ?_
          obtain ⟨q8, eq8, h⟩ := e_b h
          refine xv_i0 (As := [.int ((v7 + x4) - 1), .int x3]) (rest := []) (ci := 6) (b := ad 0) ⟨hx, hb, hml, hown, hts⟩ hl.1 (kX6_over l D cA ad thrown tape taped value weight many block ties lines pastValue pastWeight pastMany undos fresh newValue newWeight newMany newBlock newTies newLines hasBlock hasTies size att place sort number fault faultPlace lastFault lastPlace toValue toWeight toMany often firstOf lastOf unlikes unlikeMany isCandidate modes fewest ((v7 + x4) - 1) x3  _ eq8) (cwV 2 hts gX6_needed_X6_over rfl rfl rfl (by decide +kernel) ⟨Nat.le_of_ble_eq_true rfl, Nat.le_of_ble_eq_true rfl⟩) rfl hK hP hD hS hA 0 rfl rfl rfl rfl (Nat.le_of_ble_eq_true rfl) dX6_needed_46 ⟨Nat.zero_le _, Nat.zero_le _⟩ (fun H locs hP hD hS hnq8 => ?_)
          have hP : va_P D vwCl (wX6 cA ad thrown tape taped value weight many block ties lines pastValue pastWeight pastMany undos fresh newValue newWeight newMany newBlock newTies newLines hasBlock hasTies size att place sort number fault faultPlace lastFault lastPlace toValue toWeight toMany often firstOf lastOf unlikes unlikeMany isCandidate modes fewest) H := hP
          have hD : va_D A (wX6 cA ad thrown tape taped value weight many block ties lines pastValue pastWeight pastMany undos fresh newValue newWeight newMany newBlock newTies newLines hasBlock hasTies size att place sort number fault faultPlace lastFault lastPlace toValue toWeight toMany often firstOf lastOf unlikes unlikeMany isCandidate modes fewest) := hD
          refine lv_iload hx hb dX6_needed_49 (lv_at hl 2 rfl) ?_
          refine lv_icmp_le (tgt := 60) hx hb dX6_needed_51 (by decide) (fun c9 => ?_) (fun c9 => ?_)
          · have h := e_t c9 h
            obtain rfl := e_s h
            exact hk33 _ _ _ (lv_sub hl [2] rfl) hP hD hS
          · have h := e_f c9 h
            refine lv_iinc (v := (x4 + 1)) (lv' := [(4, .int (x4 + 1)), (0, .ref (ad 0)), (3, .int x3)]) hx hb dX6_needed_54 hl (k := 2) rfl rfl (by decide) rfl (fun ls hl => ?_)
            refine lv_goto (tgt := 33) hx hb dX6_needed_57 (by decide) ?_
            exact ih33 x3 (x4 + 1) thrown tape taped value weight many block ties lines pastValue pastWeight pastMany undos fresh newValue newWeight newMany newBlock newTies newLines hasBlock hasTies size att place sort number fault faultPlace lastFault lastPlace toValue toWeight toMany often firstOf lastOf unlikes unlikeMany isCandidate modes fewest z6 _ _ _ (lv_sub hl [1, 2, 0] rfl) hP hD hS h hk33
      obtain ⟨z10, ez10, h⟩ := e_b h
      refine hL33 FU x3 0 0 tape taped value weight many block ties lines pastValue pastWeight pastMany undos fresh newValue newWeight newMany newBlock newTies newLines hasBlock hasTies size att place sort number fault faultPlace lastFault lastPlace toValue toWeight toMany q5.1 q5.2.1 q5.2.2.1 q5.2.2.2.1 q5.2.2.2.2 isCandidate modes fewest z10 _ _ _ (lv_sub hl [1, 4, 0] rfl) hP hD hS ez10 (fun ls H locs hl hP hD hS => ?_)
      refine lv_iload hx hb dX6_needed_60 (lv_at hl 0 rfl) ?_
      obtain rfl := e_s h
      exact hret hP hS rfl dX6_needed_62
    · have h := e_f (not_not_intro c4) h
      refine lv_iconst (v := (-1)) hx hb dX6_needed_21 (by decide) ?_
      obtain rfl := e_s h
      exact hret hP hS rfl dX6_needed_22
set_option maxHeartbeats 4000000 in
set_option maxRecDepth 100000 in
theorem kX6_lead (l : Launch) (D : va_G) (cA : Nat → ClassId) (ad : Nat → Nat) (thrown : Int32) (tape : Nat → Int32) (taped : Int32) (value : Nat → Int32) (weight : Nat → Int32) (many : Int32) (block : Int32) (ties : Int32) (lines : Int32) (pastValue : Nat → Int32) (pastWeight : Nat → Int32) (pastMany : Nat → Int32) (undos : Int32) (fresh : Int32) (newValue : Nat → Int32) (newWeight : Nat → Int32) (newMany : Int32) (newBlock : Int32) (newTies : Int32) (newLines : Int32) (hasBlock : Int32) (hasTies : Int32) (size : Int32) (att : Int32) (place : Int32) (sort : Int32) (number : Int32) (fault : Int32) (faultPlace : Int32) (lastFault : Int32) (lastPlace : Int32) (toValue : Nat → Int32) (toWeight : Nat → Int32) (toMany : Int32) (often : Nat → Int32) (firstOf : Nat → Int32) (lastOf : Nat → Int32) (unlikes : Nat → Int32) (unlikeMany : Int32) (isCandidate : Nat → Int32) (modes : Nat → Int32) (fewest : Nat → Int32) (x1 : Int32) (x2 : Int32) (q : Int32 × Int32 × (Nat → Int32) × (Nat → Int32) × (Nat → Int32) × (Nat → Int32) × Int32) (h : mX6_lead thrown value many ties often firstOf lastOf unlikes unlikeMany x1 x2 = some q) : MI l yX6_lead wsX6_lead { frames := 3, cells := 0, slots := 0, locals := 70 } D cA .int [.ref (ad 0), .int x1, .int x2] (wX6 cA ad thrown tape taped value weight many block ties lines pastValue pastWeight pastMany undos fresh newValue newWeight newMany newBlock newTies newLines hasBlock hasTies size att place sort number fault faultPlace lastFault lastPlace toValue toWeight toMany often firstOf lastOf unlikes unlikeMany isCandidate modes fewest) (wX6 cA ad q.2.1 tape taped value weight many block ties lines pastValue pastWeight pastMany undos fresh newValue newWeight newMany newBlock newTies newLines hasBlock hasTies size att place sort number fault faultPlace lastFault lastPlace toValue toWeight toMany q.2.2.1 q.2.2.2.1 q.2.2.2.2.1 q.2.2.2.2.2.1 q.2.2.2.2.2.2 isCandidate modes fewest) q.1 := by
  refine MI.of (cc := cX6_lead) (maxL := 4) (by decide +kernel) rfl rfl rfl (Nat.le_of_ble_eq_true rfl) ?_
  intro p e s m args below meth c A ls Q hx hb hml hts hown hK hP hD hA hS hl hret
  have hl : lv_has ls 4 [(0, .ref (ad 0)), (1, .int x1), (2, .int x2)] := hl
  have f178 := hts (.fieldLink RX6 178 "ModeDeskModel" "ties" "I") (by decide +kernel)
  have f47 := hts (.fieldLink RX6 47 "ModeDeskModel" "often" "[I") (by decide +kernel)
  have f72 := hts (.fieldLink RX6 72 "ModeDeskModel" "thrown" "I") (by decide +kernel)
  have iX6 : ∀ w ∈ wsX60, w ∈ wsX6_lead := by decide +kernel
  unfold mX6_lead at h
  refine lv_aload_n hx hb dX6_lead_0 rfl (lv_at hl 0 rfl) ?_
  refine lv_iconst (v := 0) hx hb dX6_lead_1 (by decide) ?_
  refine va_put (D := D) (ci := 6) (v := .int 0) (ty := .int) (C := RX6) (T := TX6) (N := 42) hx hb hts iX6 tyX6 tyX6_ok nmX6 hown hK hP hD hS 0 rfl rfl 0 (Nat.le_of_ble_eq_true rfl) f72 (fun _ h9 => h9) rfl (tyX6_ok 0 (Nat.le_of_ble_eq_true rfl)) rfl rfl (Nat.le_of_ble_eq_true rfl) dX6_lead_2 (fun H locs hP hD hS => ?_)
  have hP : va_P D vwCl (wX6 cA ad 0 tape taped value weight many block ties lines pastValue pastWeight pastMany undos fresh newValue newWeight newMany newBlock newTies newLines hasBlock hasTies size att place sort number fault faultPlace lastFault lastPlace toValue toWeight toMany often firstOf lastOf unlikes unlikeMany isCandidate modes fewest) H := hP
  have hD : va_D A (wX6 cA ad 0 tape taped value weight many block ties lines pastValue pastWeight pastMany undos fresh newValue newWeight newMany newBlock newTies newLines hasBlock hasTies size att place sort number fault faultPlace lastFault lastPlace toValue toWeight toMany often firstOf lastOf unlikes unlikeMany isCandidate modes fewest) := hD
  refine lv_aload_n hx hb dX6_lead_5 rfl (lv_at hl 0 rfl) ?_
  refine lv_iload_n hx hb dX6_lead_6 rfl (lv_at hl 1 rfl) ?_
  refine lv_iload_n hx hb dX6_lead_7 rfl (lv_at hl 2 rfl) ?_
  obtain ⟨q1, eq1, h⟩ := e_b h
  refine xv_i0 (As := [.int x1, .int x2]) (rest := []) (ci := 6) (b := ad 0) ⟨hx, hb, hml, hown, hts⟩ hl.1 (kX6_isSpan l D cA ad 0 tape taped value weight many block ties lines pastValue pastWeight pastMany undos fresh newValue newWeight newMany newBlock newTies newLines hasBlock hasTies size att place sort number fault faultPlace lastFault lastPlace toValue toWeight toMany often firstOf lastOf unlikes unlikeMany isCandidate modes fewest x1 x2  _ eq1) (cwV 2 hts gX6_lead_X6_isSpan rfl rfl rfl (by decide +kernel) ⟨Nat.le_of_ble_eq_true rfl, Nat.le_of_ble_eq_true rfl⟩) rfl hK hP hD hS hA 0 rfl rfl rfl rfl (Nat.le_of_ble_eq_true rfl) dX6_lead_8 ⟨Nat.zero_le _, Nat.zero_le _⟩ (fun H locs hP hD hS hnq1 => ?_)
  have hP : va_P D vwCl (wX6 cA ad 0 tape taped value weight many block ties lines pastValue pastWeight pastMany undos fresh newValue newWeight newMany newBlock newTies newLines hasBlock hasTies size att place sort number fault faultPlace lastFault lastPlace toValue toWeight toMany often firstOf lastOf unlikes unlikeMany isCandidate modes fewest) H := hP
  have hD : va_D A (wX6 cA ad 0 tape taped value weight many block ties lines pastValue pastWeight pastMany undos fresh newValue newWeight newMany newBlock newTies newLines hasBlock hasTies size att place sort number fault faultPlace lastFault lastPlace toValue toWeight toMany often firstOf lastOf unlikes unlikeMany isCandidate modes fewest) := hD
  refine lv_if_ne (tgt := 16) hx hb dX6_lead_11 (by decide) (fun c2 => ?_) (fun c2 => ?_)
  · have h := e_t c2 h
    refine lv_aload_n hx hb dX6_lead_16 rfl (lv_at hl 0 rfl) ?_
    refine lv_iload_n hx hb dX6_lead_17 rfl (lv_at hl 1 rfl) ?_
    refine lv_iload_n hx hb dX6_lead_18 rfl (lv_at hl 2 rfl) ?_
    refine lv_iconst (v := (-1)) hx hb dX6_lead_19 (by decide) ?_
    obtain ⟨q3, eq3, h⟩ := e_b h
    refine xv_v0 (As := [.int x1, .int x2, .int (-1)]) (rest := []) (ci := 6) (b := ad 0) ⟨hx, hb, hml, hown, hts⟩ hl.1 (kX6_counts l D cA ad 0 tape taped value weight many block ties lines pastValue pastWeight pastMany undos fresh newValue newWeight newMany newBlock newTies newLines hasBlock hasTies size att place sort number fault faultPlace lastFault lastPlace toValue toWeight toMany often firstOf lastOf unlikes unlikeMany isCandidate modes fewest x1 x2 (-1)  _ eq3) (cwV 3 hts gX6_lead_X6_counts rfl rfl rfl (by decide +kernel) ⟨Nat.le_of_ble_eq_true rfl, Nat.le_of_ble_eq_true rfl⟩) rfl hK hP hD hS hA 0 rfl rfl rfl rfl (Nat.le_of_ble_eq_true rfl) dX6_lead_20 ⟨Nat.zero_le _, Nat.zero_le _⟩ (fun H locs hP hD hS => ?_)
    have hP : va_P D vwCl (wX6 cA ad 0 tape taped value weight many block ties lines pastValue pastWeight pastMany undos fresh newValue newWeight newMany newBlock newTies newLines hasBlock hasTies size att place sort number fault faultPlace lastFault lastPlace toValue toWeight toMany q3.1 q3.2.1 q3.2.2.1 q3.2.2.2.1 q3.2.2.2.2 isCandidate modes fewest) H := hP
    have hD : va_D A (wX6 cA ad 0 tape taped value weight many block ties lines pastValue pastWeight pastMany undos fresh newValue newWeight newMany newBlock newTies newLines hasBlock hasTies size att place sort number fault faultPlace lastFault lastPlace toValue toWeight toMany q3.1 q3.2.1 q3.2.2.1 q3.2.2.2.1 q3.2.2.2.2 isCandidate modes fewest) := hD
    refine lv_aload_n hx hb dX6_lead_23 rfl (lv_at hl 0 rfl) ?_
    refine lv_iconst (v := 1) hx hb dX6_lead_24 (by decide) ?_
    refine lv_aload_n hx hb dX6_lead_25 rfl (lv_at hl 0 rfl) ?_
    refine va_get (D := D) (ci := 6) (v := .int ties) (C := RX6) (T := TX6) (N := 42) hx hb hts iX6 hown hK hP 0 rfl rfl 7 (Nat.le_of_ble_eq_true rfl) f178 (fun _ h9 => h9) rfl dX6_lead_26 ?_
    obtain ⟨q4, eq4, h⟩ := e_b h
    refine xv_i0 (As := [.int 1, .int ties]) (rest := []) (ci := 6) (b := ad 0) ⟨hx, hb, hml, hown, hts⟩ hl.1 (kX6_ofRank l D cA ad 0 tape taped value weight many block ties lines pastValue pastWeight pastMany undos fresh newValue newWeight newMany newBlock newTies newLines hasBlock hasTies size att place sort number fault faultPlace lastFault lastPlace toValue toWeight toMany q3.1 q3.2.1 q3.2.2.1 q3.2.2.2.1 q3.2.2.2.2 isCandidate modes fewest 1 ties  _ eq4) (cwV 2 hts gX6_lead_X6_ofRank rfl rfl rfl (by decide +kernel) ⟨Nat.le_of_ble_eq_true rfl, Nat.le_of_ble_eq_true rfl⟩) rfl hK hP hD hS hA 0 rfl rfl rfl rfl (Nat.le_of_ble_eq_true rfl) dX6_lead_29 ⟨Nat.zero_le _, Nat.zero_le _⟩ (fun H locs hP hD hS hnq4 => ?_)
    have hP : va_P D vwCl (wX6 cA ad 0 tape taped value weight many block ties lines pastValue pastWeight pastMany undos fresh newValue newWeight newMany newBlock newTies newLines hasBlock hasTies size att place sort number fault faultPlace lastFault lastPlace toValue toWeight toMany q3.1 q3.2.1 q3.2.2.1 q3.2.2.2.1 q3.2.2.2.2 isCandidate modes fewest) H := hP
    have hD : va_D A (wX6 cA ad 0 tape taped value weight many block ties lines pastValue pastWeight pastMany undos fresh newValue newWeight newMany newBlock newTies newLines hasBlock hasTies size att place sort number fault faultPlace lastFault lastPlace toValue toWeight toMany q3.1 q3.2.1 q3.2.2.1 q3.2.2.2.1 q3.2.2.2.2 isCandidate modes fewest) := hD
    refine lv_istore_n (lv' := [(3, .int q4), (0, .ref (ad 0)), (1, .int x1), (2, .int x2)]) hx hb dX6_lead_32 rfl hl (by decide) rfl (fun ls hl => ?_)
    refine lv_aload_n hx hb dX6_lead_33 rfl (lv_at hl 1 rfl) ?_
    refine va_get (D := D) (ci := 6) (v := .ref (ad 11)) (C := RX6) (T := TX6) (N := 42) hx hb hts iX6 hown hK hP 0 rfl rfl 34 (Nat.le_of_ble_eq_true rfl) f47 (fun _ h9 => h9) rfl dX6_lead_34 ?_
    refine lv_aload_n hx hb dX6_lead_37 rfl (lv_at hl 1 rfl) ?_
    refine lv_iconst (v := 0) hx hb dX6_lead_38 (by decide) ?_
    refine lv_aload_n hx hb dX6_lead_39 rfl (lv_at hl 1 rfl) ?_
    refine va_get (D := D) (ci := 6) (v := .int ties) (C := RX6) (T := TX6) (N := 42) hx hb hts iX6 hown hK hP 0 rfl rfl 7 (Nat.le_of_ble_eq_true rfl) f178 (fun _ h9 => h9) rfl dX6_lead_40 ?_
    obtain ⟨q5, eq5, h⟩ := e_b h
    refine xv_i0 (As := [.int 0, .int ties]) (rest := [.ref (ad 11)]) (ci := 6) (b := ad 0) ⟨hx, hb, hml, hown, hts⟩ hl.1 (kX6_ofRank l D cA ad 0 tape taped value weight many block ties lines pastValue pastWeight pastMany undos fresh newValue newWeight newMany newBlock newTies newLines hasBlock hasTies size att place sort number fault faultPlace lastFault lastPlace toValue toWeight toMany q3.1 q3.2.1 q3.2.2.1 q3.2.2.2.1 q3.2.2.2.2 isCandidate modes fewest 0 ties  _ eq5) (cwV 2 hts gX6_lead_X6_ofRank rfl rfl rfl (by decide +kernel) ⟨Nat.le_of_ble_eq_true rfl, Nat.le_of_ble_eq_true rfl⟩) rfl hK hP hD hS hA 0 rfl rfl rfl rfl (Nat.le_of_ble_eq_true rfl) dX6_lead_43 ⟨Nat.zero_le _, Nat.zero_le _⟩ (fun H locs hP hD hS hnq5 => ?_)
    have hP : va_P D vwCl (wX6 cA ad 0 tape taped value weight many block ties lines pastValue pastWeight pastMany undos fresh newValue newWeight newMany newBlock newTies newLines hasBlock hasTies size att place sort number fault faultPlace lastFault lastPlace toValue toWeight toMany q3.1 q3.2.1 q3.2.2.1 q3.2.2.2.1 q3.2.2.2.2 isCandidate modes fewest) H := hP
    have hD : va_D A (wX6 cA ad 0 tape taped value weight many block ties lines pastValue pastWeight pastMany undos fresh newValue newWeight newMany newBlock newTies newLines hasBlock hasTies size att place sort number fault faultPlace lastFault lastPlace toValue toWeight toMany q3.1 q3.2.1 q3.2.2.1 q3.2.2.2.1 q3.2.2.2.2 isCandidate modes fewest) := hD
    obtain ⟨v6, ev6, nv6, h⟩ := e_rd h
    refine xa_iald hx hb hK hP 11 rfl nv6 ev6 dX6_lead_46 ?_
    refine lv_iload_n hx hb dX6_lead_47 rfl (lv_at hl 0 rfl) ?_
    refine lv_iconst (v := (-1)) hx hb dX6_lead_48 (by decide) ?_
    refine lv_icmp_ne (tgt := 56) hx hb dX6_lead_49 (by decide) (fun c7 => ?_) (fun c7 => ?_)
    · have h := e_t c7 h
      refine lv_aload_n hx hb dX6_lead_56 rfl (lv_at hl 1 rfl) ?_
      refine va_get (D := D) (ci := 6) (v := .ref (ad 11)) (C := RX6) (T := TX6) (N := 42) hx hb hts iX6 hown hK hP 0 rfl rfl 34 (Nat.le_of_ble_eq_true rfl) f47 (fun _ h9 => h9) rfl dX6_lead_57 ?_
      refine lv_iload_n hx hb dX6_lead_60 rfl (lv_at hl 0 rfl) ?_
      obtain ⟨v8, ev8, nv8, h⟩ := e_rd h
      refine xa_iald hx hb hK hP 11 rfl nv8 ev8 dX6_lead_61 ?_
      refine lv_isub hx hb dX6_lead_62 ?_
      obtain rfl := e_s h
      exact hret hP hS rfl dX6_lead_63
    · have h := e_f (not_not_intro c7) h
      refine lv_iconst (v := 0) hx hb dX6_lead_52 (by decide) ?_
      refine lv_goto (tgt := 62) hx hb dX6_lead_53 (by decide) ?_
      refine lv_isub hx hb dX6_lead_62 ?_
      obtain rfl := e_s h
      exact hret hP hS rfl dX6_lead_63
  · have h := e_f (not_not_intro c2) h
    refine lv_iconst (v := (-1)) hx hb dX6_lead_14 (by decide) ?_
    obtain rfl := e_s h
    exact hret hP hS rfl dX6_lead_15
set_option maxHeartbeats 4000000 in
set_option maxRecDepth 100000 in
theorem kX6_rarest (l : Launch) (D : va_G) (cA : Nat → ClassId) (ad : Nat → Nat) (thrown : Int32) (tape : Nat → Int32) (taped : Int32) (value : Nat → Int32) (weight : Nat → Int32) (many : Int32) (block : Int32) (ties : Int32) (lines : Int32) (pastValue : Nat → Int32) (pastWeight : Nat → Int32) (pastMany : Nat → Int32) (undos : Int32) (fresh : Int32) (newValue : Nat → Int32) (newWeight : Nat → Int32) (newMany : Int32) (newBlock : Int32) (newTies : Int32) (newLines : Int32) (hasBlock : Int32) (hasTies : Int32) (size : Int32) (att : Int32) (place : Int32) (sort : Int32) (number : Int32) (fault : Int32) (faultPlace : Int32) (lastFault : Int32) (lastPlace : Int32) (toValue : Nat → Int32) (toWeight : Nat → Int32) (toMany : Int32) (often : Nat → Int32) (firstOf : Nat → Int32) (lastOf : Nat → Int32) (unlikes : Nat → Int32) (unlikeMany : Int32) (isCandidate : Nat → Int32) (modes : Nat → Int32) (fewest : Nat → Int32) (x1 : Int32) (x2 : Int32) (x3 : Int32) (q : Int32 × Int32 × (Nat → Int32) × (Nat → Int32) × (Nat → Int32) × (Nat → Int32) × Int32) (h : mX6_rarest thrown value many ties often firstOf lastOf unlikes unlikeMany x1 x2 x3 = some q) : MI l yX6_rarest wsX6_rarest { frames := 3, cells := 0, slots := 0, locals := 70 } D cA .int [.ref (ad 0), .int x1, .int x2, .int x3] (wX6 cA ad thrown tape taped value weight many block ties lines pastValue pastWeight pastMany undos fresh newValue newWeight newMany newBlock newTies newLines hasBlock hasTies size att place sort number fault faultPlace lastFault lastPlace toValue toWeight toMany often firstOf lastOf unlikes unlikeMany isCandidate modes fewest) (wX6 cA ad q.2.1 tape taped value weight many block ties lines pastValue pastWeight pastMany undos fresh newValue newWeight newMany newBlock newTies newLines hasBlock hasTies size att place sort number fault faultPlace lastFault lastPlace toValue toWeight toMany q.2.2.1 q.2.2.2.1 q.2.2.2.2.1 q.2.2.2.2.2.1 q.2.2.2.2.2.2 isCandidate modes fewest) q.1 := by
  refine MI.of (cc := cX6_rarest) (maxL := 4) (by decide +kernel) rfl rfl rfl (Nat.le_of_ble_eq_true rfl) ?_
  intro p e s m args below meth c A ls Q hx hb hml hts hown hK hP hD hA hS hl hret
  have hl : lv_has ls 4 [(0, .ref (ad 0)), (1, .int x1), (2, .int x2), (3, .int x3)] := hl
  have f178 := hts (.fieldLink RX6 178 "ModeDeskModel" "ties" "I") (by decide +kernel)
  have f242 := hts (.fieldLink RX6 242 "ModeDeskModel" "unlikeMany" "I") (by decide +kernel)
  have f72 := hts (.fieldLink RX6 72 "ModeDeskModel" "thrown" "I") (by decide +kernel)
  have iX6 : ∀ w ∈ wsX60, w ∈ wsX6_rarest := by decide +kernel
  unfold mX6_rarest at h
  refine lv_aload_n hx hb dX6_rarest_0 rfl (lv_at hl 0 rfl) ?_
  refine lv_iconst (v := 0) hx hb dX6_rarest_1 (by decide) ?_
  refine va_put (D := D) (ci := 6) (v := .int 0) (ty := .int) (C := RX6) (T := TX6) (N := 42) hx hb hts iX6 tyX6 tyX6_ok nmX6 hown hK hP hD hS 0 rfl rfl 0 (Nat.le_of_ble_eq_true rfl) f72 (fun _ h9 => h9) rfl (tyX6_ok 0 (Nat.le_of_ble_eq_true rfl)) rfl rfl (Nat.le_of_ble_eq_true rfl) dX6_rarest_2 (fun H locs hP hD hS => ?_)
  have hP : va_P D vwCl (wX6 cA ad 0 tape taped value weight many block ties lines pastValue pastWeight pastMany undos fresh newValue newWeight newMany newBlock newTies newLines hasBlock hasTies size att place sort number fault faultPlace lastFault lastPlace toValue toWeight toMany often firstOf lastOf unlikes unlikeMany isCandidate modes fewest) H := hP
  have hD : va_D A (wX6 cA ad 0 tape taped value weight many block ties lines pastValue pastWeight pastMany undos fresh newValue newWeight newMany newBlock newTies newLines hasBlock hasTies size att place sort number fault faultPlace lastFault lastPlace toValue toWeight toMany often firstOf lastOf unlikes unlikeMany isCandidate modes fewest) := hD
  refine lv_aload_n hx hb dX6_rarest_5 rfl (lv_at hl 0 rfl) ?_
  refine lv_iload_n hx hb dX6_rarest_6 rfl (lv_at hl 1 rfl) ?_
  refine lv_iload_n hx hb dX6_rarest_7 rfl (lv_at hl 2 rfl) ?_
  obtain ⟨q1, eq1, h⟩ := e_b h
  refine xv_i0 (As := [.int x1, .int x2]) (rest := []) (ci := 6) (b := ad 0) ⟨hx, hb, hml, hown, hts⟩ hl.1 (kX6_isSpan l D cA ad 0 tape taped value weight many block ties lines pastValue pastWeight pastMany undos fresh newValue newWeight newMany newBlock newTies newLines hasBlock hasTies size att place sort number fault faultPlace lastFault lastPlace toValue toWeight toMany often firstOf lastOf unlikes unlikeMany isCandidate modes fewest x1 x2  _ eq1) (cwV 2 hts gX6_rarest_X6_isSpan rfl rfl rfl (by decide +kernel) ⟨Nat.le_of_ble_eq_true rfl, Nat.le_of_ble_eq_true rfl⟩) rfl hK hP hD hS hA 0 rfl rfl rfl rfl (Nat.le_of_ble_eq_true rfl) dX6_rarest_8 ⟨Nat.zero_le _, Nat.zero_le _⟩ (fun H locs hP hD hS hnq1 => ?_)
  have hP : va_P D vwCl (wX6 cA ad 0 tape taped value weight many block ties lines pastValue pastWeight pastMany undos fresh newValue newWeight newMany newBlock newTies newLines hasBlock hasTies size att place sort number fault faultPlace lastFault lastPlace toValue toWeight toMany often firstOf lastOf unlikes unlikeMany isCandidate modes fewest) H := hP
  have hD : va_D A (wX6 cA ad 0 tape taped value weight many block ties lines pastValue pastWeight pastMany undos fresh newValue newWeight newMany newBlock newTies newLines hasBlock hasTies size att place sort number fault faultPlace lastFault lastPlace toValue toWeight toMany often firstOf lastOf unlikes unlikeMany isCandidate modes fewest) := hD
  refine lv_if_eq (tgt := 23) hx hb dX6_rarest_11 (by decide) (fun c2 => ?_) (fun c2 => ?_)
  · have h := e_t c2 h
    refine lv_iconst (v := (-1)) hx hb dX6_rarest_23 (by decide) ?_
    obtain rfl := e_s h
    exact hret hP hS rfl dX6_rarest_24
  · have h := e_f c2 h
    refine lv_iload_n hx hb dX6_rarest_14 rfl (lv_at hl 3 rfl) ?_
    refine lv_if_lt (tgt := 23) hx hb dX6_rarest_15 (by decide) (fun c3 => ?_) (fun c3 => ?_)
    · have h := e_t c3 h
      refine lv_iconst (v := (-1)) hx hb dX6_rarest_23 (by decide) ?_
      obtain rfl := e_s h
      exact hret hP hS rfl dX6_rarest_24
    · have h := e_f c3 h
      refine lv_iload_n hx hb dX6_rarest_18 rfl (lv_at hl 3 rfl) ?_
      refine lv_iconst (v := 3) hx hb dX6_rarest_19 (by decide) ?_
      refine lv_icmp_le (tgt := 25) hx hb dX6_rarest_20 (by decide) (fun c4 => ?_) (fun c4 => ?_)
      · have h := e_t c4 h
        refine lv_aload_n hx hb dX6_rarest_25 rfl (lv_at hl 0 rfl) ?_
        refine lv_iload_n hx hb dX6_rarest_26 rfl (lv_at hl 1 rfl) ?_
        refine lv_iload_n hx hb dX6_rarest_27 rfl (lv_at hl 2 rfl) ?_
        refine lv_iconst (v := (-1)) hx hb dX6_rarest_28 (by decide) ?_
        obtain ⟨q5, eq5, h⟩ := e_b h
        refine xv_v0 (As := [.int x1, .int x2, .int (-1)]) (rest := []) (ci := 6) (b := ad 0) ⟨hx, hb, hml, hown, hts⟩ hl.1 (kX6_counts l D cA ad 0 tape taped value weight many block ties lines pastValue pastWeight pastMany undos fresh newValue newWeight newMany newBlock newTies newLines hasBlock hasTies size att place sort number fault faultPlace lastFault lastPlace toValue toWeight toMany often firstOf lastOf unlikes unlikeMany isCandidate modes fewest x1 x2 (-1)  _ eq5) (cwV 3 hts gX6_rarest_X6_counts rfl rfl rfl (by decide +kernel) ⟨Nat.le_of_ble_eq_true rfl, Nat.le_of_ble_eq_true rfl⟩) rfl hK hP hD hS hA 0 rfl rfl rfl rfl (Nat.le_of_ble_eq_true rfl) dX6_rarest_29 ⟨Nat.zero_le _, Nat.zero_le _⟩ (fun H locs hP hD hS => ?_)
        have hP : va_P D vwCl (wX6 cA ad 0 tape taped value weight many block ties lines pastValue pastWeight pastMany undos fresh newValue newWeight newMany newBlock newTies newLines hasBlock hasTies size att place sort number fault faultPlace lastFault lastPlace toValue toWeight toMany q5.1 q5.2.1 q5.2.2.1 q5.2.2.2.1 q5.2.2.2.2 isCandidate modes fewest) H := hP
        have hD : va_D A (wX6 cA ad 0 tape taped value weight many block ties lines pastValue pastWeight pastMany undos fresh newValue newWeight newMany newBlock newTies newLines hasBlock hasTies size att place sort number fault faultPlace lastFault lastPlace toValue toWeight toMany q5.1 q5.2.1 q5.2.2.1 q5.2.2.2.1 q5.2.2.2.2 isCandidate modes fewest) := hD
        refine lv_aload_n hx hb dX6_rarest_32 rfl (lv_at hl 0 rfl) ?_
        refine lv_aload_n hx hb dX6_rarest_33 rfl (lv_at hl 0 rfl) ?_
        refine lv_aload_n hx hb dX6_rarest_34 rfl (lv_at hl 0 rfl) ?_
        refine va_get (D := D) (ci := 6) (v := .int q5.2.2.2.2) (C := RX6) (T := TX6) (N := 42) hx hb hts iX6 hown hK hP 0 rfl rfl 38 (Nat.le_of_ble_eq_true rfl) f242 (fun _ h9 => h9) rfl dX6_rarest_35 ?_
        refine lv_iconst (v := 1) hx hb dX6_rarest_38 (by decide) ?_
        refine lv_isub hx hb dX6_rarest_39 ?_
        refine lv_aload_n hx hb dX6_rarest_40 rfl (lv_at hl 0 rfl) ?_
        refine va_get (D := D) (ci := 6) (v := .int ties) (C := RX6) (T := TX6) (N := 42) hx hb hts iX6 hown hK hP 0 rfl rfl 7 (Nat.le_of_ble_eq_true rfl) f178 (fun _ h9 => h9) rfl dX6_rarest_41 ?_
        obtain ⟨q6, eq6, h⟩ := e_b h
        refine xv_i0 (As := [.int (q5.2.2.2.2 - 1), .int ties]) (rest := [.ref (ad 0)]) (ci := 6) (b := ad 0) ⟨hx, hb, hml, hown, hts⟩ hl.1 (kX6_ofRank l D cA ad 0 tape taped value weight many block ties lines pastValue pastWeight pastMany undos fresh newValue newWeight newMany newBlock newTies newLines hasBlock hasTies size att place sort number fault faultPlace lastFault lastPlace toValue toWeight toMany q5.1 q5.2.1 q5.2.2.1 q5.2.2.2.1 q5.2.2.2.2 isCandidate modes fewest (q5.2.2.2.2 - 1) ties  _ eq6) (cwV 2 hts gX6_rarest_X6_ofRank rfl rfl rfl (by decide +kernel) ⟨Nat.le_of_ble_eq_true rfl, Nat.le_of_ble_eq_true rfl⟩) rfl hK hP hD hS hA 0 rfl rfl rfl rfl (Nat.le_of_ble_eq_true rfl) dX6_rarest_44 ⟨Nat.zero_le _, Nat.zero_le _⟩ (fun H locs hP hD hS hnq6 => ?_)
        have hP : va_P D vwCl (wX6 cA ad 0 tape taped value weight many block ties lines pastValue pastWeight pastMany undos fresh newValue newWeight newMany newBlock newTies newLines hasBlock hasTies size att place sort number fault faultPlace lastFault lastPlace toValue toWeight toMany q5.1 q5.2.1 q5.2.2.1 q5.2.2.2.1 q5.2.2.2.2 isCandidate modes fewest) H := hP
        have hD : va_D A (wX6 cA ad 0 tape taped value weight many block ties lines pastValue pastWeight pastMany undos fresh newValue newWeight newMany newBlock newTies newLines hasBlock hasTies size att place sort number fault faultPlace lastFault lastPlace toValue toWeight toMany q5.1 q5.2.1 q5.2.2.1 q5.2.2.2.1 q5.2.2.2.2 isCandidate modes fewest) := hD
        refine lv_iload_n hx hb dX6_rarest_47 rfl (lv_at hl 3 rfl) ?_
        obtain ⟨q7, eq7, h⟩ := e_b h
        refine xv_i0 (As := [.int q6, .int x3]) (rest := []) (ci := 6) (b := ad 0) ⟨hx, hb, hml, hown, hts⟩ hl.1 (kX6_told l D cA ad 0 tape taped value weight many block ties lines pastValue pastWeight pastMany undos fresh newValue newWeight newMany newBlock newTies newLines hasBlock hasTies size att place sort number fault faultPlace lastFault lastPlace toValue toWeight toMany q5.1 q5.2.1 q5.2.2.1 q5.2.2.2.1 q5.2.2.2.2 isCandidate modes fewest q6 x3  _ eq7) (cwV 2 hts gX6_rarest_X6_told rfl rfl rfl (by decide +kernel) ⟨Nat.le_of_ble_eq_true rfl, Nat.le_of_ble_eq_true rfl⟩) rfl hK hP hD hS hA 0 rfl rfl rfl rfl (Nat.le_of_ble_eq_true rfl) dX6_rarest_48 ⟨Nat.zero_le _, Nat.zero_le _⟩ (fun H locs hP hD hS hnq7 => ?_)
        have hP : va_P D vwCl (wX6 cA ad 0 tape taped value weight many block ties lines pastValue pastWeight pastMany undos fresh newValue newWeight newMany newBlock newTies newLines hasBlock hasTies size att place sort number fault faultPlace lastFault lastPlace toValue toWeight toMany q5.1 q5.2.1 q5.2.2.1 q5.2.2.2.1 q5.2.2.2.2 isCandidate modes fewest) H := hP
        have hD : va_D A (wX6 cA ad 0 tape taped value weight many block ties lines pastValue pastWeight pastMany undos fresh newValue newWeight newMany newBlock newTies newLines hasBlock hasTies size att place sort number fault faultPlace lastFault lastPlace toValue toWeight toMany q5.1 q5.2.1 q5.2.2.1 q5.2.2.2.1 q5.2.2.2.2 isCandidate modes fewest) := hD
        obtain rfl := e_s h
        exact hret hP hS rfl dX6_rarest_51
      · have h := e_f c4 h
        refine lv_iconst (v := (-1)) hx hb dX6_rarest_23 (by decide) ?_
        obtain rfl := e_s h
        exact hret hP hS rfl dX6_rarest_24
set_option maxHeartbeats 4000000 in
set_option maxRecDepth 100000 in
theorem kX6_follow (l : Launch) (D : va_G) (cA : Nat → ClassId) (ad : Nat → Nat) (thrown : Int32) (tape : Nat → Int32) (taped : Int32) (value : Nat → Int32) (weight : Nat → Int32) (many : Int32) (block : Int32) (ties : Int32) (lines : Int32) (pastValue : Nat → Int32) (pastWeight : Nat → Int32) (pastMany : Nat → Int32) (undos : Int32) (fresh : Int32) (newValue : Nat → Int32) (newWeight : Nat → Int32) (newMany : Int32) (newBlock : Int32) (newTies : Int32) (newLines : Int32) (hasBlock : Int32) (hasTies : Int32) (size : Int32) (att : Int32) (place : Int32) (sort : Int32) (number : Int32) (fault : Int32) (faultPlace : Int32) (lastFault : Int32) (lastPlace : Int32) (toValue : Nat → Int32) (toWeight : Nat → Int32) (toMany : Int32) (often : Nat → Int32) (firstOf : Nat → Int32) (lastOf : Nat → Int32) (unlikes : Nat → Int32) (unlikeMany : Int32) (isCandidate : Nat → Int32) (modes : Nat → Int32) (fewest : Nat → Int32) (x1 : Int32) (x2 : Int32) (x3 : Int32) (q : Int32 × Int32) (h : mX6_follow thrown value many x1 x2 x3 = some q) : MI l yX6_follow wsX6_follow { frames := 1, cells := 0, slots := 0, locals := 21 } D cA .int [.ref (ad 0), .int x1, .int x2, .int x3] (wX6 cA ad thrown tape taped value weight many block ties lines pastValue pastWeight pastMany undos fresh newValue newWeight newMany newBlock newTies newLines hasBlock hasTies size att place sort number fault faultPlace lastFault lastPlace toValue toWeight toMany often firstOf lastOf unlikes unlikeMany isCandidate modes fewest) (wX6 cA ad q.2 tape taped value weight many block ties lines pastValue pastWeight pastMany undos fresh newValue newWeight newMany newBlock newTies newLines hasBlock hasTies size att place sort number fault faultPlace lastFault lastPlace toValue toWeight toMany often firstOf lastOf unlikes unlikeMany isCandidate modes fewest) q.1 := by
  refine MI.of (cc := cX6_follow) (maxL := 5) (by decide +kernel) rfl rfl rfl (Nat.le_of_ble_eq_true rfl) ?_
  intro p e s m args below meth c A ls Q hx hb hml hts hown hK hP hD hA hS hl hret
  have hl : lv_has ls 5 [(0, .ref (ad 0)), (1, .int x1), (2, .int x2), (3, .int x3)] := hl
  have f13 := hts (.fieldLink RX6 13 "ModeDeskModel" "value" "[I") (by decide +kernel)
  have f72 := hts (.fieldLink RX6 72 "ModeDeskModel" "thrown" "I") (by decide +kernel)
  have iX6 : ∀ w ∈ wsX60, w ∈ wsX6_follow := by decide +kernel
  unfold mX6_follow at h
  refine lv_aload_n hx hb dX6_follow_0 rfl (lv_at hl 0 rfl) ?_
  refine lv_iconst (v := 0) hx hb dX6_follow_1 (by decide) ?_
  refine va_put (D := D) (ci := 6) (v := .int 0) (ty := .int) (C := RX6) (T := TX6) (N := 42) hx hb hts iX6 tyX6 tyX6_ok nmX6 hown hK hP hD hS 0 rfl rfl 0 (Nat.le_of_ble_eq_true rfl) f72 (fun _ h9 => h9) rfl (tyX6_ok 0 (Nat.le_of_ble_eq_true rfl)) rfl rfl (Nat.le_of_ble_eq_true rfl) dX6_follow_2 (fun H locs hP hD hS => ?_)
  have hP : va_P D vwCl (wX6 cA ad 0 tape taped value weight many block ties lines pastValue pastWeight pastMany undos fresh newValue newWeight newMany newBlock newTies newLines hasBlock hasTies size att place sort number fault faultPlace lastFault lastPlace toValue toWeight toMany often firstOf lastOf unlikes unlikeMany isCandidate modes fewest) H := hP
  have hD : va_D A (wX6 cA ad 0 tape taped value weight many block ties lines pastValue pastWeight pastMany undos fresh newValue newWeight newMany newBlock newTies newLines hasBlock hasTies size att place sort number fault faultPlace lastFault lastPlace toValue toWeight toMany often firstOf lastOf unlikes unlikeMany isCandidate modes fewest) := hD
  refine lv_iload_n hx hb dX6_follow_5 rfl (lv_at hl 1 rfl) ?_
  obtain ⟨q1, eq1, h⟩ := e_b h
  refine xs_i (As := [.int x1]) (rest := []) ⟨hx, hb, hml, hown, hts⟩ hl.1 (kX6_isValue l D cA   x1  _ eq1) (va_cwS 1 hts gX6_follow_X6_isValue rfl rfl rfl (by decide +kernel) ⟨Nat.le_of_ble_eq_true rfl, Nat.le_of_ble_eq_true rfl⟩) rfl hK hP hD hS hA [] rfl (by decide +kernel) rfl (Nat.le_of_ble_eq_true rfl) dX6_follow_6 ⟨Nat.zero_le _, Nat.zero_le _⟩ (fun H locs hP hD hS hnq1 => ?_)
  have hP : va_P D vwCl (wX6 cA ad 0 tape taped value weight many block ties lines pastValue pastWeight pastMany undos fresh newValue newWeight newMany newBlock newTies newLines hasBlock hasTies size att place sort number fault faultPlace lastFault lastPlace toValue toWeight toMany often firstOf lastOf unlikes unlikeMany isCandidate modes fewest) H := hP
  have hD : va_D A (wX6 cA ad 0 tape taped value weight many block ties lines pastValue pastWeight pastMany undos fresh newValue newWeight newMany newBlock newTies newLines hasBlock hasTies size att place sort number fault faultPlace lastFault lastPlace toValue toWeight toMany often firstOf lastOf unlikes unlikeMany isCandidate modes fewest) := hD
  refine lv_if_eq (tgt := 20) hx hb dX6_follow_9 (by decide) (fun c2 => ?_) (fun c2 => ?_)
  · have h := e_t c2 h
    refine lv_iconst (v := (-1)) hx hb dX6_follow_20 (by decide) ?_
    obtain rfl := e_s h
    exact hret hP hS rfl dX6_follow_21
  · have h := e_f c2 h
    refine lv_aload_n hx hb dX6_follow_12 rfl (lv_at hl 0 rfl) ?_
    refine lv_iload_n hx hb dX6_follow_13 rfl (lv_at hl 2 rfl) ?_
    obtain ⟨q3, eq3, h⟩ := e_b h
    refine xv_i0 (As := [.int x2]) (rest := []) (ci := 6) (b := ad 0) ⟨hx, hb, hml, hown, hts⟩ hl.1 (kX6_isPlace l D cA ad 0 tape taped value weight many block ties lines pastValue pastWeight pastMany undos fresh newValue newWeight newMany newBlock newTies newLines hasBlock hasTies size att place sort number fault faultPlace lastFault lastPlace toValue toWeight toMany often firstOf lastOf unlikes unlikeMany isCandidate modes fewest x2  _ eq3) (cwV 1 hts gX6_follow_X6_isPlace rfl rfl rfl (by decide +kernel) ⟨Nat.le_of_ble_eq_true rfl, Nat.le_of_ble_eq_true rfl⟩) rfl hK hP hD hS hA 0 rfl rfl rfl rfl (Nat.le_of_ble_eq_true rfl) dX6_follow_14 ⟨Nat.zero_le _, Nat.zero_le _⟩ (fun H locs hP hD hS hnq3 => ?_)
    have hP : va_P D vwCl (wX6 cA ad 0 tape taped value weight many block ties lines pastValue pastWeight pastMany undos fresh newValue newWeight newMany newBlock newTies newLines hasBlock hasTies size att place sort number fault faultPlace lastFault lastPlace toValue toWeight toMany often firstOf lastOf unlikes unlikeMany isCandidate modes fewest) H := hP
    have hD : va_D A (wX6 cA ad 0 tape taped value weight many block ties lines pastValue pastWeight pastMany undos fresh newValue newWeight newMany newBlock newTies newLines hasBlock hasTies size att place sort number fault faultPlace lastFault lastPlace toValue toWeight toMany often firstOf lastOf unlikes unlikeMany isCandidate modes fewest) := hD
    refine lv_if_ne (tgt := 22) hx hb dX6_follow_17 (by decide) (fun c4 => ?_) (fun c4 => ?_)
    · have h := e_t c4 h
      refine lv_iload_n hx hb dX6_follow_22 rfl (lv_at hl 2 rfl) ?_
      refine lv_istore (lv' := [(4, .int x2), (0, .ref (ad 0)), (1, .int x1), (2, .int x2), (3, .int x3)]) hx hb dX6_follow_23 hl (by decide) rfl (fun ls hl => ?_)
      have hL25 : ∀ (n : Nat) (x1 : Int32) (x3 : Int32) (x4 : Int32) (thrown : Int32) (tape : Nat → Int32) (taped : Int32) (value : Nat → Int32) (weight : Nat → Int32) (many : Int32) (block : Int32) (ties : Int32) (lines : Int32) (pastValue : Nat → Int32) (pastWeight : Nat → Int32) (pastMany : Nat → Int32) (undos : Int32) (fresh : Int32) (newValue : Nat → Int32) (newWeight : Nat → Int32) (newMany : Int32) (newBlock : Int32) (newTies : Int32) (newLines : Int32) (hasBlock : Int32) (hasTies : Int32) (size : Int32) (att : Int32) (place : Int32) (sort : Int32) (number : Int32) (fault : Int32) (faultPlace : Int32) (lastFault : Int32) (lastPlace : Int32) (toValue : Nat → Int32) (toWeight : Nat → Int32) (toMany : Int32) (often : Nat → Int32) (firstOf : Nat → Int32) (lastOf : Nat → Int32) (unlikes : Nat → Int32) (unlikeMany : Int32) (isCandidate : Nat → Int32) (modes : Nat → Int32) (fewest : Nat → Int32) (z5 : Int32) (ls : Array Slot) (H : Heap) (locs : List Loc), lv_has ls 5 [(0, .ref (ad 0)), (1, .int x1), (3, .int x3), (4, .int x4)] → va_P D vwCl (wX6 cA ad thrown tape taped value weight many block ties lines pastValue pastWeight pastMany undos fresh newValue newWeight newMany newBlock newTies newLines hasBlock hasTies size att place sort number fault faultPlace lastFault lastPlace toValue toWeight toMany often firstOf lastOf unlikes unlikeMany isCandidate modes fewest) H → va_D A (wX6 cA ad thrown tape taped value weight many block ties lines pastValue pastWeight pastMany undos fresh newValue newWeight newMany newBlock newTies newLines hasBlock hasTies size att place sort number fault faultPlace lastFault lastPlace toValue toWeight toMany often firstOf lastOf unlikes unlikeMany isCandidate modes fewest) → va_S A s.heap H locs → mX6_follow_L25 value many x1 x3 n x4 = some z5 → (∀ (ls : Array Slot) (H : Heap) (locs : List Loc), lv_has ls 5 [(0, .ref (ad 0)), (4, .int z5)] → va_P D vwCl (wX6 cA ad thrown tape taped value weight many block ties lines pastValue pastWeight pastMany undos fresh newValue newWeight newMany newBlock newTies newLines hasBlock hasTies size att place sort number fault faultPlace lastFault lastPlace toValue toWeight toMany often firstOf lastOf unlikes unlikeMany isCandidate modes fewest) H → va_D A (wX6 cA ad thrown tape taped value weight many block ties lines pastValue pastWeight pastMany undos fresh newValue newWeight newMany newBlock newTies newLines hasBlock hasTies size att place sort number fault faultPlace lastFault lastPlace toValue toWeight toMany often firstOf lastOf unlikes unlikeMany isCandidate modes fewest) → va_S A s.heap H locs → W p l e (headSpec wsX6_follow { frames := 1, cells := 0, slots := 0, locals := 21 }).room s m args below meth c H locs 0 0 Q (F0 m 62 ls [])) → W p l e (headSpec wsX6_follow { frames := 1, cells := 0, slots := 0, locals := 21 }).room s m args below meth c H locs 0 0 Q (F0 m 25 ls []) := by
        intro n
        induction n with
        | zero => intro x1 x3 x4 thrown tape taped value weight many block ties lines pastValue pastWeight pastMany undos fresh newValue newWeight newMany newBlock newTies newLines hasBlock hasTies size att place sort number fault faultPlace lastFault lastPlace toValue toWeight toMany often firstOf lastOf unlikes unlikeMany isCandidate modes fewest z5 ls H locs hl hP hD hS h hk25; exact e_n h
        | succ n ih25 =>
          intro x1 x3 x4 thrown tape taped value weight many block ties lines pastValue pastWeight pastMany undos fresh newValue newWeight newMany newBlock newTies newLines hasBlock hasTies size att place sort number fault faultPlace lastFault lastPlace toValue toWeight toMany often firstOf lastOf unlikes unlikeMany isCandidate modes fewest z5 ls H locs hl hP hD hS h hk25
          rw [mX6_follow_L25.eq_2] at h
          refine lv_aload_n hx hb dX6_follow_25 rfl (lv_at hl 0 rfl) ?_
          refine lv_iload hx hb dX6_follow_26 (lv_at hl 3 rfl) ?_
          obtain ⟨q6, eq6, h⟩ := e_b h
          refine xv_i0 (As := [.int x4]) (rest := []) (ci := 6) (b := ad 0) ⟨hx, hb, hml, hown, hts⟩ hl.1 (kX6_isPlace l D cA ad thrown tape taped value weight many block ties lines pastValue pastWeight pastMany undos fresh newValue newWeight newMany newBlock newTies newLines hasBlock hasTies size att place sort number fault faultPlace lastFault lastPlace toValue toWeight toMany often firstOf lastOf unlikes unlikeMany isCandidate modes fewest x4  _ eq6) (cwV 1 hts gX6_follow_X6_isPlace rfl rfl rfl (by decide +kernel) ⟨Nat.le_of_ble_eq_true rfl, Nat.le_of_ble_eq_true rfl⟩) rfl hK hP hD hS hA 0 rfl rfl rfl rfl (Nat.le_of_ble_eq_true rfl) dX6_follow_28 ⟨Nat.zero_le _, Nat.zero_le _⟩ (fun H locs hP hD hS hnq6 => ?_)
          have hP : va_P D vwCl (wX6 cA ad thrown tape taped value weight many block ties lines pastValue pastWeight pastMany undos fresh newValue newWeight newMany newBlock newTies newLines hasBlock hasTies size att place sort number fault faultPlace lastFault lastPlace toValue toWeight toMany often firstOf lastOf unlikes unlikeMany isCandidate modes fewest) H := hP
          have hD : va_D A (wX6 cA ad thrown tape taped value weight many block ties lines pastValue pastWeight pastMany undos fresh newValue newWeight newMany newBlock newTies newLines hasBlock hasTies size att place sort number fault faultPlace lastFault lastPlace toValue toWeight toMany often firstOf lastOf unlikes unlikeMany isCandidate modes fewest) := hD
          refine lv_if_eq (tgt := 62) hx hb dX6_follow_31 (by decide) (fun c7 => ?_) (fun c7 => ?_)
          · have h := e_t c7 h
            obtain rfl := e_s h
            exact hk25 _ _ _ (lv_sub hl [0, 3] rfl) hP hD hS
          · have h := e_f c7 h
            refine lv_aload_n hx hb dX6_follow_34 rfl (lv_at hl 0 rfl) ?_
            refine va_get (D := D) (ci := 6) (v := .ref (ad 2)) (C := RX6) (T := TX6) (N := 42) hx hb hts iX6 hown hK hP 0 rfl rfl 3 (Nat.le_of_ble_eq_true rfl) f13 (fun _ h9 => h9) rfl dX6_follow_35 ?_
            refine lv_iload hx hb dX6_follow_38 (lv_at hl 3 rfl) ?_
            obtain ⟨v8, ev8, nv8, h⟩ := e_rd h
            refine xa_iald hx hb hK hP 2 rfl nv8 ev8 dX6_follow_40 ?_
            refine lv_iload_n hx hb dX6_follow_41 rfl (lv_at hl 1 rfl) ?_
            refine lv_icmp_eq (tgt := 62) hx hb dX6_follow_42 (by decide) (fun c9 => ?_) (fun c9 => ?_)
            · have h := e_t c9 h
              obtain rfl := e_s h
              exact hk25 _ _ _ (lv_sub hl [0, 3] rfl) hP hD hS
            · have h := e_f c9 h
              refine lv_iload hx hb dX6_follow_45 (lv_at hl 3 rfl) ?_
              refine lv_iload_n hx hb dX6_follow_47 rfl (lv_at hl 2 rfl) ?_
              refine lv_if_eq (tgt := 55) hx hb dX6_follow_48 (by decide) (fun c10 => ?_) (fun c10 => ?_)
              · have h := e_t c10 h
                refine lv_iconst (v := 1) hx hb dX6_follow_55 (by decide) ?_
                refine lv_iadd hx hb dX6_follow_56 ?_
                refine lv_istore (lv' := [(4, .int (x4 + 1)), (0, .ref (ad 0)), (1, .int x1), (3, .int x3)]) hx hb dX6_follow_57 hl (by decide) rfl (fun ls hl => ?_)
                refine lv_goto (tgt := 25) hx hb dX6_follow_59 (by decide) ?_
                exact ih25 x1 x3 (x4 + 1) thrown tape taped value weight many block ties lines pastValue pastWeight pastMany undos fresh newValue newWeight newMany newBlock newTies newLines hasBlock hasTies size att place sort number fault faultPlace lastFault lastPlace toValue toWeight toMany often firstOf lastOf unlikes unlikeMany isCandidate modes fewest z5 _ _ _ (lv_sub hl [1, 2, 3, 0] rfl) hP hD hS h hk25
              · have h := e_f c10 h
                refine lv_iconst (v := (-1)) hx hb dX6_follow_51 (by decide) ?_
                refine lv_goto (tgt := 56) hx hb dX6_follow_52 (by decide) ?_
                refine lv_iadd hx hb dX6_follow_56 ?_
                refine lv_istore (lv' := [(4, .int (x4 + (-1))), (0, .ref (ad 0)), (1, .int x1), (3, .int x3)]) hx hb dX6_follow_57 hl (by decide) rfl (fun ls hl => ?_)
                refine lv_goto (tgt := 25) hx hb dX6_follow_59 (by decide) ?_
                exact ih25 x1 x3 (x4 + (-1)) thrown tape taped value weight many block ties lines pastValue pastWeight pastMany undos fresh newValue newWeight newMany newBlock newTies newLines hasBlock hasTies size att place sort number fault faultPlace lastFault lastPlace toValue toWeight toMany often firstOf lastOf unlikes unlikeMany isCandidate modes fewest z5 _ _ _ (lv_sub hl [1, 2, 3, 0] rfl) hP hD hS h hk25
      obtain ⟨z11, ez11, h⟩ := e_b h
      refine hL25 FU x1 x3 x2 0 tape taped value weight many block ties lines pastValue pastWeight pastMany undos fresh newValue newWeight newMany newBlock newTies newLines hasBlock hasTies size att place sort number fault faultPlace lastFault lastPlace toValue toWeight toMany often firstOf lastOf unlikes unlikeMany isCandidate modes fewest z11 _ _ _ (lv_sub hl [1, 2, 4, 0] rfl) hP hD hS ez11 (fun ls H locs hl hP hD hS => ?_)
      refine lv_aload_n hx hb dX6_follow_62 rfl (lv_at hl 0 rfl) ?_
      refine lv_iload hx hb dX6_follow_63 (lv_at hl 1 rfl) ?_
      obtain ⟨q12, eq12, h⟩ := e_b h
      refine xv_i0 (As := [.int z11]) (rest := []) (ci := 6) (b := ad 0) ⟨hx, hb, hml, hown, hts⟩ hl.1 (kX6_isPlace l D cA ad 0 tape taped value weight many block ties lines pastValue pastWeight pastMany undos fresh newValue newWeight newMany newBlock newTies newLines hasBlock hasTies size att place sort number fault faultPlace lastFault lastPlace toValue toWeight toMany often firstOf lastOf unlikes unlikeMany isCandidate modes fewest z11  _ eq12) (cwV 1 hts gX6_follow_X6_isPlace rfl rfl rfl (by decide +kernel) ⟨Nat.le_of_ble_eq_true rfl, Nat.le_of_ble_eq_true rfl⟩) rfl hK hP hD hS hA 0 rfl rfl rfl rfl (Nat.le_of_ble_eq_true rfl) dX6_follow_65 ⟨Nat.zero_le _, Nat.zero_le _⟩ (fun H locs hP hD hS hnq12 => ?_)
      have hP : va_P D vwCl (wX6 cA ad 0 tape taped value weight many block ties lines pastValue pastWeight pastMany undos fresh newValue newWeight newMany newBlock newTies newLines hasBlock hasTies size att place sort number fault faultPlace lastFault lastPlace toValue toWeight toMany often firstOf lastOf unlikes unlikeMany isCandidate modes fewest) H := hP
      have hD : va_D A (wX6 cA ad 0 tape taped value weight many block ties lines pastValue pastWeight pastMany undos fresh newValue newWeight newMany newBlock newTies newLines hasBlock hasTies size att place sort number fault faultPlace lastFault lastPlace toValue toWeight toMany often firstOf lastOf unlikes unlikeMany isCandidate modes fewest) := hD
      refine lv_if_eq (tgt := 76) hx hb dX6_follow_68 (by decide) (fun c13 => ?_) (fun c13 => ?_)
      · have h := e_t c13 h
        refine lv_bipush (v := (-2)) hx hb dX6_follow_76 (by decide) ?_
        obtain rfl := e_s h
        exact hret hP hS rfl dX6_follow_78
      · have h := e_f c13 h
        refine lv_iload hx hb dX6_follow_71 (lv_at hl 1 rfl) ?_
        refine lv_goto (tgt := 78) hx hb dX6_follow_73 (by decide) ?_
        obtain rfl := e_s h
        exact hret hP hS rfl dX6_follow_78
    · have h := e_f (not_not_intro c4) h
      refine lv_iconst (v := (-1)) hx hb dX6_follow_20 (by decide) ?_
      obtain rfl := e_s h
      exact hret hP hS rfl dX6_follow_21
set_option maxHeartbeats 4000000 in
set_option maxRecDepth 100000 in
theorem kX6_split (l : Launch) (D : va_G) (cA : Nat → ClassId) (ad : Nat → Nat) (thrown : Int32) (tape : Nat → Int32) (taped : Int32) (value : Nat → Int32) (weight : Nat → Int32) (many : Int32) (block : Int32) (ties : Int32) (lines : Int32) (pastValue : Nat → Int32) (pastWeight : Nat → Int32) (pastMany : Nat → Int32) (undos : Int32) (fresh : Int32) (newValue : Nat → Int32) (newWeight : Nat → Int32) (newMany : Int32) (newBlock : Int32) (newTies : Int32) (newLines : Int32) (hasBlock : Int32) (hasTies : Int32) (size : Int32) (att : Int32) (place : Int32) (sort : Int32) (number : Int32) (fault : Int32) (faultPlace : Int32) (lastFault : Int32) (lastPlace : Int32) (toValue : Nat → Int32) (toWeight : Nat → Int32) (toMany : Int32) (often : Nat → Int32) (firstOf : Nat → Int32) (lastOf : Nat → Int32) (unlikes : Nat → Int32) (unlikeMany : Int32) (isCandidate : Nat → Int32) (modes : Nat → Int32) (fewest : Nat → Int32) (x1 : Int32) (x2 : Int32) (x3 : Int32) (q : Int32 × Int32 × (Nat → Int32) × (Nat → Int32) × (Nat → Int32) × (Nat → Int32) × Int32) (h : mX6_split thrown value many ties often firstOf lastOf unlikes unlikeMany x1 x2 x3 = some q) : MI l yX6_split wsX6_split { frames := 3, cells := 0, slots := 0, locals := 68 } D cA .int [.ref (ad 0), .int x1, .int x2, .int x3] (wX6 cA ad thrown tape taped value weight many block ties lines pastValue pastWeight pastMany undos fresh newValue newWeight newMany newBlock newTies newLines hasBlock hasTies size att place sort number fault faultPlace lastFault lastPlace toValue toWeight toMany often firstOf lastOf unlikes unlikeMany isCandidate modes fewest) (wX6 cA ad q.2.1 tape taped value weight many block ties lines pastValue pastWeight pastMany undos fresh newValue newWeight newMany newBlock newTies newLines hasBlock hasTies size att place sort number fault faultPlace lastFault lastPlace toValue toWeight toMany q.2.2.1 q.2.2.2.1 q.2.2.2.2.1 q.2.2.2.2.2.1 q.2.2.2.2.2.2 isCandidate modes fewest) q.1 := by
  refine MI.of (cc := cX6_split) (maxL := 8) (by decide +kernel) rfl rfl rfl (Nat.le_of_ble_eq_true rfl) ?_
  intro p e s m args below meth c A ls Q hx hb hml hts hown hK hP hD hA hS hl hret
  have hl : lv_has ls 8 [(0, .ref (ad 0)), (1, .int x1), (2, .int x2), (3, .int x3)] := hl
  have f47 := hts (.fieldLink RX6 47 "ModeDeskModel" "often" "[I") (by decide +kernel)
  have f72 := hts (.fieldLink RX6 72 "ModeDeskModel" "thrown" "I") (by decide +kernel)
  have iX6 : ∀ w ∈ wsX60, w ∈ wsX6_split := by decide +kernel
  unfold mX6_split at h
  refine lv_aload_n hx hb dX6_split_0 rfl (lv_at hl 0 rfl) ?_
  refine lv_iconst (v := 0) hx hb dX6_split_1 (by decide) ?_
  refine va_put (D := D) (ci := 6) (v := .int 0) (ty := .int) (C := RX6) (T := TX6) (N := 42) hx hb hts iX6 tyX6 tyX6_ok nmX6 hown hK hP hD hS 0 rfl rfl 0 (Nat.le_of_ble_eq_true rfl) f72 (fun _ h9 => h9) rfl (tyX6_ok 0 (Nat.le_of_ble_eq_true rfl)) rfl rfl (Nat.le_of_ble_eq_true rfl) dX6_split_2 (fun H locs hP hD hS => ?_)
  have hP : va_P D vwCl (wX6 cA ad 0 tape taped value weight many block ties lines pastValue pastWeight pastMany undos fresh newValue newWeight newMany newBlock newTies newLines hasBlock hasTies size att place sort number fault faultPlace lastFault lastPlace toValue toWeight toMany often firstOf lastOf unlikes unlikeMany isCandidate modes fewest) H := hP
  have hD : va_D A (wX6 cA ad 0 tape taped value weight many block ties lines pastValue pastWeight pastMany undos fresh newValue newWeight newMany newBlock newTies newLines hasBlock hasTies size att place sort number fault faultPlace lastFault lastPlace toValue toWeight toMany often firstOf lastOf unlikes unlikeMany isCandidate modes fewest) := hD
  refine lv_aload_n hx hb dX6_split_5 rfl (lv_at hl 0 rfl) ?_
  refine lv_iload_n hx hb dX6_split_6 rfl (lv_at hl 1 rfl) ?_
  refine lv_iload_n hx hb dX6_split_7 rfl (lv_at hl 2 rfl) ?_
  obtain ⟨q1, eq1, h⟩ := e_b h
  refine xv_i0 (As := [.int x1, .int x2]) (rest := []) (ci := 6) (b := ad 0) ⟨hx, hb, hml, hown, hts⟩ hl.1 (kX6_isSpan l D cA ad 0 tape taped value weight many block ties lines pastValue pastWeight pastMany undos fresh newValue newWeight newMany newBlock newTies newLines hasBlock hasTies size att place sort number fault faultPlace lastFault lastPlace toValue toWeight toMany often firstOf lastOf unlikes unlikeMany isCandidate modes fewest x1 x2  _ eq1) (cwV 2 hts gX6_split_X6_isSpan rfl rfl rfl (by decide +kernel) ⟨Nat.le_of_ble_eq_true rfl, Nat.le_of_ble_eq_true rfl⟩) rfl hK hP hD hS hA 0 rfl rfl rfl rfl (Nat.le_of_ble_eq_true rfl) dX6_split_8 ⟨Nat.zero_le _, Nat.zero_le _⟩ (fun H locs hP hD hS hnq1 => ?_)
  have hP : va_P D vwCl (wX6 cA ad 0 tape taped value weight many block ties lines pastValue pastWeight pastMany undos fresh newValue newWeight newMany newBlock newTies newLines hasBlock hasTies size att place sort number fault faultPlace lastFault lastPlace toValue toWeight toMany often firstOf lastOf unlikes unlikeMany isCandidate modes fewest) H := hP
  have hD : va_D A (wX6 cA ad 0 tape taped value weight many block ties lines pastValue pastWeight pastMany undos fresh newValue newWeight newMany newBlock newTies newLines hasBlock hasTies size att place sort number fault faultPlace lastFault lastPlace toValue toWeight toMany often firstOf lastOf unlikes unlikeMany isCandidate modes fewest) := hD
  refine lv_if_eq (tgt := 28) hx hb dX6_split_11 (by decide) (fun c2 => ?_) (fun c2 => ?_)
  · have h := e_t c2 h
    refine lv_iconst (v := (-1)) hx hb dX6_split_28 (by decide) ?_
    obtain rfl := e_s h
    exact hret hP hS rfl dX6_split_29
  · have h := e_f c2 h
    refine lv_iload_n hx hb dX6_split_14 rfl (lv_at hl 1 rfl) ?_
    refine lv_iload_n hx hb dX6_split_15 rfl (lv_at hl 2 rfl) ?_
    refine lv_icmp_eq (tgt := 28) hx hb dX6_split_16 (by decide) (fun c3 => ?_) (fun c3 => ?_)
    · have h := e_t c3 h
      refine lv_iconst (v := (-1)) hx hb dX6_split_28 (by decide) ?_
      obtain rfl := e_s h
      exact hret hP hS rfl dX6_split_29
    · have h := e_f c3 h
      refine lv_iload_n hx hb dX6_split_19 rfl (lv_at hl 3 rfl) ?_
      refine lv_if_lt (tgt := 28) hx hb dX6_split_20 (by decide) (fun c4 => ?_) (fun c4 => ?_)
      · have h := e_t c4 h
        refine lv_iconst (v := (-1)) hx hb dX6_split_28 (by decide) ?_
        obtain rfl := e_s h
        exact hret hP hS rfl dX6_split_29
      · have h := e_f c4 h
        refine lv_iload_n hx hb dX6_split_23 rfl (lv_at hl 3 rfl) ?_
        refine lv_iconst (v := 1) hx hb dX6_split_24 (by decide) ?_
        refine lv_icmp_le (tgt := 30) hx hb dX6_split_25 (by decide) (fun c5 => ?_) (fun c5 => ?_)
        · have h := e_t c5 h
          refine lv_iload_n hx hb dX6_split_30 rfl (lv_at hl 1 rfl) ?_
          refine lv_istore (lv' := [(4, .int x1), (0, .ref (ad 0)), (1, .int x1), (2, .int x2), (3, .int x3)]) hx hb dX6_split_31 hl (by decide) rfl (fun ls hl => ?_)
          refine lv_iconst (v := (-1)) hx hb dX6_split_33 (by decide) ?_
          refine lv_istore (lv' := [(5, .int (-1)), (4, .int x1), (0, .ref (ad 0)), (1, .int x1), (2, .int x2), (3, .int x3)]) hx hb dX6_split_34 hl (by decide) rfl (fun ls hl => ?_)
          refine lv_iload_n hx hb dX6_split_36 rfl (lv_at hl 3 rfl) ?_
          refine lv_istore (lv' := [(6, .int x1), (5, .int (-1)), (4, .int x1), (0, .ref (ad 0)), (1, .int x1), (2, .int x2), (3, .int x3)]) hx hb dX6_split_37 hl (by decide) rfl (fun ls hl => ?_)
          have hL39 : ∀ (n : Nat) (x1 : Int32) (x2 : Int32) (x3 : Int32) (x4 : Int32) (x5 : Int32) (x6 : Int32) (thrown : Int32) (tape : Nat → Int32) (taped : Int32) (value : Nat → Int32) (weight : Nat → Int32) (many : Int32) (block : Int32) (ties : Int32) (lines : Int32) (pastValue : Nat → Int32) (pastWeight : Nat → Int32) (pastMany : Nat → Int32) (undos : Int32) (fresh : Int32) (newValue : Nat → Int32) (newWeight : Nat → Int32) (newMany : Int32) (newBlock : Int32) (newTies : Int32) (newLines : Int32) (hasBlock : Int32) (hasTies : Int32) (size : Int32) (att : Int32) (place : Int32) (sort : Int32) (number : Int32) (fault : Int32) (faultPlace : Int32) (lastFault : Int32) (lastPlace : Int32) (toValue : Nat → Int32) (toWeight : Nat → Int32) (toMany : Int32) (often : Nat → Int32) (firstOf : Nat → Int32) (lastOf : Nat → Int32) (unlikes : Nat → Int32) (unlikeMany : Int32) (isCandidate : Nat → Int32) (modes : Nat → Int32) (fewest : Nat → Int32) (z6 : Int32 × Int32 × (Nat → Int32) × (Nat → Int32) × (Nat → Int32) × (Nat → Int32) × Int32) (ls : Array Slot) (H : Heap) (locs : List Loc), lv_has ls 8 [(0, .ref (ad 0)), (1, .int x1), (2, .int x2), (3, .int x3), (4, .int x4), (5, .int x5), (6, .int x6)] → va_P D vwCl (wX6 cA ad thrown tape taped value weight many block ties lines pastValue pastWeight pastMany undos fresh newValue newWeight newMany newBlock newTies newLines hasBlock hasTies size att place sort number fault faultPlace lastFault lastPlace toValue toWeight toMany often firstOf lastOf unlikes unlikeMany isCandidate modes fewest) H → va_D A (wX6 cA ad thrown tape taped value weight many block ties lines pastValue pastWeight pastMany undos fresh newValue newWeight newMany newBlock newTies newLines hasBlock hasTies size att place sort number fault faultPlace lastFault lastPlace toValue toWeight toMany often firstOf lastOf unlikes unlikeMany isCandidate modes fewest) → va_S A s.heap H locs → mX6_split_L39 value ties x1 x2 n x4 x5 x6 often firstOf lastOf unlikes unlikeMany = some z6 → (∀ (ls : Array Slot) (H : Heap) (locs : List Loc), lv_has ls 8 [(3, .int x3), (4, .int z6.1), (5, .int z6.2.1)] → va_P D vwCl (wX6 cA ad thrown tape taped value weight many block ties lines pastValue pastWeight pastMany undos fresh newValue newWeight newMany newBlock newTies newLines hasBlock hasTies size att place sort number fault faultPlace lastFault lastPlace toValue toWeight toMany z6.2.2.1 z6.2.2.2.1 z6.2.2.2.2.1 z6.2.2.2.2.2.1 z6.2.2.2.2.2.2 isCandidate modes fewest) H → va_D A (wX6 cA ad thrown tape taped value weight many block ties lines pastValue pastWeight pastMany undos fresh newValue newWeight newMany newBlock newTies newLines hasBlock hasTies size att place sort number fault faultPlace lastFault lastPlace toValue toWeight toMany z6.2.2.1 z6.2.2.2.1 z6.2.2.2.2.1 z6.2.2.2.2.2.1 z6.2.2.2.2.2.2 isCandidate modes fewest) → va_S A s.heap H locs → W p l e (headSpec wsX6_split { frames := 3, cells := 0, slots := 0, locals := 68 }).room s m args below meth c H locs 0 0 Q (F0 m 102 ls [])) → W p l e (headSpec wsX6_split { frames := 3, cells := 0, slots := 0, locals := 68 }).room s m args below meth c H locs 0 0 Q (F0 m 39 ls []) := by
            intro n
            induction n with
            | zero => intro x1 x2 x3 x4 x5 x6 thrown tape taped value weight many block ties lines pastValue pastWeight pastMany undos fresh newValue newWeight newMany newBlock newTies newLines hasBlock hasTies size att place sort number fault faultPlace lastFault lastPlace toValue toWeight toMany often firstOf lastOf unlikes unlikeMany isCandidate modes fewest z6 ls H locs hl hP hD hS h hk39; exact e_n h
            | succ n ih39 =>
              intro x1 x2 x3 x4 x5 x6 thrown tape taped value weight many block ties lines pastValue pastWeight pastMany undos fresh newValue newWeight newMany newBlock newTies newLines hasBlock hasTies size att place sort number fault faultPlace lastFault lastPlace toValue toWeight toMany often firstOf lastOf unlikes unlikeMany isCandidate modes fewest z6 ls H locs hl hP hD hS h hk39
              rw [mX6_split_L39.eq_2] at h
              refine lv_iload hx hb dX6_split_39 (lv_at hl 6 rfl) ?_
              refine lv_iload_n hx hb dX6_split_41 rfl (lv_at hl 2 rfl) ?_
              refine lv_icmp_ge (tgt := 102) hx hb dX6_split_42 (by decide) (fun c7 => ?_) (fun c7 => ?_)
              · have h := e_t c7 h
                obtain rfl := e_s h
                exact hk39 _ _ _ (lv_sub hl [3, 4, 5] rfl) hP hD hS
              · have h := e_f c7 h
                refine lv_aload_n hx hb dX6_split_45 rfl (lv_at hl 0 rfl) ?_
                refine va_get (D := D) (ci := 6) (v := .ref (ad 11)) (C := RX6) (T := TX6) (N := 42) hx hb hts iX6 hown hK hP 0 rfl rfl 34 (Nat.le_of_ble_eq_true rfl) f47 (fun _ h9 => h9) rfl dX6_split_46 ?_
                refine lv_aload_n hx hb dX6_split_49 rfl (lv_at hl 0 rfl) ?_
                refine lv_iload_n hx hb dX6_split_50 rfl (lv_at hl 1 rfl) ?_
                refine lv_iload hx hb dX6_split_51 (lv_at hl 6 rfl) ?_
                obtain ⟨q8, eq8, h⟩ := e_b h
                refine xv_i0 (As := [.int x1, .int x6]) (rest := [.ref (ad 11)]) (ci := 6) (b := ad 0) ⟨hx, hb, hml, hown, hts⟩ hl.1 (kX6_modeOf l D cA ad thrown tape taped value weight many block ties lines pastValue pastWeight pastMany undos fresh newValue newWeight newMany newBlock newTies newLines hasBlock hasTies size att place sort number fault faultPlace lastFault lastPlace toValue toWeight toMany often firstOf lastOf unlikes unlikeMany isCandidate modes fewest x1 x6  _ eq8) (cwV 2 hts gX6_split_X6_modeOf rfl rfl rfl (by decide +kernel) ⟨Nat.le_of_ble_eq_true rfl, Nat.le_of_ble_eq_true rfl⟩) rfl hK hP hD hS hA 0 rfl rfl rfl rfl (Nat.le_of_ble_eq_true rfl) dX6_split_53 ⟨Nat.zero_le _, Nat.zero_le _⟩ (fun H locs hP hD hS hnq8 => ?_)
                have hP : va_P D vwCl (wX6 cA ad thrown tape taped value weight many block ties lines pastValue pastWeight pastMany undos fresh newValue newWeight newMany newBlock newTies newLines hasBlock hasTies size att place sort number fault faultPlace lastFault lastPlace toValue toWeight toMany q8.2.1 q8.2.2.1 q8.2.2.2.1 q8.2.2.2.2.1 q8.2.2.2.2.2 isCandidate modes fewest) H := hP
                have hD : va_D A (wX6 cA ad thrown tape taped value weight many block ties lines pastValue pastWeight pastMany undos fresh newValue newWeight newMany newBlock newTies newLines hasBlock hasTies size att place sort number fault faultPlace lastFault lastPlace toValue toWeight toMany q8.2.1 q8.2.2.1 q8.2.2.2.1 q8.2.2.2.2.1 q8.2.2.2.2.2 isCandidate modes fewest) := hD
                obtain ⟨v9, ev9, nv9, h⟩ := e_rd h
                refine xa_iald hx hb hK hP 11 rfl nv9 ev9 dX6_split_56 ?_
                refine lv_istore (lv' := [(7, .int v9), (0, .ref (ad 0)), (1, .int x1), (2, .int x2), (3, .int x3), (4, .int x4), (5, .int x5), (6, .int x6)]) hx hb dX6_split_57 hl (by decide) rfl (fun ls hl => ?_)
                refine lv_iload hx hb dX6_split_59 (lv_at hl 0 rfl) ?_
                refine lv_aload_n hx hb dX6_split_61 rfl (lv_at hl 1 rfl) ?_
                refine va_get (D := D) (ci := 6) (v := .ref (ad 11)) (C := RX6) (T := TX6) (N := 42) hx hb hts iX6 hown hK hP 0 rfl rfl 34 (Nat.le_of_ble_eq_true rfl) f47 (fun _ h9 => h9) rfl dX6_split_62 ?_
                refine lv_aload_n hx hb dX6_split_65 rfl (lv_at hl 1 rfl) ?_
                refine lv_iload hx hb dX6_split_66 (lv_at hl 7 rfl) ?_
                refine lv_iconst (v := 1) hx hb dX6_split_68 (by decide) ?_
                refine lv_iadd hx hb dX6_split_69 ?_
                refine lv_iload_n hx hb dX6_split_70 rfl (lv_at hl 3 rfl) ?_
                obtain ⟨q10, eq10, h⟩ := e_b h
                refine xv_i0 (As := [.int (x6 + 1), .int x2]) (rest := [.ref (ad 11), .int v9]) (ci := 6) (b := ad 0) ⟨hx, hb, hml, hown, hts⟩ hl.1 (kX6_modeOf l D cA ad thrown tape taped value weight many block ties lines pastValue pastWeight pastMany undos fresh newValue newWeight newMany newBlock newTies newLines hasBlock hasTies size att place sort number fault faultPlace lastFault lastPlace toValue toWeight toMany q8.2.1 q8.2.2.1 q8.2.2.2.1 q8.2.2.2.2.1 q8.2.2.2.2.2 isCandidate modes fewest (x6 + 1) x2  _ eq10) (cwV 2 hts gX6_split_X6_modeOf rfl rfl rfl (by decide +kernel) ⟨Nat.le_of_ble_eq_true rfl, Nat.le_of_ble_eq_true rfl⟩) rfl hK hP hD hS hA 0 rfl rfl rfl rfl (Nat.le_of_ble_eq_true rfl) dX6_split_71 ⟨Nat.zero_le _, Nat.zero_le _⟩ (fun H locs hP hD hS hnq10 => ?_)
                have hP : va_P D vwCl (wX6 cA ad thrown tape taped value weight many block ties lines pastValue pastWeight pastMany undos fresh newValue newWeight newMany newBlock newTies newLines hasBlock hasTies size att place sort number fault faultPlace lastFault lastPlace toValue toWeight toMany q10.2.1 q10.2.2.1 q10.2.2.2.1 q10.2.2.2.2.1 q10.2.2.2.2.2 isCandidate modes fewest) H := hP
                have hD : va_D A (wX6 cA ad thrown tape taped value weight many block ties lines pastValue pastWeight pastMany undos fresh newValue newWeight newMany newBlock newTies newLines hasBlock hasTies size att place sort number fault faultPlace lastFault lastPlace toValue toWeight toMany q10.2.1 q10.2.2.1 q10.2.2.2.1 q10.2.2.2.2.1 q10.2.2.2.2.2 isCandidate modes fewest) := hD
                obtain ⟨v11, ev11, nv11, h⟩ := e_rd h
                refine xa_iald hx hb hK hP 11 rfl nv11 ev11 dX6_split_74 ?_
                refine lv_iadd hx hb dX6_split_75 ?_
                refine lv_istore (lv' := [(7, .int (v9 + v11)), (0, .ref (ad 0)), (1, .int x1), (2, .int x2), (3, .int x3), (4, .int x4), (5, .int x5), (6, .int x6)]) hx hb dX6_split_76 hl (by decide) rfl (fun ls hl => ?_)
                refine lv_iload hx hb dX6_split_78 (lv_at hl 0 rfl) ?_
                refine lv_iload hx hb dX6_split_80 (lv_at hl 6 rfl) ?_
                refine lv_icmp_gt (tgt := 88) hx hb dX6_split_82 (by decide) (fun c12 => ?_) (fun c12 => ?_)
                · have h := e_t c12 h
                  refine lv_iload hx hb dX6_split_88 (lv_at hl 7 rfl) ?_
                  refine lv_istore (lv' := [(4, .int x6), (7, .int (v9 + v11)), (0, .ref (ad 0)), (1, .int x1), (2, .int x2), (3, .int x3), (5, .int x5), (6, .int x6)]) hx hb dX6_split_90 hl (by decide) rfl (fun ls hl => ?_)
                  refine lv_iload hx hb dX6_split_92 (lv_at hl 1 rfl) ?_
                  refine lv_istore (lv' := [(5, .int (v9 + v11)), (4, .int x6), (7, .int (v9 + v11)), (0, .ref (ad 0)), (1, .int x1), (2, .int x2), (3, .int x3), (6, .int x6)]) hx hb dX6_split_94 hl (by decide) rfl (fun ls hl => ?_)
                  refine lv_iinc (v := (x6 + 1)) (lv' := [(6, .int (x6 + 1)), (5, .int (v9 + v11)), (4, .int x6), (7, .int (v9 + v11)), (0, .ref (ad 0)), (1, .int x1), (2, .int x2), (3, .int x3)]) hx hb dX6_split_96 hl (k := 7) rfl rfl (by decide) rfl (fun ls hl => ?_)
                  refine lv_goto (tgt := 39) hx hb dX6_split_99 (by decide) ?_
                  exact ih39 x1 x2 x3 x6 (v9 + v11) (x6 + 1) thrown tape taped value weight many block ties lines pastValue pastWeight pastMany undos fresh newValue newWeight newMany newBlock newTies newLines hasBlock hasTies size att place sort number fault faultPlace lastFault lastPlace toValue toWeight toMany q10.2.1 q10.2.2.1 q10.2.2.2.1 q10.2.2.2.2.1 q10.2.2.2.2.2 isCandidate modes fewest z6 _ _ _ (lv_sub hl [4, 5, 6, 7, 2, 1, 0] rfl) hP hD hS h hk39
                · have h := e_f c12 h
                  refine lv_goto (tgt := 96) hx hb dX6_split_85 (by decide) ?_
                  refine lv_iinc (v := (x6 + 1)) (lv' := [(6, .int (x6 + 1)), (7, .int (v9 + v11)), (0, .ref (ad 0)), (1, .int x1), (2, .int x2), (3, .int x3), (4, .int x4), (5, .int x5)]) hx hb dX6_split_96 hl (k := 7) rfl rfl (by decide) rfl (fun ls hl => ?_)
                  refine lv_goto (tgt := 39) hx hb dX6_split_99 (by decide) ?_
                  exact ih39 x1 x2 x3 x4 x5 (x6 + 1) thrown tape taped value weight many block ties lines pastValue pastWeight pastMany undos fresh newValue newWeight newMany newBlock newTies newLines hasBlock hasTies size att place sort number fault faultPlace lastFault lastPlace toValue toWeight toMany q10.2.1 q10.2.2.1 q10.2.2.2.1 q10.2.2.2.2.1 q10.2.2.2.2.2 isCandidate modes fewest z6 _ _ _ (lv_sub hl [2, 3, 4, 5, 6, 7, 0] rfl) hP hD hS h hk39
          obtain ⟨z13, ez13, h⟩ := e_b h
          refine hL39 FU x1 x2 x3 x1 (-1) x1 0 tape taped value weight many block ties lines pastValue pastWeight pastMany undos fresh newValue newWeight newMany newBlock newTies newLines hasBlock hasTies size att place sort number fault faultPlace lastFault lastPlace toValue toWeight toMany often firstOf lastOf unlikes unlikeMany isCandidate modes fewest z13 _ _ _ (lv_sub hl [3, 4, 5, 6, 2, 1, 0] rfl) hP hD hS ez13 (fun ls H locs hl hP hD hS => ?_)
          refine lv_iload_n hx hb dX6_split_102 rfl (lv_at hl 0 rfl) ?_
          refine lv_if_ne (tgt := 111) hx hb dX6_split_103 (by decide) (fun c14 => ?_) (fun c14 => ?_)
          · have h := e_t c14 h
            refine lv_iload hx hb dX6_split_111 (lv_at hl 2 rfl) ?_
            obtain rfl := e_s h
            exact hret hP hS rfl dX6_split_113
          · have h := e_f (not_not_intro c14) h
            refine lv_iload hx hb dX6_split_106 (lv_at hl 1 rfl) ?_
            refine lv_goto (tgt := 113) hx hb dX6_split_108 (by decide) ?_
            obtain rfl := e_s h
            exact hret hP hS rfl dX6_split_113
        · have h := e_f c5 h
          refine lv_iconst (v := (-1)) hx hb dX6_split_28 (by decide) ?_
          obtain rfl := e_s h
          exact hret hP hS rfl dX6_split_29
set_option maxHeartbeats 4000000 in
set_option maxRecDepth 100000 in
theorem kX6_together (l : Launch) (D : va_G) (cA : Nat → ClassId) (ad : Nat → Nat) (thrown : Int32) (tape : Nat → Int32) (taped : Int32) (value : Nat → Int32) (weight : Nat → Int32) (many : Int32) (block : Int32) (ties : Int32) (lines : Int32) (pastValue : Nat → Int32) (pastWeight : Nat → Int32) (pastMany : Nat → Int32) (undos : Int32) (fresh : Int32) (newValue : Nat → Int32) (newWeight : Nat → Int32) (newMany : Int32) (newBlock : Int32) (newTies : Int32) (newLines : Int32) (hasBlock : Int32) (hasTies : Int32) (size : Int32) (att : Int32) (place : Int32) (sort : Int32) (number : Int32) (fault : Int32) (faultPlace : Int32) (lastFault : Int32) (lastPlace : Int32) (toValue : Nat → Int32) (toWeight : Nat → Int32) (toMany : Int32) (often : Nat → Int32) (firstOf : Nat → Int32) (lastOf : Nat → Int32) (unlikes : Nat → Int32) (unlikeMany : Int32) (isCandidate : Nat → Int32) (modes : Nat → Int32) (fewest : Nat → Int32) (x1 : Int32) (x2 : Int32) (x3 : Int32) (x4 : Int32) (x5 : Int32) (q : Int32 × Int32 × (Nat → Int32) × (Nat → Int32) × (Nat → Int32) × (Nat → Int32) × Int32) (h : mX6_together thrown value many ties often firstOf lastOf unlikes unlikeMany x1 x2 x3 x4 x5 = some q) : MI l yX6_together wsX6_together { frames := 2, cells := 0, slots := 0, locals := 46 } D cA .int [.ref (ad 0), .int x1, .int x2, .int x3, .int x4, .int x5] (wX6 cA ad thrown tape taped value weight many block ties lines pastValue pastWeight pastMany undos fresh newValue newWeight newMany newBlock newTies newLines hasBlock hasTies size att place sort number fault faultPlace lastFault lastPlace toValue toWeight toMany often firstOf lastOf unlikes unlikeMany isCandidate modes fewest) (wX6 cA ad q.2.1 tape taped value weight many block ties lines pastValue pastWeight pastMany undos fresh newValue newWeight newMany newBlock newTies newLines hasBlock hasTies size att place sort number fault faultPlace lastFault lastPlace toValue toWeight toMany q.2.2.1 q.2.2.2.1 q.2.2.2.2.1 q.2.2.2.2.2.1 q.2.2.2.2.2.2 isCandidate modes fewest) q.1 := by
  refine MI.of (cc := cX6_together) (maxL := 8) (by decide +kernel) rfl rfl rfl (Nat.le_of_ble_eq_true rfl) ?_
  intro p e s m args below meth c A ls Q hx hb hml hts hown hK hP hD hA hS hl hret
  have hl : lv_has ls 8 [(0, .ref (ad 0)), (1, .int x1), (2, .int x2), (3, .int x3), (4, .int x4), (5, .int x5)] := hl
  have f13 := hts (.fieldLink RX6 13 "ModeDeskModel" "value" "[I") (by decide +kernel)
  have f178 := hts (.fieldLink RX6 178 "ModeDeskModel" "ties" "I") (by decide +kernel)
  have f72 := hts (.fieldLink RX6 72 "ModeDeskModel" "thrown" "I") (by decide +kernel)
  have iX6 : ∀ w ∈ wsX60, w ∈ wsX6_together := by decide +kernel
  unfold mX6_together at h
  refine lv_aload_n hx hb dX6_together_0 rfl (lv_at hl 0 rfl) ?_
  refine lv_iconst (v := 0) hx hb dX6_together_1 (by decide) ?_
  refine va_put (D := D) (ci := 6) (v := .int 0) (ty := .int) (C := RX6) (T := TX6) (N := 42) hx hb hts iX6 tyX6 tyX6_ok nmX6 hown hK hP hD hS 0 rfl rfl 0 (Nat.le_of_ble_eq_true rfl) f72 (fun _ h9 => h9) rfl (tyX6_ok 0 (Nat.le_of_ble_eq_true rfl)) rfl rfl (Nat.le_of_ble_eq_true rfl) dX6_together_2 (fun H locs hP hD hS => ?_)
  have hP : va_P D vwCl (wX6 cA ad 0 tape taped value weight many block ties lines pastValue pastWeight pastMany undos fresh newValue newWeight newMany newBlock newTies newLines hasBlock hasTies size att place sort number fault faultPlace lastFault lastPlace toValue toWeight toMany often firstOf lastOf unlikes unlikeMany isCandidate modes fewest) H := hP
  have hD : va_D A (wX6 cA ad 0 tape taped value weight many block ties lines pastValue pastWeight pastMany undos fresh newValue newWeight newMany newBlock newTies newLines hasBlock hasTies size att place sort number fault faultPlace lastFault lastPlace toValue toWeight toMany often firstOf lastOf unlikes unlikeMany isCandidate modes fewest) := hD
  refine lv_aload_n hx hb dX6_together_5 rfl (lv_at hl 0 rfl) ?_
  refine lv_iload_n hx hb dX6_together_6 rfl (lv_at hl 1 rfl) ?_
  refine lv_iload_n hx hb dX6_together_7 rfl (lv_at hl 2 rfl) ?_
  obtain ⟨q1, eq1, h⟩ := e_b h
  refine xv_i0 (As := [.int x1, .int x2]) (rest := []) (ci := 6) (b := ad 0) ⟨hx, hb, hml, hown, hts⟩ hl.1 (kX6_isSpan l D cA ad 0 tape taped value weight many block ties lines pastValue pastWeight pastMany undos fresh newValue newWeight newMany newBlock newTies newLines hasBlock hasTies size att place sort number fault faultPlace lastFault lastPlace toValue toWeight toMany often firstOf lastOf unlikes unlikeMany isCandidate modes fewest x1 x2  _ eq1) (cwV 2 hts gX6_together_X6_isSpan rfl rfl rfl (by decide +kernel) ⟨Nat.le_of_ble_eq_true rfl, Nat.le_of_ble_eq_true rfl⟩) rfl hK hP hD hS hA 0 rfl rfl rfl rfl (Nat.le_of_ble_eq_true rfl) dX6_together_8 ⟨Nat.zero_le _, Nat.zero_le _⟩ (fun H locs hP hD hS hnq1 => ?_)
  have hP : va_P D vwCl (wX6 cA ad 0 tape taped value weight many block ties lines pastValue pastWeight pastMany undos fresh newValue newWeight newMany newBlock newTies newLines hasBlock hasTies size att place sort number fault faultPlace lastFault lastPlace toValue toWeight toMany often firstOf lastOf unlikes unlikeMany isCandidate modes fewest) H := hP
  have hD : va_D A (wX6 cA ad 0 tape taped value weight many block ties lines pastValue pastWeight pastMany undos fresh newValue newWeight newMany newBlock newTies newLines hasBlock hasTies size att place sort number fault faultPlace lastFault lastPlace toValue toWeight toMany often firstOf lastOf unlikes unlikeMany isCandidate modes fewest) := hD
  refine lv_if_eq (tgt := 35) hx hb dX6_together_11 (by decide) (fun c2 => ?_) (fun c2 => ?_)
  · have h := e_t c2 h
    refine lv_iconst (v := (-1)) hx hb dX6_together_35 (by decide) ?_
    obtain rfl := e_s h
    exact hret hP hS rfl dX6_together_36
  · have h := e_f c2 h
    refine lv_aload_n hx hb dX6_together_14 rfl (lv_at hl 0 rfl) ?_
    refine lv_iload_n hx hb dX6_together_15 rfl (lv_at hl 3 rfl) ?_
    refine lv_iload hx hb dX6_together_16 (lv_at hl 4 rfl) ?_
    obtain ⟨q3, eq3, h⟩ := e_b h
    refine xv_i0 (As := [.int x3, .int x4]) (rest := []) (ci := 6) (b := ad 0) ⟨hx, hb, hml, hown, hts⟩ hl.1 (kX6_isSpan l D cA ad 0 tape taped value weight many block ties lines pastValue pastWeight pastMany undos fresh newValue newWeight newMany newBlock newTies newLines hasBlock hasTies size att place sort number fault faultPlace lastFault lastPlace toValue toWeight toMany often firstOf lastOf unlikes unlikeMany isCandidate modes fewest x3 x4  _ eq3) (cwV 2 hts gX6_together_X6_isSpan rfl rfl rfl (by decide +kernel) ⟨Nat.le_of_ble_eq_true rfl, Nat.le_of_ble_eq_true rfl⟩) rfl hK hP hD hS hA 0 rfl rfl rfl rfl (Nat.le_of_ble_eq_true rfl) dX6_together_18 ⟨Nat.zero_le _, Nat.zero_le _⟩ (fun H locs hP hD hS hnq3 => ?_)
    have hP : va_P D vwCl (wX6 cA ad 0 tape taped value weight many block ties lines pastValue pastWeight pastMany undos fresh newValue newWeight newMany newBlock newTies newLines hasBlock hasTies size att place sort number fault faultPlace lastFault lastPlace toValue toWeight toMany often firstOf lastOf unlikes unlikeMany isCandidate modes fewest) H := hP
    have hD : va_D A (wX6 cA ad 0 tape taped value weight many block ties lines pastValue pastWeight pastMany undos fresh newValue newWeight newMany newBlock newTies newLines hasBlock hasTies size att place sort number fault faultPlace lastFault lastPlace toValue toWeight toMany often firstOf lastOf unlikes unlikeMany isCandidate modes fewest) := hD
    refine lv_if_eq (tgt := 35) hx hb dX6_together_21 (by decide) (fun c4 => ?_) (fun c4 => ?_)
    · have h := e_t c4 h
      refine lv_iconst (v := (-1)) hx hb dX6_together_35 (by decide) ?_
      obtain rfl := e_s h
      exact hret hP hS rfl dX6_together_36
    · have h := e_f c4 h
      refine lv_iload hx hb dX6_together_24 (lv_at hl 5 rfl) ?_
      refine lv_if_lt (tgt := 35) hx hb dX6_together_26 (by decide) (fun c5 => ?_) (fun c5 => ?_)
      · have h := e_t c5 h
        refine lv_iconst (v := (-1)) hx hb dX6_together_35 (by decide) ?_
        obtain rfl := e_s h
        exact hret hP hS rfl dX6_together_36
      · have h := e_f c5 h
        refine lv_iload hx hb dX6_together_29 (lv_at hl 5 rfl) ?_
        refine lv_iconst (v := 1) hx hb dX6_together_31 (by decide) ?_
        refine lv_icmp_le (tgt := 37) hx hb dX6_together_32 (by decide) (fun c6 => ?_) (fun c6 => ?_)
        · have h := e_t c6 h
          refine lv_aload_n hx hb dX6_together_37 rfl (lv_at hl 0 rfl) ?_
          refine lv_iconst (v := 0) hx hb dX6_together_38 (by decide) ?_
          refine lv_iconst (v := (-1)) hx hb dX6_together_39 (by decide) ?_
          refine lv_iconst (v := (-1)) hx hb dX6_together_40 (by decide) ?_
          obtain ⟨q7, eq7, h⟩ := e_b h
          refine xv_v0 (As := [.int 0, .int (-1), .int (-1)]) (rest := []) (ci := 6) (b := ad 0) ⟨hx, hb, hml, hown, hts⟩ hl.1 (kX6_counts l D cA ad 0 tape taped value weight many block ties lines pastValue pastWeight pastMany undos fresh newValue newWeight newMany newBlock newTies newLines hasBlock hasTies size att place sort number fault faultPlace lastFault lastPlace toValue toWeight toMany often firstOf lastOf unlikes unlikeMany isCandidate modes fewest 0 (-1) (-1)  _ eq7) (cwV 3 hts gX6_together_X6_counts rfl rfl rfl (by decide +kernel) ⟨Nat.le_of_ble_eq_true rfl, Nat.le_of_ble_eq_true rfl⟩) rfl hK hP hD hS hA 0 rfl rfl rfl rfl (Nat.le_of_ble_eq_true rfl) dX6_together_41 ⟨Nat.zero_le _, Nat.zero_le _⟩ (fun H locs hP hD hS => ?_)
          have hP : va_P D vwCl (wX6 cA ad 0 tape taped value weight many block ties lines pastValue pastWeight pastMany undos fresh newValue newWeight newMany newBlock newTies newLines hasBlock hasTies size att place sort number fault faultPlace lastFault lastPlace toValue toWeight toMany q7.1 q7.2.1 q7.2.2.1 q7.2.2.2.1 q7.2.2.2.2 isCandidate modes fewest) H := hP
          have hD : va_D A (wX6 cA ad 0 tape taped value weight many block ties lines pastValue pastWeight pastMany undos fresh newValue newWeight newMany newBlock newTies newLines hasBlock hasTies size att place sort number fault faultPlace lastFault lastPlace toValue toWeight toMany q7.1 q7.2.1 q7.2.2.1 q7.2.2.2.1 q7.2.2.2.2 isCandidate modes fewest) := hD
          refine lv_iconst (v := 0) hx hb dX6_together_44 (by decide) ?_
          refine lv_istore (lv' := [(6, .int 0), (0, .ref (ad 0)), (1, .int x1), (2, .int x2), (3, .int x3), (4, .int x4), (5, .int x5)]) hx hb dX6_together_45 hl (by decide) rfl (fun ls hl => ?_)
          refine lv_iload_n hx hb dX6_together_47 rfl (lv_at hl 2 rfl) ?_
          refine lv_istore (lv' := [(7, .int x1), (6, .int 0), (0, .ref (ad 0)), (1, .int x1), (2, .int x2), (3, .int x3), (4, .int x4), (5, .int x5)]) hx hb dX6_together_48 hl (by decide) rfl (fun ls hl => ?_)
          have hL50 : ∀ (n : Nat) (x1 : Int32) (x2 : Int32) (x3 : Int32) (x4 : Int32) (x5 : Int32) (x6 : Int32) (x7 : Int32) (thrown : Int32) (tape : Nat → Int32) (taped : Int32) (value : Nat → Int32) (weight : Nat → Int32) (many : Int32) (block : Int32) (ties : Int32) (lines : Int32) (pastValue : Nat → Int32) (pastWeight : Nat → Int32) (pastMany : Nat → Int32) (undos : Int32) (fresh : Int32) (newValue : Nat → Int32) (newWeight : Nat → Int32) (newMany : Int32) (newBlock : Int32) (newTies : Int32) (newLines : Int32) (hasBlock : Int32) (hasTies : Int32) (size : Int32) (att : Int32) (place : Int32) (sort : Int32) (number : Int32) (fault : Int32) (faultPlace : Int32) (lastFault : Int32) (lastPlace : Int32) (toValue : Nat → Int32) (toWeight : Nat → Int32) (toMany : Int32) (often : Nat → Int32) (firstOf : Nat → Int32) (lastOf : Nat → Int32) (unlikes : Nat → Int32) (unlikeMany : Int32) (isCandidate : Nat → Int32) (modes : Nat → Int32) (fewest : Nat → Int32) (z8 : Int32 × (Nat → Int32) × (Nat → Int32) × (Nat → Int32) × (Nat → Int32) × Int32) (ls : Array Slot) (H : Heap) (locs : List Loc), lv_has ls 8 [(0, .ref (ad 0)), (1, .int x1), (2, .int x2), (3, .int x3), (4, .int x4), (5, .int x5), (6, .int x6), (7, .int x7)] → va_P D vwCl (wX6 cA ad thrown tape taped value weight many block ties lines pastValue pastWeight pastMany undos fresh newValue newWeight newMany newBlock newTies newLines hasBlock hasTies size att place sort number fault faultPlace lastFault lastPlace toValue toWeight toMany often firstOf lastOf unlikes unlikeMany isCandidate modes fewest) H → va_D A (wX6 cA ad thrown tape taped value weight many block ties lines pastValue pastWeight pastMany undos fresh newValue newWeight newMany newBlock newTies newLines hasBlock hasTies size att place sort number fault faultPlace lastFault lastPlace toValue toWeight toMany often firstOf lastOf unlikes unlikeMany isCandidate modes fewest) → va_S A s.heap H locs → mX6_together_L50 value x2 n x6 x7 often firstOf lastOf unlikes unlikeMany = some z8 → (∀ (ls : Array Slot) (H : Heap) (locs : List Loc), lv_has ls 8 [(0, .ref (ad 0)), (1, .int x1), (2, .int x2), (3, .int x3), (4, .int x4), (5, .int x5), (6, .int z8.1)] → va_P D vwCl (wX6 cA ad thrown tape taped value weight many block ties lines pastValue pastWeight pastMany undos fresh newValue newWeight newMany newBlock newTies newLines hasBlock hasTies size att place sort number fault faultPlace lastFault lastPlace toValue toWeight toMany z8.2.1 z8.2.2.1 z8.2.2.2.1 z8.2.2.2.2.1 z8.2.2.2.2.2 isCandidate modes fewest) H → va_D A (wX6 cA ad thrown tape taped value weight many block ties lines pastValue pastWeight pastMany undos fresh newValue newWeight newMany newBlock newTies newLines hasBlock hasTies size att place sort number fault faultPlace lastFault lastPlace toValue toWeight toMany z8.2.1 z8.2.2.1 z8.2.2.2.1 z8.2.2.2.2.1 z8.2.2.2.2.2 isCandidate modes fewest) → va_S A s.heap H locs → W p l e (headSpec wsX6_together { frames := 2, cells := 0, slots := 0, locals := 46 }).room s m args below meth c H locs 0 0 Q (F0 m 78 ls [])) → W p l e (headSpec wsX6_together { frames := 2, cells := 0, slots := 0, locals := 46 }).room s m args below meth c H locs 0 0 Q (F0 m 50 ls []) := by
            intro n
            induction n with
            | zero => intro x1 x2 x3 x4 x5 x6 x7 thrown tape taped value weight many block ties lines pastValue pastWeight pastMany undos fresh newValue newWeight newMany newBlock newTies newLines hasBlock hasTies size att place sort number fault faultPlace lastFault lastPlace toValue toWeight toMany often firstOf lastOf unlikes unlikeMany isCandidate modes fewest z8 ls H locs hl hP hD hS h hk50; exact e_n h
            | succ n ih50 =>
              intro x1 x2 x3 x4 x5 x6 x7 thrown tape taped value weight many block ties lines pastValue pastWeight pastMany undos fresh newValue newWeight newMany newBlock newTies newLines hasBlock hasTies size att place sort number fault faultPlace lastFault lastPlace toValue toWeight toMany often firstOf lastOf unlikes unlikeMany isCandidate modes fewest z8 ls H locs hl hP hD hS h hk50
              rw [mX6_together_L50.eq_2] at h
              refine lv_iload hx hb dX6_together_50 (lv_at hl 7 rfl) ?_
              refine lv_iload_n hx hb dX6_together_52 rfl (lv_at hl 2 rfl) ?_
              refine lv_icmp_gt (tgt := 78) hx hb dX6_together_53 (by decide) (fun c9 => ?_) (fun c9 => ?_)
              · have h := e_t c9 h
                obtain rfl := e_s h
                exact hk50 _ _ _ (lv_sub hl [0, 1, 2, 3, 4, 5, 6] rfl) hP hD hS
              · have h := e_f c9 h
                refine lv_aload_n hx hb dX6_together_56 rfl (lv_at hl 0 rfl) ?_
                refine lv_aload_n hx hb dX6_together_57 rfl (lv_at hl 0 rfl) ?_
                refine va_get (D := D) (ci := 6) (v := .ref (ad 2)) (C := RX6) (T := TX6) (N := 42) hx hb hts iX6 hown hK hP 0 rfl rfl 3 (Nat.le_of_ble_eq_true rfl) f13 (fun _ h9 => h9) rfl dX6_together_58 ?_
                refine lv_iload hx hb dX6_together_61 (lv_at hl 7 rfl) ?_
                obtain ⟨v10, ev10, nv10, h⟩ := e_rd h
                refine xa_iald hx hb hK hP 2 rfl nv10 ev10 dX6_together_63 ?_
                refine lv_iload hx hb dX6_together_64 (lv_at hl 6 rfl) ?_
                obtain ⟨q11, eq11, h⟩ := e_b h
                refine xv_v0 (As := [.int v10, .int x6]) (rest := []) (ci := 6) (b := ad 0) ⟨hx, hb, hml, hown, hts⟩ hl.1 (kX6_stands l D cA ad thrown tape taped value weight many block ties lines pastValue pastWeight pastMany undos fresh newValue newWeight newMany newBlock newTies newLines hasBlock hasTies size att place sort number fault faultPlace lastFault lastPlace toValue toWeight toMany often firstOf lastOf unlikes unlikeMany isCandidate modes fewest v10 x6  _ eq11) (cwV 2 hts gX6_together_X6_stands rfl rfl rfl (by decide +kernel) ⟨Nat.le_of_ble_eq_true rfl, Nat.le_of_ble_eq_true rfl⟩) rfl hK hP hD hS hA 0 rfl rfl rfl rfl (Nat.le_of_ble_eq_true rfl) dX6_together_66 ⟨Nat.zero_le _, Nat.zero_le _⟩ (fun H locs hP hD hS => ?_)
                have hP : va_P D vwCl (wX6 cA ad thrown tape taped value weight many block ties lines pastValue pastWeight pastMany undos fresh newValue newWeight newMany newBlock newTies newLines hasBlock hasTies size att place sort number fault faultPlace lastFault lastPlace toValue toWeight toMany q11.1 q11.2.1 q11.2.2.1 q11.2.2.2.1 q11.2.2.2.2 isCandidate modes fewest) H := hP
                have hD : va_D A (wX6 cA ad thrown tape taped value weight many block ties lines pastValue pastWeight pastMany undos fresh newValue newWeight newMany newBlock newTies newLines hasBlock hasTies size att place sort number fault faultPlace lastFault lastPlace toValue toWeight toMany q11.1 q11.2.1 q11.2.2.1 q11.2.2.2.1 q11.2.2.2.2 isCandidate modes fewest) := hD
                refine lv_iinc (v := (x6 + 1)) (lv' := [(6, .int (x6 + 1)), (0, .ref (ad 0)), (1, .int x1), (2, .int x2), (3, .int x3), (4, .int x4), (5, .int x5), (7, .int x7)]) hx hb dX6_together_69 hl (k := 6) rfl rfl (by decide) rfl (fun ls hl => ?_)
                refine lv_iinc (v := (x7 + 1)) (lv' := [(7, .int (x7 + 1)), (6, .int (x6 + 1)), (0, .ref (ad 0)), (1, .int x1), (2, .int x2), (3, .int x3), (4, .int x4), (5, .int x5)]) hx hb dX6_together_72 hl (k := 7) rfl rfl (by decide) rfl (fun ls hl => ?_)
                refine lv_goto (tgt := 50) hx hb dX6_together_75 (by decide) ?_
                exact ih50 x1 x2 x3 x4 x5 (x6 + 1) (x7 + 1) thrown tape taped value weight many block ties lines pastValue pastWeight pastMany undos fresh newValue newWeight newMany newBlock newTies newLines hasBlock hasTies size att place sort number fault faultPlace lastFault lastPlace toValue toWeight toMany q11.1 q11.2.1 q11.2.2.1 q11.2.2.2.1 q11.2.2.2.2 isCandidate modes fewest z8 _ _ _ (lv_sub hl [2, 3, 4, 5, 6, 7, 1, 0] rfl) hP hD hS h hk50
          obtain ⟨z12, ez12, h⟩ := e_b h
          refine hL50 FU x1 x2 x3 x4 x5 0 x1 0 tape taped value weight many block ties lines pastValue pastWeight pastMany undos fresh newValue newWeight newMany newBlock newTies newLines hasBlock hasTies size att place sort number fault faultPlace lastFault lastPlace toValue toWeight toMany q7.1 q7.2.1 q7.2.2.1 q7.2.2.2.1 q7.2.2.2.2 isCandidate modes fewest z12 _ _ _ (lv_sub hl [2, 3, 4, 5, 6, 7, 1, 0] rfl) hP hD hS ez12 (fun ls H locs hl hP hD hS => ?_)
          refine lv_iload_n hx hb dX6_together_78 rfl (lv_at hl 3 rfl) ?_
          refine lv_istore (lv' := [(7, .int x3), (0, .ref (ad 0)), (1, .int x1), (2, .int x2), (3, .int x3), (4, .int x4), (5, .int x5), (6, .int z12.1)]) hx hb dX6_together_79 hl (by decide) rfl (fun ls hl => ?_)
          have hL81 : ∀ (n : Nat) (x1 : Int32) (x2 : Int32) (x4 : Int32) (x5 : Int32) (x6 : Int32) (x7 : Int32) (thrown : Int32) (tape : Nat → Int32) (taped : Int32) (value : Nat → Int32) (weight : Nat → Int32) (many : Int32) (block : Int32) (ties : Int32) (lines : Int32) (pastValue : Nat → Int32) (pastWeight : Nat → Int32) (pastMany : Nat → Int32) (undos : Int32) (fresh : Int32) (newValue : Nat → Int32) (newWeight : Nat → Int32) (newMany : Int32) (newBlock : Int32) (newTies : Int32) (newLines : Int32) (hasBlock : Int32) (hasTies : Int32) (size : Int32) (att : Int32) (place : Int32) (sort : Int32) (number : Int32) (fault : Int32) (faultPlace : Int32) (lastFault : Int32) (lastPlace : Int32) (toValue : Nat → Int32) (toWeight : Nat → Int32) (toMany : Int32) (often : Nat → Int32) (firstOf : Nat → Int32) (lastOf : Nat → Int32) (unlikes : Nat → Int32) (unlikeMany : Int32) (isCandidate : Nat → Int32) (modes : Nat → Int32) (fewest : Nat → Int32) (z13 : (Nat → Int32) × (Nat → Int32) × (Nat → Int32) × (Nat → Int32) × Int32) (ls : Array Slot) (H : Heap) (locs : List Loc), lv_has ls 8 [(0, .ref (ad 0)), (1, .int x1), (2, .int x2), (4, .int x4), (5, .int x5), (6, .int x6), (7, .int x7)] → va_P D vwCl (wX6 cA ad thrown tape taped value weight many block ties lines pastValue pastWeight pastMany undos fresh newValue newWeight newMany newBlock newTies newLines hasBlock hasTies size att place sort number fault faultPlace lastFault lastPlace toValue toWeight toMany often firstOf lastOf unlikes unlikeMany isCandidate modes fewest) H → va_D A (wX6 cA ad thrown tape taped value weight many block ties lines pastValue pastWeight pastMany undos fresh newValue newWeight newMany newBlock newTies newLines hasBlock hasTies size att place sort number fault faultPlace lastFault lastPlace toValue toWeight toMany often firstOf lastOf unlikes unlikeMany isCandidate modes fewest) → va_S A s.heap H locs → mX6_together_L81 value x1 x2 x4 n x6 x7 often firstOf lastOf unlikes unlikeMany = some z13 → (∀ (ls : Array Slot) (H : Heap) (locs : List Loc), lv_has ls 8 [(0, .ref (ad 0)), (5, .int x5)] → va_P D vwCl (wX6 cA ad thrown tape taped value weight many block ties lines pastValue pastWeight pastMany undos fresh newValue newWeight newMany newBlock newTies newLines hasBlock hasTies size att place sort number fault faultPlace lastFault lastPlace toValue toWeight toMany z13.1 z13.2.1 z13.2.2.1 z13.2.2.2.1 z13.2.2.2.2 isCandidate modes fewest) H → va_D A (wX6 cA ad thrown tape taped value weight many block ties lines pastValue pastWeight pastMany undos fresh newValue newWeight newMany newBlock newTies newLines hasBlock hasTies size att place sort number fault faultPlace lastFault lastPlace toValue toWeight toMany z13.1 z13.2.1 z13.2.2.1 z13.2.2.2.1 z13.2.2.2.2 isCandidate modes fewest) → va_S A s.heap H locs → W p l e (headSpec wsX6_together { frames := 2, cells := 0, slots := 0, locals := 46 }).room s m args below meth c H locs 0 0 Q (F0 m 125 ls [])) → W p l e (headSpec wsX6_together { frames := 2, cells := 0, slots := 0, locals := 46 }).room s m args below meth c H locs 0 0 Q (F0 m 81 ls []) := by
            intro n
            induction n with
            | zero => intro x1 x2 x4 x5 x6 x7 thrown tape taped value weight many block ties lines pastValue pastWeight pastMany undos fresh newValue newWeight newMany newBlock newTies newLines hasBlock hasTies size att place sort number fault faultPlace lastFault lastPlace toValue toWeight toMany often firstOf lastOf unlikes unlikeMany isCandidate modes fewest z13 ls H locs hl hP hD hS h hk81; exact e_n h
            | succ n ih81 =>
              intro x1 x2 x4 x5 x6 x7 thrown tape taped value weight many block ties lines pastValue pastWeight pastMany undos fresh newValue newWeight newMany newBlock newTies newLines hasBlock hasTies size att place sort number fault faultPlace lastFault lastPlace toValue toWeight toMany often firstOf lastOf unlikes unlikeMany isCandidate modes fewest z13 ls H locs hl hP hD hS h hk81
              rw [mX6_together_L81.eq_2] at h
              refine lv_iload hx hb dX6_together_81 (lv_at hl 6 rfl) ?_
              refine lv_iload hx hb dX6_together_83 (lv_at hl 3 rfl) ?_
              refine lv_icmp_gt (tgt := 125) hx hb dX6_together_85 (by decide) (fun c14 => ?_) (fun c14 => ?_)
              · have h := e_t c14 h
                obtain rfl := e_s h
                exact hk81 _ _ _ (lv_sub hl [0, 4] rfl) hP hD hS
              · have h := e_f c14 h
                refine lv_iload hx hb dX6_together_88 (lv_at hl 6 rfl) ?_
                refine lv_iload_n hx hb dX6_together_90 rfl (lv_at hl 1 rfl) ?_
                refine lv_icmp_lt (tgt := 103) hx hb dX6_together_91 (by decide) (fun c15 => ?_) (fun c15 => ?_)
                · have h := e_t c15 h
                  refine lv_aload_n hx hb dX6_together_103 rfl (lv_at hl 0 rfl) ?_
                  refine lv_aload_n hx hb dX6_together_104 rfl (lv_at hl 0 rfl) ?_
                  refine va_get (D := D) (ci := 6) (v := .ref (ad 2)) (C := RX6) (T := TX6) (N := 42) hx hb hts iX6 hown hK hP 0 rfl rfl 3 (Nat.le_of_ble_eq_true rfl) f13 (fun _ h9 => h9) rfl dX6_together_105 ?_
                  refine lv_iload hx hb dX6_together_108 (lv_at hl 6 rfl) ?_
                  obtain ⟨v16, ev16, nv16, h⟩ := e_rd h
                  refine xa_iald hx hb hK hP 2 rfl nv16 ev16 dX6_together_110 ?_
                  refine lv_iload hx hb dX6_together_111 (lv_at hl 5 rfl) ?_
                  obtain ⟨q17, eq17, h⟩ := e_b h
                  refine xv_v0 (As := [.int v16, .int x6]) (rest := []) (ci := 6) (b := ad 0) ⟨hx, hb, hml, hown, hts⟩ hl.1 (kX6_stands l D cA ad thrown tape taped value weight many block ties lines pastValue pastWeight pastMany undos fresh newValue newWeight newMany newBlock newTies newLines hasBlock hasTies size att place sort number fault faultPlace lastFault lastPlace toValue toWeight toMany often firstOf lastOf unlikes unlikeMany isCandidate modes fewest v16 x6  _ eq17) (cwV 2 hts gX6_together_X6_stands rfl rfl rfl (by decide +kernel) ⟨Nat.le_of_ble_eq_true rfl, Nat.le_of_ble_eq_true rfl⟩) rfl hK hP hD hS hA 0 rfl rfl rfl rfl (Nat.le_of_ble_eq_true rfl) dX6_together_113 ⟨Nat.zero_le _, Nat.zero_le _⟩ (fun H locs hP hD hS => ?_)
                  have hP : va_P D vwCl (wX6 cA ad thrown tape taped value weight many block ties lines pastValue pastWeight pastMany undos fresh newValue newWeight newMany newBlock newTies newLines hasBlock hasTies size att place sort number fault faultPlace lastFault lastPlace toValue toWeight toMany q17.1 q17.2.1 q17.2.2.1 q17.2.2.2.1 q17.2.2.2.2 isCandidate modes fewest) H := hP
                  have hD : va_D A (wX6 cA ad thrown tape taped value weight many block ties lines pastValue pastWeight pastMany undos fresh newValue newWeight newMany newBlock newTies newLines hasBlock hasTies size att place sort number fault faultPlace lastFault lastPlace toValue toWeight toMany q17.1 q17.2.1 q17.2.2.1 q17.2.2.2.1 q17.2.2.2.2 isCandidate modes fewest) := hD
                  refine lv_iinc (v := (x6 + 1)) (lv' := [(6, .int (x6 + 1)), (0, .ref (ad 0)), (1, .int x1), (2, .int x2), (4, .int x4), (5, .int x5), (7, .int x7)]) hx hb dX6_together_116 hl (k := 5) rfl rfl (by decide) rfl (fun ls hl => ?_)
                  refine lv_iinc (v := (x7 + 1)) (lv' := [(7, .int (x7 + 1)), (6, .int (x6 + 1)), (0, .ref (ad 0)), (1, .int x1), (2, .int x2), (4, .int x4), (5, .int x5)]) hx hb dX6_together_119 hl (k := 6) rfl rfl (by decide) rfl (fun ls hl => ?_)
                  refine lv_goto (tgt := 81) hx hb dX6_together_122 (by decide) ?_
                  exact ih81 x1 x2 x4 x5 (x6 + 1) (x7 + 1) thrown tape taped value weight many block ties lines pastValue pastWeight pastMany undos fresh newValue newWeight newMany newBlock newTies newLines hasBlock hasTies size att place sort number fault faultPlace lastFault lastPlace toValue toWeight toMany q17.1 q17.2.1 q17.2.2.1 q17.2.2.2.1 q17.2.2.2.2 isCandidate modes fewest z13 _ _ _ (lv_sub hl [2, 3, 4, 5, 6, 1, 0] rfl) hP hD hS h hk81
                · have h := e_f c15 h
                  refine lv_iload hx hb dX6_together_94 (lv_at hl 6 rfl) ?_
                  refine lv_iload_n hx hb dX6_together_96 rfl (lv_at hl 2 rfl) ?_
                  refine lv_icmp_gt (tgt := 103) hx hb dX6_together_97 (by decide) (fun c18 => ?_) (fun c18 => ?_)
                  · have h := e_t c18 h
                    refine lv_aload_n hx hb dX6_together_103 rfl (lv_at hl 0 rfl) ?_
                    refine lv_aload_n hx hb dX6_together_104 rfl (lv_at hl 0 rfl) ?_
                    refine va_get (D := D) (ci := 6) (v := .ref (ad 2)) (C := RX6) (T := TX6) (N := 42) hx hb hts iX6 hown hK hP 0 rfl rfl 3 (Nat.le_of_ble_eq_true rfl) f13 (fun _ h9 => h9) rfl dX6_together_105 ?_
                    refine lv_iload hx hb dX6_together_108 (lv_at hl 6 rfl) ?_
                    obtain ⟨v19, ev19, nv19, h⟩ := e_rd h
                    refine xa_iald hx hb hK hP 2 rfl nv19 ev19 dX6_together_110 ?_
                    refine lv_iload hx hb dX6_together_111 (lv_at hl 5 rfl) ?_
                    obtain ⟨q20, eq20, h⟩ := e_b h
                    refine xv_v0 (As := [.int v19, .int x6]) (rest := []) (ci := 6) (b := ad 0) ⟨hx, hb, hml, hown, hts⟩ hl.1 (kX6_stands l D cA ad thrown tape taped value weight many block ties lines pastValue pastWeight pastMany undos fresh newValue newWeight newMany newBlock newTies newLines hasBlock hasTies size att place sort number fault faultPlace lastFault lastPlace toValue toWeight toMany often firstOf lastOf unlikes unlikeMany isCandidate modes fewest v19 x6  _ eq20) (cwV 2 hts gX6_together_X6_stands rfl rfl rfl (by decide +kernel) ⟨Nat.le_of_ble_eq_true rfl, Nat.le_of_ble_eq_true rfl⟩) rfl hK hP hD hS hA 0 rfl rfl rfl rfl (Nat.le_of_ble_eq_true rfl) dX6_together_113 ⟨Nat.zero_le _, Nat.zero_le _⟩ (fun H locs hP hD hS => ?_)
                    have hP : va_P D vwCl (wX6 cA ad thrown tape taped value weight many block ties lines pastValue pastWeight pastMany undos fresh newValue newWeight newMany newBlock newTies newLines hasBlock hasTies size att place sort number fault faultPlace lastFault lastPlace toValue toWeight toMany q20.1 q20.2.1 q20.2.2.1 q20.2.2.2.1 q20.2.2.2.2 isCandidate modes fewest) H := hP
                    have hD : va_D A (wX6 cA ad thrown tape taped value weight many block ties lines pastValue pastWeight pastMany undos fresh newValue newWeight newMany newBlock newTies newLines hasBlock hasTies size att place sort number fault faultPlace lastFault lastPlace toValue toWeight toMany q20.1 q20.2.1 q20.2.2.1 q20.2.2.2.1 q20.2.2.2.2 isCandidate modes fewest) := hD
                    refine lv_iinc (v := (x6 + 1)) (lv' := [(6, .int (x6 + 1)), (0, .ref (ad 0)), (1, .int x1), (2, .int x2), (4, .int x4), (5, .int x5), (7, .int x7)]) hx hb dX6_together_116 hl (k := 5) rfl rfl (by decide) rfl (fun ls hl => ?_)
                    refine lv_iinc (v := (x7 + 1)) (lv' := [(7, .int (x7 + 1)), (6, .int (x6 + 1)), (0, .ref (ad 0)), (1, .int x1), (2, .int x2), (4, .int x4), (5, .int x5)]) hx hb dX6_together_119 hl (k := 6) rfl rfl (by decide) rfl (fun ls hl => ?_)
                    refine lv_goto (tgt := 81) hx hb dX6_together_122 (by decide) ?_
                    exact ih81 x1 x2 x4 x5 (x6 + 1) (x7 + 1) thrown tape taped value weight many block ties lines pastValue pastWeight pastMany undos fresh newValue newWeight newMany newBlock newTies newLines hasBlock hasTies size att place sort number fault faultPlace lastFault lastPlace toValue toWeight toMany q20.1 q20.2.1 q20.2.2.1 q20.2.2.2.1 q20.2.2.2.2 isCandidate modes fewest z13 _ _ _ (lv_sub hl [2, 3, 4, 5, 6, 1, 0] rfl) hP hD hS h hk81
                  · have h := e_f c18 h
                    refine lv_goto (tgt := 119) hx hb dX6_together_100 (by decide) ?_
                    refine lv_iinc (v := (x7 + 1)) (lv' := [(7, .int (x7 + 1)), (0, .ref (ad 0)), (1, .int x1), (2, .int x2), (4, .int x4), (5, .int x5), (6, .int x6)]) hx hb dX6_together_119 hl (k := 6) rfl rfl (by decide) rfl (fun ls hl => ?_)
                    refine lv_goto (tgt := 81) hx hb dX6_together_122 (by decide) ?_
                    exact ih81 x1 x2 x4 x5 x6 (x7 + 1) thrown tape taped value weight many block ties lines pastValue pastWeight pastMany undos fresh newValue newWeight newMany newBlock newTies newLines hasBlock hasTies size att place sort number fault faultPlace lastFault lastPlace toValue toWeight toMany often firstOf lastOf unlikes unlikeMany isCandidate modes fewest z13 _ _ _ (lv_sub hl [1, 2, 3, 4, 5, 6, 0] rfl) hP hD hS h hk81
          obtain ⟨z21, ez21, h⟩ := e_b h
          refine hL81 FU x1 x2 x4 x5 z12.1 x3 0 tape taped value weight many block ties lines pastValue pastWeight pastMany undos fresh newValue newWeight newMany newBlock newTies newLines hasBlock hasTies size att place sort number fault faultPlace lastFault lastPlace toValue toWeight toMany z12.2.1 z12.2.2.1 z12.2.2.2.1 z12.2.2.2.2.1 z12.2.2.2.2.2 isCandidate modes fewest z21 _ _ _ (lv_sub hl [1, 2, 3, 5, 6, 7, 0] rfl) hP hD hS ez21 (fun ls H locs hl hP hD hS => ?_)
          refine lv_aload_n hx hb dX6_together_125 rfl (lv_at hl 0 rfl) ?_
          refine lv_aload_n hx hb dX6_together_126 rfl (lv_at hl 0 rfl) ?_
          refine lv_aload_n hx hb dX6_together_127 rfl (lv_at hl 0 rfl) ?_
          refine va_get (D := D) (ci := 6) (v := .int ties) (C := RX6) (T := TX6) (N := 42) hx hb hts iX6 hown hK hP 0 rfl rfl 7 (Nat.le_of_ble_eq_true rfl) f178 (fun _ h9 => h9) rfl dX6_together_128 ?_
          obtain ⟨q22, eq22, h⟩ := e_b h
          refine xv_i0 (As := [.int ties]) (rest := [.ref (ad 0)]) (ci := 6) (b := ad 0) ⟨hx, hb, hml, hown, hts⟩ hl.1 (kX6_modeBy l D cA ad 0 tape taped value weight many block ties lines pastValue pastWeight pastMany undos fresh newValue newWeight newMany newBlock newTies newLines hasBlock hasTies size att place sort number fault faultPlace lastFault lastPlace toValue toWeight toMany z21.1 z21.2.1 z21.2.2.1 z21.2.2.2.1 z21.2.2.2.2 isCandidate modes fewest ties  _ eq22) (cwV 1 hts gX6_together_X6_modeBy rfl rfl rfl (by decide +kernel) ⟨Nat.le_of_ble_eq_true rfl, Nat.le_of_ble_eq_true rfl⟩) rfl hK hP hD hS hA 0 rfl rfl rfl rfl (Nat.le_of_ble_eq_true rfl) dX6_together_131 ⟨Nat.zero_le _, Nat.zero_le _⟩ (fun H locs hP hD hS hnq22 => ?_)
          have hP : va_P D vwCl (wX6 cA ad 0 tape taped value weight many block ties lines pastValue pastWeight pastMany undos fresh newValue newWeight newMany newBlock newTies newLines hasBlock hasTies size att place sort number fault faultPlace lastFault lastPlace toValue toWeight toMany z21.1 z21.2.1 z21.2.2.1 z21.2.2.2.1 z21.2.2.2.2 isCandidate modes fewest) H := hP
          have hD : va_D A (wX6 cA ad 0 tape taped value weight many block ties lines pastValue pastWeight pastMany undos fresh newValue newWeight newMany newBlock newTies newLines hasBlock hasTies size att place sort number fault faultPlace lastFault lastPlace toValue toWeight toMany z21.1 z21.2.1 z21.2.2.1 z21.2.2.2.1 z21.2.2.2.2 isCandidate modes fewest) := hD
          refine lv_iload hx hb dX6_together_134 (lv_at hl 1 rfl) ?_
          obtain ⟨q23, eq23, h⟩ := e_b h
          refine xv_i0 (As := [.int q22, .int x5]) (rest := []) (ci := 6) (b := ad 0) ⟨hx, hb, hml, hown, hts⟩ hl.1 (kX6_told l D cA ad 0 tape taped value weight many block ties lines pastValue pastWeight pastMany undos fresh newValue newWeight newMany newBlock newTies newLines hasBlock hasTies size att place sort number fault faultPlace lastFault lastPlace toValue toWeight toMany z21.1 z21.2.1 z21.2.2.1 z21.2.2.2.1 z21.2.2.2.2 isCandidate modes fewest q22 x5  _ eq23) (cwV 2 hts gX6_together_X6_told rfl rfl rfl (by decide +kernel) ⟨Nat.le_of_ble_eq_true rfl, Nat.le_of_ble_eq_true rfl⟩) rfl hK hP hD hS hA 0 rfl rfl rfl rfl (Nat.le_of_ble_eq_true rfl) dX6_together_136 ⟨Nat.zero_le _, Nat.zero_le _⟩ (fun H locs hP hD hS hnq23 => ?_)
          have hP : va_P D vwCl (wX6 cA ad 0 tape taped value weight many block ties lines pastValue pastWeight pastMany undos fresh newValue newWeight newMany newBlock newTies newLines hasBlock hasTies size att place sort number fault faultPlace lastFault lastPlace toValue toWeight toMany z21.1 z21.2.1 z21.2.2.1 z21.2.2.2.1 z21.2.2.2.2 isCandidate modes fewest) H := hP
          have hD : va_D A (wX6 cA ad 0 tape taped value weight many block ties lines pastValue pastWeight pastMany undos fresh newValue newWeight newMany newBlock newTies newLines hasBlock hasTies size att place sort number fault faultPlace lastFault lastPlace toValue toWeight toMany z21.1 z21.2.1 z21.2.2.1 z21.2.2.2.1 z21.2.2.2.2 isCandidate modes fewest) := hD
          obtain rfl := e_s h
          exact hret hP hS rfl dX6_together_139
        · have h := e_f c6 h
          refine lv_iconst (v := (-1)) hx hb dX6_together_35 (by decide) ?_
          obtain rfl := e_s h
          exact hret hP hS rfl dX6_together_36
set_option maxHeartbeats 4000000 in
set_option maxRecDepth 100000 in
theorem kX6_agree (l : Launch) (D : va_G) (cA : Nat → ClassId) (ad : Nat → Nat) (thrown : Int32) (tape : Nat → Int32) (taped : Int32) (value : Nat → Int32) (weight : Nat → Int32) (many : Int32) (block : Int32) (ties : Int32) (lines : Int32) (pastValue : Nat → Int32) (pastWeight : Nat → Int32) (pastMany : Nat → Int32) (undos : Int32) (fresh : Int32) (newValue : Nat → Int32) (newWeight : Nat → Int32) (newMany : Int32) (newBlock : Int32) (newTies : Int32) (newLines : Int32) (hasBlock : Int32) (hasTies : Int32) (size : Int32) (att : Int32) (place : Int32) (sort : Int32) (number : Int32) (fault : Int32) (faultPlace : Int32) (lastFault : Int32) (lastPlace : Int32) (toValue : Nat → Int32) (toWeight : Nat → Int32) (toMany : Int32) (often : Nat → Int32) (firstOf : Nat → Int32) (lastOf : Nat → Int32) (unlikes : Nat → Int32) (unlikeMany : Int32) (isCandidate : Nat → Int32) (modes : Nat → Int32) (fewest : Nat → Int32) (x1 : Int32) (x2 : Int32) (x3 : Int32) (q : Int32 × Int32 × (Nat → Int32) × (Nat → Int32) × (Nat → Int32) × (Nat → Int32) × Int32) (h : mX6_agree thrown value many ties often firstOf lastOf unlikes unlikeMany x1 x2 x3 = some q) : MI l yX6_agree wsX6_agree { frames := 3, cells := 0, slots := 0, locals := 68 } D cA .int [.ref (ad 0), .int x1, .int x2, .int x3] (wX6 cA ad thrown tape taped value weight many block ties lines pastValue pastWeight pastMany undos fresh newValue newWeight newMany newBlock newTies newLines hasBlock hasTies size att place sort number fault faultPlace lastFault lastPlace toValue toWeight toMany often firstOf lastOf unlikes unlikeMany isCandidate modes fewest) (wX6 cA ad q.2.1 tape taped value weight many block ties lines pastValue pastWeight pastMany undos fresh newValue newWeight newMany newBlock newTies newLines hasBlock hasTies size att place sort number fault faultPlace lastFault lastPlace toValue toWeight toMany q.2.2.1 q.2.2.2.1 q.2.2.2.2.1 q.2.2.2.2.2.1 q.2.2.2.2.2.2 isCandidate modes fewest) q.1 := by
  refine MI.of (cc := cX6_agree) (maxL := 5) (by decide +kernel) rfl rfl rfl (Nat.le_of_ble_eq_true rfl) ?_
  intro p e s m args below meth c A ls Q hx hb hml hts hown hK hP hD hA hS hl hret
  have hl : lv_has ls 5 [(0, .ref (ad 0)), (1, .int x1), (2, .int x2), (3, .int x3)] := hl
  have f72 := hts (.fieldLink RX6 72 "ModeDeskModel" "thrown" "I") (by decide +kernel)
  have iX6 : ∀ w ∈ wsX60, w ∈ wsX6_agree := by decide +kernel
  unfold mX6_agree at h
  refine lv_aload_n hx hb dX6_agree_0 rfl (lv_at hl 0 rfl) ?_
  refine lv_iconst (v := 0) hx hb dX6_agree_1 (by decide) ?_
  refine va_put (D := D) (ci := 6) (v := .int 0) (ty := .int) (C := RX6) (T := TX6) (N := 42) hx hb hts iX6 tyX6 tyX6_ok nmX6 hown hK hP hD hS 0 rfl rfl 0 (Nat.le_of_ble_eq_true rfl) f72 (fun _ h9 => h9) rfl (tyX6_ok 0 (Nat.le_of_ble_eq_true rfl)) rfl rfl (Nat.le_of_ble_eq_true rfl) dX6_agree_2 (fun H locs hP hD hS => ?_)
  have hP : va_P D vwCl (wX6 cA ad 0 tape taped value weight many block ties lines pastValue pastWeight pastMany undos fresh newValue newWeight newMany newBlock newTies newLines hasBlock hasTies size att place sort number fault faultPlace lastFault lastPlace toValue toWeight toMany often firstOf lastOf unlikes unlikeMany isCandidate modes fewest) H := hP
  have hD : va_D A (wX6 cA ad 0 tape taped value weight many block ties lines pastValue pastWeight pastMany undos fresh newValue newWeight newMany newBlock newTies newLines hasBlock hasTies size att place sort number fault faultPlace lastFault lastPlace toValue toWeight toMany often firstOf lastOf unlikes unlikeMany isCandidate modes fewest) := hD
  refine lv_aload_n hx hb dX6_agree_5 rfl (lv_at hl 0 rfl) ?_
  refine lv_iload_n hx hb dX6_agree_6 rfl (lv_at hl 1 rfl) ?_
  refine lv_iload_n hx hb dX6_agree_7 rfl (lv_at hl 2 rfl) ?_
  obtain ⟨q1, eq1, h⟩ := e_b h
  refine xv_i0 (As := [.int x1, .int x2]) (rest := []) (ci := 6) (b := ad 0) ⟨hx, hb, hml, hown, hts⟩ hl.1 (kX6_isSpan l D cA ad 0 tape taped value weight many block ties lines pastValue pastWeight pastMany undos fresh newValue newWeight newMany newBlock newTies newLines hasBlock hasTies size att place sort number fault faultPlace lastFault lastPlace toValue toWeight toMany often firstOf lastOf unlikes unlikeMany isCandidate modes fewest x1 x2  _ eq1) (cwV 2 hts gX6_agree_X6_isSpan rfl rfl rfl (by decide +kernel) ⟨Nat.le_of_ble_eq_true rfl, Nat.le_of_ble_eq_true rfl⟩) rfl hK hP hD hS hA 0 rfl rfl rfl rfl (Nat.le_of_ble_eq_true rfl) dX6_agree_8 ⟨Nat.zero_le _, Nat.zero_le _⟩ (fun H locs hP hD hS hnq1 => ?_)
  have hP : va_P D vwCl (wX6 cA ad 0 tape taped value weight many block ties lines pastValue pastWeight pastMany undos fresh newValue newWeight newMany newBlock newTies newLines hasBlock hasTies size att place sort number fault faultPlace lastFault lastPlace toValue toWeight toMany often firstOf lastOf unlikes unlikeMany isCandidate modes fewest) H := hP
  have hD : va_D A (wX6 cA ad 0 tape taped value weight many block ties lines pastValue pastWeight pastMany undos fresh newValue newWeight newMany newBlock newTies newLines hasBlock hasTies size att place sort number fault faultPlace lastFault lastPlace toValue toWeight toMany often firstOf lastOf unlikes unlikeMany isCandidate modes fewest) := hD
  refine lv_if_eq (tgt := 25) hx hb dX6_agree_11 (by decide) (fun c2 => ?_) (fun c2 => ?_)
  · have h := e_t c2 h
    refine lv_iconst (v := (-1)) hx hb dX6_agree_25 (by decide) ?_
    obtain rfl := e_s h
    exact hret hP hS rfl dX6_agree_26
  · have h := e_f c2 h
    refine lv_aload_n hx hb dX6_agree_14 rfl (lv_at hl 0 rfl) ?_
    refine lv_iload_n hx hb dX6_agree_15 rfl (lv_at hl 2 rfl) ?_
    refine lv_iconst (v := 1) hx hb dX6_agree_16 (by decide) ?_
    refine lv_iadd hx hb dX6_agree_17 ?_
    refine lv_iload_n hx hb dX6_agree_18 rfl (lv_at hl 3 rfl) ?_
    obtain ⟨q3, eq3, h⟩ := e_b h
    refine xv_i0 (As := [.int (x2 + 1), .int x3]) (rest := []) (ci := 6) (b := ad 0) ⟨hx, hb, hml, hown, hts⟩ hl.1 (kX6_isSpan l D cA ad 0 tape taped value weight many block ties lines pastValue pastWeight pastMany undos fresh newValue newWeight newMany newBlock newTies newLines hasBlock hasTies size att place sort number fault faultPlace lastFault lastPlace toValue toWeight toMany often firstOf lastOf unlikes unlikeMany isCandidate modes fewest (x2 + 1) x3  _ eq3) (cwV 2 hts gX6_agree_X6_isSpan rfl rfl rfl (by decide +kernel) ⟨Nat.le_of_ble_eq_true rfl, Nat.le_of_ble_eq_true rfl⟩) rfl hK hP hD hS hA 0 rfl rfl rfl rfl (Nat.le_of_ble_eq_true rfl) dX6_agree_19 ⟨Nat.zero_le _, Nat.zero_le _⟩ (fun H locs hP hD hS hnq3 => ?_)
    have hP : va_P D vwCl (wX6 cA ad 0 tape taped value weight many block ties lines pastValue pastWeight pastMany undos fresh newValue newWeight newMany newBlock newTies newLines hasBlock hasTies size att place sort number fault faultPlace lastFault lastPlace toValue toWeight toMany often firstOf lastOf unlikes unlikeMany isCandidate modes fewest) H := hP
    have hD : va_D A (wX6 cA ad 0 tape taped value weight many block ties lines pastValue pastWeight pastMany undos fresh newValue newWeight newMany newBlock newTies newLines hasBlock hasTies size att place sort number fault faultPlace lastFault lastPlace toValue toWeight toMany often firstOf lastOf unlikes unlikeMany isCandidate modes fewest) := hD
    refine lv_if_ne (tgt := 27) hx hb dX6_agree_22 (by decide) (fun c4 => ?_) (fun c4 => ?_)
    · have h := e_t c4 h
      refine lv_aload_n hx hb dX6_agree_27 rfl (lv_at hl 0 rfl) ?_
      refine lv_iload_n hx hb dX6_agree_28 rfl (lv_at hl 1 rfl) ?_
      refine lv_iload_n hx hb dX6_agree_29 rfl (lv_at hl 2 rfl) ?_
      obtain ⟨q5, eq5, h⟩ := e_b h
      refine xv_i0 (As := [.int x1, .int x2]) (rest := []) (ci := 6) (b := ad 0) ⟨hx, hb, hml, hown, hts⟩ hl.1 (kX6_modeOf l D cA ad 0 tape taped value weight many block ties lines pastValue pastWeight pastMany undos fresh newValue newWeight newMany newBlock newTies newLines hasBlock hasTies size att place sort number fault faultPlace lastFault lastPlace toValue toWeight toMany often firstOf lastOf unlikes unlikeMany isCandidate modes fewest x1 x2  _ eq5) (cwV 2 hts gX6_agree_X6_modeOf rfl rfl rfl (by decide +kernel) ⟨Nat.le_of_ble_eq_true rfl, Nat.le_of_ble_eq_true rfl⟩) rfl hK hP hD hS hA 0 rfl rfl rfl rfl (Nat.le_of_ble_eq_true rfl) dX6_agree_30 ⟨Nat.zero_le _, Nat.zero_le _⟩ (fun H locs hP hD hS hnq5 => ?_)
      have hP : va_P D vwCl (wX6 cA ad 0 tape taped value weight many block ties lines pastValue pastWeight pastMany undos fresh newValue newWeight newMany newBlock newTies newLines hasBlock hasTies size att place sort number fault faultPlace lastFault lastPlace toValue toWeight toMany q5.2.1 q5.2.2.1 q5.2.2.2.1 q5.2.2.2.2.1 q5.2.2.2.2.2 isCandidate modes fewest) H := hP
      have hD : va_D A (wX6 cA ad 0 tape taped value weight many block ties lines pastValue pastWeight pastMany undos fresh newValue newWeight newMany newBlock newTies newLines hasBlock hasTies size att place sort number fault faultPlace lastFault lastPlace toValue toWeight toMany q5.2.1 q5.2.2.1 q5.2.2.2.1 q5.2.2.2.2.1 q5.2.2.2.2.2 isCandidate modes fewest) := hD
      refine lv_istore (lv' := [(4, .int q5.1), (0, .ref (ad 0)), (1, .int x1), (2, .int x2), (3, .int x3)]) hx hb dX6_agree_33 hl (by decide) rfl (fun ls hl => ?_)
      refine lv_aload_n hx hb dX6_agree_35 rfl (lv_at hl 1 rfl) ?_
      refine lv_iload_n hx hb dX6_agree_36 rfl (lv_at hl 3 rfl) ?_
      refine lv_iconst (v := 1) hx hb dX6_agree_37 (by decide) ?_
      refine lv_iadd hx hb dX6_agree_38 ?_
      refine lv_iload_n hx hb dX6_agree_39 rfl (lv_at hl 4 rfl) ?_
      obtain ⟨q6, eq6, h⟩ := e_b h
      refine xv_i0 (As := [.int (x2 + 1), .int x3]) (rest := []) (ci := 6) (b := ad 0) ⟨hx, hb, hml, hown, hts⟩ hl.1 (kX6_modeOf l D cA ad 0 tape taped value weight many block ties lines pastValue pastWeight pastMany undos fresh newValue newWeight newMany newBlock newTies newLines hasBlock hasTies size att place sort number fault faultPlace lastFault lastPlace toValue toWeight toMany q5.2.1 q5.2.2.1 q5.2.2.2.1 q5.2.2.2.2.1 q5.2.2.2.2.2 isCandidate modes fewest (x2 + 1) x3  _ eq6) (cwV 2 hts gX6_agree_X6_modeOf rfl rfl rfl (by decide +kernel) ⟨Nat.le_of_ble_eq_true rfl, Nat.le_of_ble_eq_true rfl⟩) rfl hK hP hD hS hA 0 rfl rfl rfl rfl (Nat.le_of_ble_eq_true rfl) dX6_agree_40 ⟨Nat.zero_le _, Nat.zero_le _⟩ (fun H locs hP hD hS hnq6 => ?_)
      have hP : va_P D vwCl (wX6 cA ad 0 tape taped value weight many block ties lines pastValue pastWeight pastMany undos fresh newValue newWeight newMany newBlock newTies newLines hasBlock hasTies size att place sort number fault faultPlace lastFault lastPlace toValue toWeight toMany q6.2.1 q6.2.2.1 q6.2.2.2.1 q6.2.2.2.2.1 q6.2.2.2.2.2 isCandidate modes fewest) H := hP
      have hD : va_D A (wX6 cA ad 0 tape taped value weight many block ties lines pastValue pastWeight pastMany undos fresh newValue newWeight newMany newBlock newTies newLines hasBlock hasTies size att place sort number fault faultPlace lastFault lastPlace toValue toWeight toMany q6.2.1 q6.2.2.1 q6.2.2.2.1 q6.2.2.2.2.1 q6.2.2.2.2.2 isCandidate modes fewest) := hD
      refine lv_iload hx hb dX6_agree_43 (lv_at hl 0 rfl) ?_
      refine lv_icmp_ne (tgt := 52) hx hb dX6_agree_45 (by decide) (fun c7 => ?_) (fun c7 => ?_)
      · have h := e_t c7 h
        refine lv_iconst (v := 0) hx hb dX6_agree_52 (by decide) ?_
        obtain rfl := e_s h
        exact hret hP hS rfl dX6_agree_53
      · have h := e_f (not_not_intro c7) h
        refine lv_iconst (v := 1) hx hb dX6_agree_48 (by decide) ?_
        refine lv_goto (tgt := 53) hx hb dX6_agree_49 (by decide) ?_
        obtain rfl := e_s h
        exact hret hP hS rfl dX6_agree_53
    · have h := e_f (not_not_intro c4) h
      refine lv_iconst (v := (-1)) hx hb dX6_agree_25 (by decide) ?_
      obtain rfl := e_s h
      exact hret hP hS rfl dX6_agree_26
set_option maxHeartbeats 4000000 in
set_option maxRecDepth 100000 in
theorem kX6_peeled (l : Launch) (D : va_G) (cA : Nat → ClassId) (ad : Nat → Nat) (thrown : Int32) (tape : Nat → Int32) (taped : Int32) (value : Nat → Int32) (weight : Nat → Int32) (many : Int32) (block : Int32) (ties : Int32) (lines : Int32) (pastValue : Nat → Int32) (pastWeight : Nat → Int32) (pastMany : Nat → Int32) (undos : Int32) (fresh : Int32) (newValue : Nat → Int32) (newWeight : Nat → Int32) (newMany : Int32) (newBlock : Int32) (newTies : Int32) (newLines : Int32) (hasBlock : Int32) (hasTies : Int32) (size : Int32) (att : Int32) (place : Int32) (sort : Int32) (number : Int32) (fault : Int32) (faultPlace : Int32) (lastFault : Int32) (lastPlace : Int32) (toValue : Nat → Int32) (toWeight : Nat → Int32) (toMany : Int32) (often : Nat → Int32) (firstOf : Nat → Int32) (lastOf : Nat → Int32) (unlikes : Nat → Int32) (unlikeMany : Int32) (isCandidate : Nat → Int32) (modes : Nat → Int32) (fewest : Nat → Int32) (x1 : Int32) (x2 : Int32) (x3 : Int32) (q : Int32 × Int32 × (Nat → Int32) × (Nat → Int32) × (Nat → Int32) × (Nat → Int32) × Int32) (h : mX6_peeled thrown value many ties often firstOf lastOf unlikes unlikeMany x1 x2 x3 = some q) : MI l yX6_peeled wsX6_peeled { frames := 3, cells := 0, slots := 0, locals := 70 } D cA .int [.ref (ad 0), .int x1, .int x2, .int x3] (wX6 cA ad thrown tape taped value weight many block ties lines pastValue pastWeight pastMany undos fresh newValue newWeight newMany newBlock newTies newLines hasBlock hasTies size att place sort number fault faultPlace lastFault lastPlace toValue toWeight toMany often firstOf lastOf unlikes unlikeMany isCandidate modes fewest) (wX6 cA ad q.2.1 tape taped value weight many block ties lines pastValue pastWeight pastMany undos fresh newValue newWeight newMany newBlock newTies newLines hasBlock hasTies size att place sort number fault faultPlace lastFault lastPlace toValue toWeight toMany q.2.2.1 q.2.2.2.1 q.2.2.2.2.1 q.2.2.2.2.2.1 q.2.2.2.2.2.2 isCandidate modes fewest) q.1 := by
  refine MI.of (cc := cX6_peeled) (maxL := 6) (by decide +kernel) rfl rfl rfl (Nat.le_of_ble_eq_true rfl) ?_
  intro p e s m args below meth c A ls Q hx hb hml hts hown hK hP hD hA hS hl hret
  have hl : lv_has ls 6 [(0, .ref (ad 0)), (1, .int x1), (2, .int x2), (3, .int x3)] := hl
  have f178 := hts (.fieldLink RX6 178 "ModeDeskModel" "ties" "I") (by decide +kernel)
  have f242 := hts (.fieldLink RX6 242 "ModeDeskModel" "unlikeMany" "I") (by decide +kernel)
  have f47 := hts (.fieldLink RX6 47 "ModeDeskModel" "often" "[I") (by decide +kernel)
  have f72 := hts (.fieldLink RX6 72 "ModeDeskModel" "thrown" "I") (by decide +kernel)
  have iX6 : ∀ w ∈ wsX60, w ∈ wsX6_peeled := by decide +kernel
  unfold mX6_peeled at h
  refine lv_aload_n hx hb dX6_peeled_0 rfl (lv_at hl 0 rfl) ?_
  refine lv_iconst (v := 0) hx hb dX6_peeled_1 (by decide) ?_
  refine va_put (D := D) (ci := 6) (v := .int 0) (ty := .int) (C := RX6) (T := TX6) (N := 42) hx hb hts iX6 tyX6 tyX6_ok nmX6 hown hK hP hD hS 0 rfl rfl 0 (Nat.le_of_ble_eq_true rfl) f72 (fun _ h9 => h9) rfl (tyX6_ok 0 (Nat.le_of_ble_eq_true rfl)) rfl rfl (Nat.le_of_ble_eq_true rfl) dX6_peeled_2 (fun H locs hP hD hS => ?_)
  have hP : va_P D vwCl (wX6 cA ad 0 tape taped value weight many block ties lines pastValue pastWeight pastMany undos fresh newValue newWeight newMany newBlock newTies newLines hasBlock hasTies size att place sort number fault faultPlace lastFault lastPlace toValue toWeight toMany often firstOf lastOf unlikes unlikeMany isCandidate modes fewest) H := hP
  have hD : va_D A (wX6 cA ad 0 tape taped value weight many block ties lines pastValue pastWeight pastMany undos fresh newValue newWeight newMany newBlock newTies newLines hasBlock hasTies size att place sort number fault faultPlace lastFault lastPlace toValue toWeight toMany often firstOf lastOf unlikes unlikeMany isCandidate modes fewest) := hD
  refine lv_aload_n hx hb dX6_peeled_5 rfl (lv_at hl 0 rfl) ?_
  refine lv_iload_n hx hb dX6_peeled_6 rfl (lv_at hl 1 rfl) ?_
  refine lv_iload_n hx hb dX6_peeled_7 rfl (lv_at hl 2 rfl) ?_
  obtain ⟨q1, eq1, h⟩ := e_b h
  refine xv_i0 (As := [.int x1, .int x2]) (rest := []) (ci := 6) (b := ad 0) ⟨hx, hb, hml, hown, hts⟩ hl.1 (kX6_isSpan l D cA ad 0 tape taped value weight many block ties lines pastValue pastWeight pastMany undos fresh newValue newWeight newMany newBlock newTies newLines hasBlock hasTies size att place sort number fault faultPlace lastFault lastPlace toValue toWeight toMany often firstOf lastOf unlikes unlikeMany isCandidate modes fewest x1 x2  _ eq1) (cwV 2 hts gX6_peeled_X6_isSpan rfl rfl rfl (by decide +kernel) ⟨Nat.le_of_ble_eq_true rfl, Nat.le_of_ble_eq_true rfl⟩) rfl hK hP hD hS hA 0 rfl rfl rfl rfl (Nat.le_of_ble_eq_true rfl) dX6_peeled_8 ⟨Nat.zero_le _, Nat.zero_le _⟩ (fun H locs hP hD hS hnq1 => ?_)
  have hP : va_P D vwCl (wX6 cA ad 0 tape taped value weight many block ties lines pastValue pastWeight pastMany undos fresh newValue newWeight newMany newBlock newTies newLines hasBlock hasTies size att place sort number fault faultPlace lastFault lastPlace toValue toWeight toMany often firstOf lastOf unlikes unlikeMany isCandidate modes fewest) H := hP
  have hD : va_D A (wX6 cA ad 0 tape taped value weight many block ties lines pastValue pastWeight pastMany undos fresh newValue newWeight newMany newBlock newTies newLines hasBlock hasTies size att place sort number fault faultPlace lastFault lastPlace toValue toWeight toMany often firstOf lastOf unlikes unlikeMany isCandidate modes fewest) := hD
  refine lv_if_eq (tgt := 18) hx hb dX6_peeled_11 (by decide) (fun c2 => ?_) (fun c2 => ?_)
  · have h := e_t c2 h
    refine lv_iconst (v := (-1)) hx hb dX6_peeled_18 (by decide) ?_
    obtain rfl := e_s h
    exact hret hP hS rfl dX6_peeled_19
  · have h := e_f c2 h
    refine lv_iload_n hx hb dX6_peeled_14 rfl (lv_at hl 3 rfl) ?_
    refine lv_if_ge (tgt := 20) hx hb dX6_peeled_15 (by decide) (fun c3 => ?_) (fun c3 => ?_)
    · have h := e_t c3 h
      refine lv_aload_n hx hb dX6_peeled_20 rfl (lv_at hl 0 rfl) ?_
      refine lv_iload_n hx hb dX6_peeled_21 rfl (lv_at hl 1 rfl) ?_
      refine lv_iload_n hx hb dX6_peeled_22 rfl (lv_at hl 2 rfl) ?_
      refine lv_iconst (v := (-1)) hx hb dX6_peeled_23 (by decide) ?_
      obtain ⟨q4, eq4, h⟩ := e_b h
      refine xv_v0 (As := [.int x1, .int x2, .int (-1)]) (rest := []) (ci := 6) (b := ad 0) ⟨hx, hb, hml, hown, hts⟩ hl.1 (kX6_counts l D cA ad 0 tape taped value weight many block ties lines pastValue pastWeight pastMany undos fresh newValue newWeight newMany newBlock newTies newLines hasBlock hasTies size att place sort number fault faultPlace lastFault lastPlace toValue toWeight toMany often firstOf lastOf unlikes unlikeMany isCandidate modes fewest x1 x2 (-1)  _ eq4) (cwV 3 hts gX6_peeled_X6_counts rfl rfl rfl (by decide +kernel) ⟨Nat.le_of_ble_eq_true rfl, Nat.le_of_ble_eq_true rfl⟩) rfl hK hP hD hS hA 0 rfl rfl rfl rfl (Nat.le_of_ble_eq_true rfl) dX6_peeled_24 ⟨Nat.zero_le _, Nat.zero_le _⟩ (fun H locs hP hD hS => ?_)
      have hP : va_P D vwCl (wX6 cA ad 0 tape taped value weight many block ties lines pastValue pastWeight pastMany undos fresh newValue newWeight newMany newBlock newTies newLines hasBlock hasTies size att place sort number fault faultPlace lastFault lastPlace toValue toWeight toMany q4.1 q4.2.1 q4.2.2.1 q4.2.2.2.1 q4.2.2.2.2 isCandidate modes fewest) H := hP
      have hD : va_D A (wX6 cA ad 0 tape taped value weight many block ties lines pastValue pastWeight pastMany undos fresh newValue newWeight newMany newBlock newTies newLines hasBlock hasTies size att place sort number fault faultPlace lastFault lastPlace toValue toWeight toMany q4.1 q4.2.1 q4.2.2.1 q4.2.2.2.1 q4.2.2.2.2 isCandidate modes fewest) := hD
      refine lv_iload_n hx hb dX6_peeled_27 rfl (lv_at hl 3 rfl) ?_
      refine lv_aload_n hx hb dX6_peeled_28 rfl (lv_at hl 0 rfl) ?_
      refine va_get (D := D) (ci := 6) (v := .int q4.2.2.2.2) (C := RX6) (T := TX6) (N := 42) hx hb hts iX6 hown hK hP 0 rfl rfl 38 (Nat.le_of_ble_eq_true rfl) f242 (fun _ h9 => h9) rfl dX6_peeled_29 ?_
      refine lv_icmp_le (tgt := 38) hx hb dX6_peeled_32 (by decide) (fun c5 => ?_) (fun c5 => ?_)
      · have h := e_t c5 h
        refine lv_iload_n hx hb dX6_peeled_38 rfl (lv_at hl 2 rfl) ?_
        refine lv_iload_n hx hb dX6_peeled_39 rfl (lv_at hl 1 rfl) ?_
        refine lv_isub hx hb dX6_peeled_40 ?_
        refine lv_iconst (v := 1) hx hb dX6_peeled_41 (by decide) ?_
        refine lv_iadd hx hb dX6_peeled_42 ?_
        refine lv_istore (lv' := [(4, .int ((x2 - x1) + 1)), (0, .ref (ad 0)), (1, .int x1), (2, .int x2), (3, .int x3)]) hx hb dX6_peeled_43 hl (by decide) rfl (fun ls hl => ?_)
        refine lv_iconst (v := 0) hx hb dX6_peeled_45 (by decide) ?_
        refine lv_istore (lv' := [(5, .int 0), (4, .int ((x2 - x1) + 1)), (0, .ref (ad 0)), (1, .int x1), (2, .int x2), (3, .int x3)]) hx hb dX6_peeled_46 hl (by decide) rfl (fun ls hl => ?_)
        have hL48 : ∀ (n : Nat) (x3 : Int32) (x4 : Int32) (x5 : Int32) (thrown : Int32) (tape : Nat → Int32) (taped : Int32) (value : Nat → Int32) (weight : Nat → Int32) (many : Int32) (block : Int32) (ties : Int32) (lines : Int32) (pastValue : Nat → Int32) (pastWeight : Nat → Int32) (pastMany : Nat → Int32) (undos : Int32) (fresh : Int32) (newValue : Nat → Int32) (newWeight : Nat → Int32) (newMany : Int32) (newBlock : Int32) (newTies : Int32) (newLines : Int32) (hasBlock : Int32) (hasTies : Int32) (size : Int32) (att : Int32) (place : Int32) (sort : Int32) (number : Int32) (fault : Int32) (faultPlace : Int32) (lastFault : Int32) (lastPlace : Int32) (toValue : Nat → Int32) (toWeight : Nat → Int32) (toMany : Int32) (often : Nat → Int32) (firstOf : Nat → Int32) (lastOf : Nat → Int32) (unlikes : Nat → Int32) (unlikeMany : Int32) (isCandidate : Nat → Int32) (modes : Nat → Int32) (fewest : Nat → Int32) (z6 : Int32) (ls : Array Slot) (H : Heap) (locs : List Loc), lv_has ls 6 [(0, .ref (ad 0)), (3, .int x3), (4, .int x4), (5, .int x5)] → va_P D vwCl (wX6 cA ad thrown tape taped value weight many block ties lines pastValue pastWeight pastMany undos fresh newValue newWeight newMany newBlock newTies newLines hasBlock hasTies size att place sort number fault faultPlace lastFault lastPlace toValue toWeight toMany often firstOf lastOf unlikes unlikeMany isCandidate modes fewest) H → va_D A (wX6 cA ad thrown tape taped value weight many block ties lines pastValue pastWeight pastMany undos fresh newValue newWeight newMany newBlock newTies newLines hasBlock hasTies size att place sort number fault faultPlace lastFault lastPlace toValue toWeight toMany often firstOf lastOf unlikes unlikeMany isCandidate modes fewest) → va_S A s.heap H locs → mX6_peeled_L48 ties often firstOf lastOf unlikes unlikeMany x3 n x4 x5 = some z6 → (∀ (ls : Array Slot) (H : Heap) (locs : List Loc), lv_has ls 6 [(4, .int z6)] → va_P D vwCl (wX6 cA ad thrown tape taped value weight many block ties lines pastValue pastWeight pastMany undos fresh newValue newWeight newMany newBlock newTies newLines hasBlock hasTies size att place sort number fault faultPlace lastFault lastPlace toValue toWeight toMany often firstOf lastOf unlikes unlikeMany isCandidate modes fewest) H → va_D A (wX6 cA ad thrown tape taped value weight many block ties lines pastValue pastWeight pastMany undos fresh newValue newWeight newMany newBlock newTies newLines hasBlock hasTies size att place sort number fault faultPlace lastFault lastPlace toValue toWeight toMany often firstOf lastOf unlikes unlikeMany isCandidate modes fewest) → va_S A s.heap H locs → W p l e (headSpec wsX6_peeled { frames := 3, cells := 0, slots := 0, locals := 70 }).room s m args below meth c H locs 0 0 Q (F0 m 80 ls [])) → W p l e (headSpec wsX6_peeled { frames := 3, cells := 0, slots := 0, locals := 70 }).room s m args below meth c H locs 0 0 Q (F0 m 48 ls []) := by
          intro n
          induction n with
          | zero => intro x3 x4 x5 thrown tape taped value weight many block ties lines pastValue pastWeight pastMany undos fresh newValue newWeight newMany newBlock newTies newLines hasBlock hasTies size att place sort number fault faultPlace lastFault lastPlace toValue toWeight toMany often firstOf lastOf unlikes unlikeMany isCandidate modes fewest z6 ls H locs hl hP hD hS h hk48; exact e_n h
          | succ n ih48 =>
            intro x3 x4 x5 thrown tape taped value weight many block ties lines pastValue pastWeight pastMany undos fresh newValue newWeight newMany newBlock newTies newLines hasBlock hasTies size att place sort number fault faultPlace lastFault lastPlace toValue toWeight toMany often firstOf lastOf unlikes unlikeMany isCandidate modes fewest z6 ls H locs hl hP hD hS h hk48
            rw [mX6_peeled_L48.eq_2] at h
            refine lv_iload hx hb dX6_peeled_48 (lv_at hl 3 rfl) ?_
            refine lv_iload_n hx hb dX6_peeled_50 rfl (lv_at hl 1 rfl) ?_
            refine lv_icmp_ge (tgt := 80) hx hb dX6_peeled_51 (by decide) (fun c7 => ?_) (fun c7 => ?_)
            · have h := e_t c7 h
              obtain rfl := e_s h
              exact hk48 _ _ _ (lv_sub hl [2] rfl) hP hD hS
            · have h := e_f c7 h
              refine lv_iload hx hb dX6_peeled_54 (lv_at hl 2 rfl) ?_
              refine lv_aload_n hx hb dX6_peeled_56 rfl (lv_at hl 0 rfl) ?_
              refine va_get (D := D) (ci := 6) (v := .ref (ad 11)) (C := RX6) (T := TX6) (N := 42) hx hb hts iX6 hown hK hP 0 rfl rfl 34 (Nat.le_of_ble_eq_true rfl) f47 (fun _ h9 => h9) rfl dX6_peeled_57 ?_
              refine lv_aload_n hx hb dX6_peeled_60 rfl (lv_at hl 0 rfl) ?_
              refine lv_iload hx hb dX6_peeled_61 (lv_at hl 3 rfl) ?_
              refine lv_aload_n hx hb dX6_peeled_63 rfl (lv_at hl 0 rfl) ?_
              refine va_get (D := D) (ci := 6) (v := .int ties) (C := RX6) (T := TX6) (N := 42) hx hb hts iX6 hown hK hP 0 rfl rfl 7 (Nat.le_of_ble_eq_true rfl) f178 (fun _ h9 => h9) rfl dX6_peeled_64 ?_
              obtain ⟨q8, eq8, h⟩ := e_b h
              refine xv_i0 (As := [.int x5, .int ties]) (rest := [.ref (ad 11), .int x4]) (ci := 6) (b := ad 0) ⟨hx, hb, hml, hown, hts⟩ hl.1 (kX6_ofRank l D cA ad thrown tape taped value weight many block ties lines pastValue pastWeight pastMany undos fresh newValue newWeight newMany newBlock newTies newLines hasBlock hasTies size att place sort number fault faultPlace lastFault lastPlace toValue toWeight toMany often firstOf lastOf unlikes unlikeMany isCandidate modes fewest x5 ties  _ eq8) (cwV 2 hts gX6_peeled_X6_ofRank rfl rfl rfl (by decide +kernel) ⟨Nat.le_of_ble_eq_true rfl, Nat.le_of_ble_eq_true rfl⟩) rfl hK hP hD hS hA 0 rfl rfl rfl rfl (Nat.le_of_ble_eq_true rfl) dX6_peeled_67 ⟨Nat.zero_le _, Nat.zero_le _⟩ (fun H locs hP hD hS hnq8 => ?_)
              have hP : va_P D vwCl (wX6 cA ad thrown tape taped value weight many block ties lines pastValue pastWeight pastMany undos fresh newValue newWeight newMany newBlock newTies newLines hasBlock hasTies size att place sort number fault faultPlace lastFault lastPlace toValue toWeight toMany often firstOf lastOf unlikes unlikeMany isCandidate modes fewest) H := hP
              have hD : va_D A (wX6 cA ad thrown tape taped value weight many block ties lines pastValue pastWeight pastMany undos fresh newValue newWeight newMany newBlock newTies newLines hasBlock hasTies size att place sort number fault faultPlace lastFault lastPlace toValue toWeight toMany often firstOf lastOf unlikes unlikeMany isCandidate modes fewest) := hD
              obtain ⟨v9, ev9, nv9, h⟩ := e_rd h
              refine xa_iald hx hb hK hP 11 rfl nv9 ev9 dX6_peeled_70 ?_
              refine lv_isub hx hb dX6_peeled_71 ?_
              refine lv_istore (lv' := [(4, .int (x4 - v9)), (0, .ref (ad 0)), (3, .int x3), (5, .int x5)]) hx hb dX6_peeled_72 hl (by decide) rfl (fun ls hl => ?_)
              refine lv_iinc (v := (x5 + 1)) (lv' := [(5, .int (x5 + 1)), (4, .int (x4 - v9)), (0, .ref (ad 0)), (3, .int x3)]) hx hb dX6_peeled_74 hl (k := 3) rfl rfl (by decide) rfl (fun ls hl => ?_)
              refine lv_goto (tgt := 48) hx hb dX6_peeled_77 (by decide) ?_
              exact ih48 x3 (x4 - v9) (x5 + 1) thrown tape taped value weight many block ties lines pastValue pastWeight pastMany undos fresh newValue newWeight newMany newBlock newTies newLines hasBlock hasTies size att place sort number fault faultPlace lastFault lastPlace toValue toWeight toMany often firstOf lastOf unlikes unlikeMany isCandidate modes fewest z6 _ _ _ (lv_sub hl [2, 3, 1, 0] rfl) hP hD hS h hk48
        obtain ⟨z10, ez10, h⟩ := e_b h
        refine hL48 FU x3 ((x2 - x1) + 1) 0 0 tape taped value weight many block ties lines pastValue pastWeight pastMany undos fresh newValue newWeight newMany newBlock newTies newLines hasBlock hasTies size att place sort number fault faultPlace lastFault lastPlace toValue toWeight toMany q4.1 q4.2.1 q4.2.2.1 q4.2.2.2.1 q4.2.2.2.2 isCandidate modes fewest z10 _ _ _ (lv_sub hl [2, 5, 1, 0] rfl) hP hD hS ez10 (fun ls H locs hl hP hD hS => ?_)
        refine lv_iload hx hb dX6_peeled_80 (lv_at hl 0 rfl) ?_
        obtain rfl := e_s h
        exact hret hP hS rfl dX6_peeled_82
      · have h := e_f c5 h
        refine lv_bipush (v := (-2)) hx hb dX6_peeled_35 (by decide) ?_
        obtain rfl := e_s h
        exact hret hP hS rfl dX6_peeled_37
    · have h := e_f c3 h
      refine lv_iconst (v := (-1)) hx hb dX6_peeled_18 (by decide) ?_
      obtain rfl := e_s h
      exact hret hP hS rfl dX6_peeled_19
set_option maxHeartbeats 4000000 in
set_option maxRecDepth 100000 in
theorem kX6_gap (l : Launch) (D : va_G) (cA : Nat → ClassId) (ad : Nat → Nat) (thrown : Int32) (tape : Nat → Int32) (taped : Int32) (value : Nat → Int32) (weight : Nat → Int32) (many : Int32) (block : Int32) (ties : Int32) (lines : Int32) (pastValue : Nat → Int32) (pastWeight : Nat → Int32) (pastMany : Nat → Int32) (undos : Int32) (fresh : Int32) (newValue : Nat → Int32) (newWeight : Nat → Int32) (newMany : Int32) (newBlock : Int32) (newTies : Int32) (newLines : Int32) (hasBlock : Int32) (hasTies : Int32) (size : Int32) (att : Int32) (place : Int32) (sort : Int32) (number : Int32) (fault : Int32) (faultPlace : Int32) (lastFault : Int32) (lastPlace : Int32) (toValue : Nat → Int32) (toWeight : Nat → Int32) (toMany : Int32) (often : Nat → Int32) (firstOf : Nat → Int32) (lastOf : Nat → Int32) (unlikes : Nat → Int32) (unlikeMany : Int32) (isCandidate : Nat → Int32) (modes : Nat → Int32) (fewest : Nat → Int32) (x1 : Int32) (q : Int32 × Int32) (h : mX6_gap thrown value many x1 = some q) : MI l yX6_gap wsX6_gap { frames := 1, cells := 0, slots := 0, locals := 20 } D cA .int [.ref (ad 0), .int x1] (wX6 cA ad thrown tape taped value weight many block ties lines pastValue pastWeight pastMany undos fresh newValue newWeight newMany newBlock newTies newLines hasBlock hasTies size att place sort number fault faultPlace lastFault lastPlace toValue toWeight toMany often firstOf lastOf unlikes unlikeMany isCandidate modes fewest) (wX6 cA ad q.2 tape taped value weight many block ties lines pastValue pastWeight pastMany undos fresh newValue newWeight newMany newBlock newTies newLines hasBlock hasTies size att place sort number fault faultPlace lastFault lastPlace toValue toWeight toMany often firstOf lastOf unlikes unlikeMany isCandidate modes fewest) q.1 := by
  refine MI.of (cc := cX6_gap) (maxL := 5) (by decide +kernel) rfl rfl rfl (Nat.le_of_ble_eq_true rfl) ?_
  intro p e s m args below meth c A ls Q hx hb hml hts hown hK hP hD hA hS hl hret
  have hl : lv_has ls 5 [(0, .ref (ad 0)), (1, .int x1)] := hl
  have f13 := hts (.fieldLink RX6 13 "ModeDeskModel" "value" "[I") (by decide +kernel)
  have f175 := hts (.fieldLink RX6 175 "ModeDeskModel" "many" "I") (by decide +kernel)
  have f72 := hts (.fieldLink RX6 72 "ModeDeskModel" "thrown" "I") (by decide +kernel)
  have iX6 : ∀ w ∈ wsX60, w ∈ wsX6_gap := by decide +kernel
  unfold mX6_gap at h
  refine lv_aload_n hx hb dX6_gap_0 rfl (lv_at hl 0 rfl) ?_
  refine lv_iconst (v := 0) hx hb dX6_gap_1 (by decide) ?_
  refine va_put (D := D) (ci := 6) (v := .int 0) (ty := .int) (C := RX6) (T := TX6) (N := 42) hx hb hts iX6 tyX6 tyX6_ok nmX6 hown hK hP hD hS 0 rfl rfl 0 (Nat.le_of_ble_eq_true rfl) f72 (fun _ h9 => h9) rfl (tyX6_ok 0 (Nat.le_of_ble_eq_true rfl)) rfl rfl (Nat.le_of_ble_eq_true rfl) dX6_gap_2 (fun H locs hP hD hS => ?_)
  have hP : va_P D vwCl (wX6 cA ad 0 tape taped value weight many block ties lines pastValue pastWeight pastMany undos fresh newValue newWeight newMany newBlock newTies newLines hasBlock hasTies size att place sort number fault faultPlace lastFault lastPlace toValue toWeight toMany often firstOf lastOf unlikes unlikeMany isCandidate modes fewest) H := hP
  have hD : va_D A (wX6 cA ad 0 tape taped value weight many block ties lines pastValue pastWeight pastMany undos fresh newValue newWeight newMany newBlock newTies newLines hasBlock hasTies size att place sort number fault faultPlace lastFault lastPlace toValue toWeight toMany often firstOf lastOf unlikes unlikeMany isCandidate modes fewest) := hD
  refine lv_iload_n hx hb dX6_gap_5 rfl (lv_at hl 1 rfl) ?_
  obtain ⟨q1, eq1, h⟩ := e_b h
  refine xs_i (As := [.int x1]) (rest := []) ⟨hx, hb, hml, hown, hts⟩ hl.1 (kX6_isValue l D cA   x1  _ eq1) (va_cwS 1 hts gX6_gap_X6_isValue rfl rfl rfl (by decide +kernel) ⟨Nat.le_of_ble_eq_true rfl, Nat.le_of_ble_eq_true rfl⟩) rfl hK hP hD hS hA [] rfl (by decide +kernel) rfl (Nat.le_of_ble_eq_true rfl) dX6_gap_6 ⟨Nat.zero_le _, Nat.zero_le _⟩ (fun H locs hP hD hS hnq1 => ?_)
  have hP : va_P D vwCl (wX6 cA ad 0 tape taped value weight many block ties lines pastValue pastWeight pastMany undos fresh newValue newWeight newMany newBlock newTies newLines hasBlock hasTies size att place sort number fault faultPlace lastFault lastPlace toValue toWeight toMany often firstOf lastOf unlikes unlikeMany isCandidate modes fewest) H := hP
  have hD : va_D A (wX6 cA ad 0 tape taped value weight many block ties lines pastValue pastWeight pastMany undos fresh newValue newWeight newMany newBlock newTies newLines hasBlock hasTies size att place sort number fault faultPlace lastFault lastPlace toValue toWeight toMany often firstOf lastOf unlikes unlikeMany isCandidate modes fewest) := hD
  refine lv_if_ne (tgt := 14) hx hb dX6_gap_9 (by decide) (fun c2 => ?_) (fun c2 => ?_)
  · have h := e_t c2 h
    refine lv_bipush (v := (-2)) hx hb dX6_gap_14 (by decide) ?_
    refine lv_istore_n (lv' := [(2, .int (-2)), (0, .ref (ad 0)), (1, .int x1)]) hx hb dX6_gap_16 rfl hl (by decide) rfl (fun ls hl => ?_)
    refine lv_iconst (v := (-1)) hx hb dX6_gap_17 (by decide) ?_
    refine lv_istore_n (lv' := [(3, .int (-1)), (2, .int (-2)), (0, .ref (ad 0)), (1, .int x1)]) hx hb dX6_gap_18 rfl hl (by decide) rfl (fun ls hl => ?_)
    refine lv_iconst (v := 0) hx hb dX6_gap_19 (by decide) ?_
    refine lv_istore (lv' := [(4, .int 0), (3, .int (-1)), (2, .int (-2)), (0, .ref (ad 0)), (1, .int x1)]) hx hb dX6_gap_20 hl (by decide) rfl (fun ls hl => ?_)
    have hL22 : ∀ (n : Nat) (x1 : Int32) (x2 : Int32) (x3 : Int32) (x4 : Int32) (thrown : Int32) (tape : Nat → Int32) (taped : Int32) (value : Nat → Int32) (weight : Nat → Int32) (many : Int32) (block : Int32) (ties : Int32) (lines : Int32) (pastValue : Nat → Int32) (pastWeight : Nat → Int32) (pastMany : Nat → Int32) (undos : Int32) (fresh : Int32) (newValue : Nat → Int32) (newWeight : Nat → Int32) (newMany : Int32) (newBlock : Int32) (newTies : Int32) (newLines : Int32) (hasBlock : Int32) (hasTies : Int32) (size : Int32) (att : Int32) (place : Int32) (sort : Int32) (number : Int32) (fault : Int32) (faultPlace : Int32) (lastFault : Int32) (lastPlace : Int32) (toValue : Nat → Int32) (toWeight : Nat → Int32) (toMany : Int32) (often : Nat → Int32) (firstOf : Nat → Int32) (lastOf : Nat → Int32) (unlikes : Nat → Int32) (unlikeMany : Int32) (isCandidate : Nat → Int32) (modes : Nat → Int32) (fewest : Nat → Int32) (z3 : Int32) (ls : Array Slot) (H : Heap) (locs : List Loc), lv_has ls 5 [(0, .ref (ad 0)), (1, .int x1), (2, .int x2), (3, .int x3), (4, .int x4)] → va_P D vwCl (wX6 cA ad thrown tape taped value weight many block ties lines pastValue pastWeight pastMany undos fresh newValue newWeight newMany newBlock newTies newLines hasBlock hasTies size att place sort number fault faultPlace lastFault lastPlace toValue toWeight toMany often firstOf lastOf unlikes unlikeMany isCandidate modes fewest) H → va_D A (wX6 cA ad thrown tape taped value weight many block ties lines pastValue pastWeight pastMany undos fresh newValue newWeight newMany newBlock newTies newLines hasBlock hasTies size att place sort number fault faultPlace lastFault lastPlace toValue toWeight toMany often firstOf lastOf unlikes unlikeMany isCandidate modes fewest) → va_S A s.heap H locs → mX6_gap_L22 value many x1 n x2 x3 x4 = some z3 → (∀ (ls : Array Slot) (H : Heap) (locs : List Loc), lv_has ls 5 [(2, .int z3)] → va_P D vwCl (wX6 cA ad thrown tape taped value weight many block ties lines pastValue pastWeight pastMany undos fresh newValue newWeight newMany newBlock newTies newLines hasBlock hasTies size att place sort number fault faultPlace lastFault lastPlace toValue toWeight toMany often firstOf lastOf unlikes unlikeMany isCandidate modes fewest) H → va_D A (wX6 cA ad thrown tape taped value weight many block ties lines pastValue pastWeight pastMany undos fresh newValue newWeight newMany newBlock newTies newLines hasBlock hasTies size att place sort number fault faultPlace lastFault lastPlace toValue toWeight toMany often firstOf lastOf unlikes unlikeMany isCandidate modes fewest) → va_S A s.heap H locs → W p l e (headSpec wsX6_gap { frames := 1, cells := 0, slots := 0, locals := 20 }).room s m args below meth c H locs 0 0 Q (F0 m 72 ls [])) → W p l e (headSpec wsX6_gap { frames := 1, cells := 0, slots := 0, locals := 20 }).room s m args below meth c H locs 0 0 Q (F0 m 22 ls []) := by
      intro n
      induction n with
      | zero => intro x1 x2 x3 x4 thrown tape taped value weight many block ties lines pastValue pastWeight pastMany undos fresh newValue newWeight newMany newBlock newTies newLines hasBlock hasTies size att place sort number fault faultPlace lastFault lastPlace toValue toWeight toMany often firstOf lastOf unlikes unlikeMany isCandidate modes fewest z3 ls H locs hl hP hD hS h hk22; exact e_n h
      | succ n ih22 =>
        intro x1 x2 x3 x4 thrown tape taped value weight many block ties lines pastValue pastWeight pastMany undos fresh newValue newWeight newMany newBlock newTies newLines hasBlock hasTies size att place sort number fault faultPlace lastFault lastPlace toValue toWeight toMany often firstOf lastOf unlikes unlikeMany isCandidate modes fewest z3 ls H locs hl hP hD hS h hk22
        rw [mX6_gap_L22.eq_2] at h
        refine lv_iload hx hb dX6_gap_22 (lv_at hl 4 rfl) ?_
        refine lv_aload_n hx hb dX6_gap_24 rfl (lv_at hl 0 rfl) ?_
        refine va_get (D := D) (ci := 6) (v := .int many) (C := RX6) (T := TX6) (N := 42) hx hb hts iX6 hown hK hP 0 rfl rfl 5 (Nat.le_of_ble_eq_true rfl) f175 (fun _ h9 => h9) rfl dX6_gap_25 ?_
        refine lv_icmp_ge (tgt := 72) hx hb dX6_gap_28 (by decide) (fun c4 => ?_) (fun c4 => ?_)
        · have h := e_t c4 h
          obtain rfl := e_s h
          exact hk22 _ _ _ (lv_sub hl [2] rfl) hP hD hS
        · have h := e_f c4 h
          refine lv_aload_n hx hb dX6_gap_31 rfl (lv_at hl 0 rfl) ?_
          refine va_get (D := D) (ci := 6) (v := .ref (ad 2)) (C := RX6) (T := TX6) (N := 42) hx hb hts iX6 hown hK hP 0 rfl rfl 3 (Nat.le_of_ble_eq_true rfl) f13 (fun _ h9 => h9) rfl dX6_gap_32 ?_
          refine lv_iload hx hb dX6_gap_35 (lv_at hl 4 rfl) ?_
          obtain ⟨v5, ev5, nv5, h⟩ := e_rd h
          refine xa_iald hx hb hK hP 2 rfl nv5 ev5 dX6_gap_37 ?_
          refine lv_iload_n hx hb dX6_gap_38 rfl (lv_at hl 1 rfl) ?_
          refine lv_icmp_eq (tgt := 45) hx hb dX6_gap_39 (by decide) (fun c6 => ?_) (fun c6 => ?_)
          · have h := e_t c6 h
            refine lv_iload_n hx hb dX6_gap_45 rfl (lv_at hl 3 rfl) ?_
            refine lv_iconst (v := (-1)) hx hb dX6_gap_46 (by decide) ?_
            refine lv_icmp_eq (tgt := 63) hx hb dX6_gap_47 (by decide) (fun c7 => ?_) (fun c7 => ?_)
            · have h := e_t c7 h
              refine lv_iload hx hb dX6_gap_63 (lv_at hl 4 rfl) ?_
              refine lv_istore_n (lv' := [(3, .int x4), (0, .ref (ad 0)), (1, .int x1), (2, .int x2), (4, .int x4)]) hx hb dX6_gap_65 rfl hl (by decide) rfl (fun ls hl => ?_)
              refine lv_iinc (v := (x4 + 1)) (lv' := [(4, .int (x4 + 1)), (3, .int x4), (0, .ref (ad 0)), (1, .int x1), (2, .int x2)]) hx hb dX6_gap_66 hl (k := 4) rfl rfl (by decide) rfl (fun ls hl => ?_)
              refine lv_goto (tgt := 22) hx hb dX6_gap_69 (by decide) ?_
              exact ih22 x1 x2 x4 (x4 + 1) thrown tape taped value weight many block ties lines pastValue pastWeight pastMany undos fresh newValue newWeight newMany newBlock newTies newLines hasBlock hasTies size att place sort number fault faultPlace lastFault lastPlace toValue toWeight toMany often firstOf lastOf unlikes unlikeMany isCandidate modes fewest z3 _ _ _ (lv_sub hl [2, 3, 4, 1, 0] rfl) hP hD hS h hk22
            · have h := e_f c7 h
              refine lv_iload hx hb dX6_gap_50 (lv_at hl 4 rfl) ?_
              refine lv_iload_n hx hb dX6_gap_52 rfl (lv_at hl 3 rfl) ?_
              refine lv_isub hx hb dX6_gap_53 ?_
              refine lv_iload_n hx hb dX6_gap_54 rfl (lv_at hl 2 rfl) ?_
              refine lv_icmp_le (tgt := 63) hx hb dX6_gap_55 (by decide) (fun c8 => ?_) (fun c8 => ?_)
              · have h := e_t c8 h
                refine lv_iload hx hb dX6_gap_63 (lv_at hl 4 rfl) ?_
                refine lv_istore_n (lv' := [(3, .int x4), (0, .ref (ad 0)), (1, .int x1), (2, .int x2), (4, .int x4)]) hx hb dX6_gap_65 rfl hl (by decide) rfl (fun ls hl => ?_)
                refine lv_iinc (v := (x4 + 1)) (lv' := [(4, .int (x4 + 1)), (3, .int x4), (0, .ref (ad 0)), (1, .int x1), (2, .int x2)]) hx hb dX6_gap_66 hl (k := 4) rfl rfl (by decide) rfl (fun ls hl => ?_)
                refine lv_goto (tgt := 22) hx hb dX6_gap_69 (by decide) ?_
                exact ih22 x1 x2 x4 (x4 + 1) thrown tape taped value weight many block ties lines pastValue pastWeight pastMany undos fresh newValue newWeight newMany newBlock newTies newLines hasBlock hasTies size att place sort number fault faultPlace lastFault lastPlace toValue toWeight toMany often firstOf lastOf unlikes unlikeMany isCandidate modes fewest z3 _ _ _ (lv_sub hl [2, 3, 4, 1, 0] rfl) hP hD hS h hk22
              · have h := e_f c8 h
                refine lv_iload hx hb dX6_gap_58 (lv_at hl 4 rfl) ?_
                refine lv_iload_n hx hb dX6_gap_60 rfl (lv_at hl 3 rfl) ?_
                refine lv_isub hx hb dX6_gap_61 ?_
                refine lv_istore_n (lv' := [(2, .int (x4 - x3)), (0, .ref (ad 0)), (1, .int x1), (3, .int x3), (4, .int x4)]) hx hb dX6_gap_62 rfl hl (by decide) rfl (fun ls hl => ?_)
                refine lv_iload hx hb dX6_gap_63 (lv_at hl 4 rfl) ?_
                refine lv_istore_n (lv' := [(3, .int x4), (2, .int (x4 - x3)), (0, .ref (ad 0)), (1, .int x1), (4, .int x4)]) hx hb dX6_gap_65 rfl hl (by decide) rfl (fun ls hl => ?_)
                refine lv_iinc (v := (x4 + 1)) (lv' := [(4, .int (x4 + 1)), (3, .int x4), (2, .int (x4 - x3)), (0, .ref (ad 0)), (1, .int x1)]) hx hb dX6_gap_66 hl (k := 4) rfl rfl (by decide) rfl (fun ls hl => ?_)
                refine lv_goto (tgt := 22) hx hb dX6_gap_69 (by decide) ?_
                exact ih22 x1 (x4 - x3) x4 (x4 + 1) thrown tape taped value weight many block ties lines pastValue pastWeight pastMany undos fresh newValue newWeight newMany newBlock newTies newLines hasBlock hasTies size att place sort number fault faultPlace lastFault lastPlace toValue toWeight toMany often firstOf lastOf unlikes unlikeMany isCandidate modes fewest z3 _ _ _ (lv_sub hl [3, 4, 2, 1, 0] rfl) hP hD hS h hk22
          · have h := e_f c6 h
            refine lv_goto (tgt := 66) hx hb dX6_gap_42 (by decide) ?_
            refine lv_iinc (v := (x4 + 1)) (lv' := [(4, .int (x4 + 1)), (0, .ref (ad 0)), (1, .int x1), (2, .int x2), (3, .int x3)]) hx hb dX6_gap_66 hl (k := 4) rfl rfl (by decide) rfl (fun ls hl => ?_)
            refine lv_goto (tgt := 22) hx hb dX6_gap_69 (by decide) ?_
            exact ih22 x1 x2 x3 (x4 + 1) thrown tape taped value weight many block ties lines pastValue pastWeight pastMany undos fresh newValue newWeight newMany newBlock newTies newLines hasBlock hasTies size att place sort number fault faultPlace lastFault lastPlace toValue toWeight toMany often firstOf lastOf unlikes unlikeMany isCandidate modes fewest z3 _ _ _ (lv_sub hl [1, 2, 3, 4, 0] rfl) hP hD hS h hk22
    obtain ⟨z9, ez9, h⟩ := e_b h
    refine hL22 FU x1 (-2) (-1) 0 0 tape taped value weight many block ties lines pastValue pastWeight pastMany undos fresh newValue newWeight newMany newBlock newTies newLines hasBlock hasTies size att place sort number fault faultPlace lastFault lastPlace toValue toWeight toMany often firstOf lastOf unlikes unlikeMany isCandidate modes fewest z9 _ _ _ (lv_sub hl [3, 4, 2, 1, 0] rfl) hP hD hS ez9 (fun ls H locs hl hP hD hS => ?_)
    refine lv_iload_n hx hb dX6_gap_72 rfl (lv_at hl 0 rfl) ?_
    obtain rfl := e_s h
    exact hret hP hS rfl dX6_gap_73
  · have h := e_f (not_not_intro c2) h
    refine lv_iconst (v := (-1)) hx hb dX6_gap_12 (by decide) ?_
    obtain rfl := e_s h
    exact hret hP hS rfl dX6_gap_13
set_option maxHeartbeats 4000000 in
set_option maxRecDepth 100000 in
theorem kX6_wide (l : Launch) (D : va_G) (cA : Nat → ClassId) (ad : Nat → Nat) (thrown : Int32) (tape : Nat → Int32) (taped : Int32) (value : Nat → Int32) (weight : Nat → Int32) (many : Int32) (block : Int32) (ties : Int32) (lines : Int32) (pastValue : Nat → Int32) (pastWeight : Nat → Int32) (pastMany : Nat → Int32) (undos : Int32) (fresh : Int32) (newValue : Nat → Int32) (newWeight : Nat → Int32) (newMany : Int32) (newBlock : Int32) (newTies : Int32) (newLines : Int32) (hasBlock : Int32) (hasTies : Int32) (size : Int32) (att : Int32) (place : Int32) (sort : Int32) (number : Int32) (fault : Int32) (faultPlace : Int32) (lastFault : Int32) (lastPlace : Int32) (toValue : Nat → Int32) (toWeight : Nat → Int32) (toMany : Int32) (often : Nat → Int32) (firstOf : Nat → Int32) (lastOf : Nat → Int32) (unlikes : Nat → Int32) (unlikeMany : Int32) (isCandidate : Nat → Int32) (modes : Nat → Int32) (fewest : Nat → Int32) (x1 : Int32) (q : Int32 × Int32 × (Nat → Int32) × (Nat → Int32) × (Nat → Int32) × (Nat → Int32) × Int32) (h : mX6_wide thrown value many ties often firstOf lastOf unlikes unlikeMany x1 = some q) : MI l yX6_wide wsX6_wide { frames := 3, cells := 0, slots := 0, locals := 68 } D cA .int [.ref (ad 0), .int x1] (wX6 cA ad thrown tape taped value weight many block ties lines pastValue pastWeight pastMany undos fresh newValue newWeight newMany newBlock newTies newLines hasBlock hasTies size att place sort number fault faultPlace lastFault lastPlace toValue toWeight toMany often firstOf lastOf unlikes unlikeMany isCandidate modes fewest) (wX6 cA ad q.2.1 tape taped value weight many block ties lines pastValue pastWeight pastMany undos fresh newValue newWeight newMany newBlock newTies newLines hasBlock hasTies size att place sort number fault faultPlace lastFault lastPlace toValue toWeight toMany q.2.2.1 q.2.2.2.1 q.2.2.2.2.1 q.2.2.2.2.2.1 q.2.2.2.2.2.2 isCandidate modes fewest) q.1 := by
  refine MI.of (cc := cX6_wide) (maxL := 5) (by decide +kernel) rfl rfl rfl (Nat.le_of_ble_eq_true rfl) ?_
  intro p e s m args below meth c A ls Q hx hb hml hts hown hK hP hD hA hS hl hret
  have hl : lv_has ls 5 [(0, .ref (ad 0)), (1, .int x1)] := hl
  have f175 := hts (.fieldLink RX6 175 "ModeDeskModel" "many" "I") (by decide +kernel)
  have f47 := hts (.fieldLink RX6 47 "ModeDeskModel" "often" "[I") (by decide +kernel)
  have f72 := hts (.fieldLink RX6 72 "ModeDeskModel" "thrown" "I") (by decide +kernel)
  have iX6 : ∀ w ∈ wsX60, w ∈ wsX6_wide := by decide +kernel
  unfold mX6_wide at h
  refine lv_aload_n hx hb dX6_wide_0 rfl (lv_at hl 0 rfl) ?_
  refine lv_iconst (v := 0) hx hb dX6_wide_1 (by decide) ?_
  refine va_put (D := D) (ci := 6) (v := .int 0) (ty := .int) (C := RX6) (T := TX6) (N := 42) hx hb hts iX6 tyX6 tyX6_ok nmX6 hown hK hP hD hS 0 rfl rfl 0 (Nat.le_of_ble_eq_true rfl) f72 (fun _ h9 => h9) rfl (tyX6_ok 0 (Nat.le_of_ble_eq_true rfl)) rfl rfl (Nat.le_of_ble_eq_true rfl) dX6_wide_2 (fun H locs hP hD hS => ?_)
  have hP : va_P D vwCl (wX6 cA ad 0 tape taped value weight many block ties lines pastValue pastWeight pastMany undos fresh newValue newWeight newMany newBlock newTies newLines hasBlock hasTies size att place sort number fault faultPlace lastFault lastPlace toValue toWeight toMany often firstOf lastOf unlikes unlikeMany isCandidate modes fewest) H := hP
  have hD : va_D A (wX6 cA ad 0 tape taped value weight many block ties lines pastValue pastWeight pastMany undos fresh newValue newWeight newMany newBlock newTies newLines hasBlock hasTies size att place sort number fault faultPlace lastFault lastPlace toValue toWeight toMany often firstOf lastOf unlikes unlikeMany isCandidate modes fewest) := hD
  refine lv_iload_n hx hb dX6_wide_5 rfl (lv_at hl 1 rfl) ?_
  refine lv_iconst (v := 1) hx hb dX6_wide_6 (by decide) ?_
  refine lv_icmp_ge (tgt := 12) hx hb dX6_wide_7 (by decide) (fun c1 => ?_) (fun c1 => ?_)
  · have h := e_t c1 h
    refine lv_iconst (v := 1) hx hb dX6_wide_12 (by decide) ?_
    refine lv_istore_n (lv' := [(2, .int 1), (0, .ref (ad 0)), (1, .int x1)]) hx hb dX6_wide_13 rfl hl (by decide) rfl (fun ls hl => ?_)
    have hL14 : ∀ (n : Nat) (x1 : Int32) (x2 : Int32) (often : Nat → Int32) (firstOf : Nat → Int32) (lastOf : Nat → Int32) (unlikes : Nat → Int32) (unlikeMany : Int32) (ls : Array Slot) (H : Heap) (locs : List Loc), lv_has ls 5 [(0, .ref (ad 0)), (1, .int x1), (2, .int x2)] → va_P D vwCl (wX6 cA ad 0 tape taped value weight many block ties lines pastValue pastWeight pastMany undos fresh newValue newWeight newMany newBlock newTies newLines hasBlock hasTies size att place sort number fault faultPlace lastFault lastPlace toValue toWeight toMany often firstOf lastOf unlikes unlikeMany isCandidate modes fewest) H → va_D A (wX6 cA ad 0 tape taped value weight many block ties lines pastValue pastWeight pastMany undos fresh newValue newWeight newMany newBlock newTies newLines hasBlock hasTies size att place sort number fault faultPlace lastFault lastPlace toValue toWeight toMany often firstOf lastOf unlikes unlikeMany isCandidate modes fewest) → va_S A s.heap H locs → mX6_wide_L14 0 value many ties x1 n x2 often firstOf lastOf unlikes unlikeMany = some q → W p l e (headSpec wsX6_wide { frames := 3, cells := 0, slots := 0, locals := 68 }).room s m args below meth c H locs 0 0 Q (F0 m 14 ls []) := by
      intro n
      induction n with
      | zero => intro x1 x2 often firstOf lastOf unlikes unlikeMany ls H locs hl hP hD hS h; exact e_n h
      | succ n ih14 =>
        intro x1 x2 often firstOf lastOf unlikes unlikeMany ls H locs hl hP hD hS h
        rw [mX6_wide_L14.eq_2] at h
        refine lv_iload_n hx hb dX6_wide_14 rfl (lv_at hl 2 rfl) ?_
        refine lv_aload_n hx hb dX6_wide_15 rfl (lv_at hl 0 rfl) ?_
        refine va_get (D := D) (ci := 6) (v := .int many) (C := RX6) (T := TX6) (N := 42) hx hb hts iX6 hown hK hP 0 rfl rfl 5 (Nat.le_of_ble_eq_true rfl) f175 (fun _ h9 => h9) rfl dX6_wide_16 ?_
        refine lv_icmp_gt (tgt := 87) hx hb dX6_wide_19 (by decide) (fun c3 => ?_) (fun c3 => ?_)
        · have h := e_t c3 h
          refine lv_bipush (v := (-2)) hx hb dX6_wide_87 (by decide) ?_
          obtain rfl := e_s h
          exact hret hP hS rfl dX6_wide_89
        · have h := e_f c3 h
          refine lv_iconst (v := 1) hx hb dX6_wide_22 (by decide) ?_
          refine lv_istore_n (lv' := [(3, .int 1), (0, .ref (ad 0)), (1, .int x1), (2, .int x2)]) hx hb dX6_wide_23 rfl hl (by decide) rfl (fun ls hl => ?_)
          refine lv_iconst (v := 0) hx hb dX6_wide_24 (by decide) ?_
          refine lv_istore (lv' := [(4, .int 0), (3, .int 1), (0, .ref (ad 0)), (1, .int x1), (2, .int x2)]) hx hb dX6_wide_25 hl (by decide) rfl (fun ls hl => ?_)
          have hL27 : ∀ (n : Nat) (x1 : Int32) (x2 : Int32) (x3 : Int32) (x4 : Int32) (thrown : Int32) (tape : Nat → Int32) (taped : Int32) (value : Nat → Int32) (weight : Nat → Int32) (many : Int32) (block : Int32) (ties : Int32) (lines : Int32) (pastValue : Nat → Int32) (pastWeight : Nat → Int32) (pastMany : Nat → Int32) (undos : Int32) (fresh : Int32) (newValue : Nat → Int32) (newWeight : Nat → Int32) (newMany : Int32) (newBlock : Int32) (newTies : Int32) (newLines : Int32) (hasBlock : Int32) (hasTies : Int32) (size : Int32) (att : Int32) (place : Int32) (sort : Int32) (number : Int32) (fault : Int32) (faultPlace : Int32) (lastFault : Int32) (lastPlace : Int32) (toValue : Nat → Int32) (toWeight : Nat → Int32) (toMany : Int32) (often : Nat → Int32) (firstOf : Nat → Int32) (lastOf : Nat → Int32) (unlikes : Nat → Int32) (unlikeMany : Int32) (isCandidate : Nat → Int32) (modes : Nat → Int32) (fewest : Nat → Int32) (z4 : Int32 × (Nat → Int32) × (Nat → Int32) × (Nat → Int32) × (Nat → Int32) × Int32) (ls : Array Slot) (H : Heap) (locs : List Loc), lv_has ls 5 [(0, .ref (ad 0)), (1, .int x1), (2, .int x2), (3, .int x3), (4, .int x4)] → va_P D vwCl (wX6 cA ad thrown tape taped value weight many block ties lines pastValue pastWeight pastMany undos fresh newValue newWeight newMany newBlock newTies newLines hasBlock hasTies size att place sort number fault faultPlace lastFault lastPlace toValue toWeight toMany often firstOf lastOf unlikes unlikeMany isCandidate modes fewest) H → va_D A (wX6 cA ad thrown tape taped value weight many block ties lines pastValue pastWeight pastMany undos fresh newValue newWeight newMany newBlock newTies newLines hasBlock hasTies size att place sort number fault faultPlace lastFault lastPlace toValue toWeight toMany often firstOf lastOf unlikes unlikeMany isCandidate modes fewest) → va_S A s.heap H locs → mX6_wide_L27 value many ties x1 x2 n x3 x4 often firstOf lastOf unlikes unlikeMany = some z4 → (∀ (ls : Array Slot) (H : Heap) (locs : List Loc), lv_has ls 5 [(0, .ref (ad 0)), (1, .int x1), (2, .int x2), (3, .int z4.1)] → va_P D vwCl (wX6 cA ad thrown tape taped value weight many block ties lines pastValue pastWeight pastMany undos fresh newValue newWeight newMany newBlock newTies newLines hasBlock hasTies size att place sort number fault faultPlace lastFault lastPlace toValue toWeight toMany z4.2.1 z4.2.2.1 z4.2.2.2.1 z4.2.2.2.2.1 z4.2.2.2.2.2 isCandidate modes fewest) H → va_D A (wX6 cA ad thrown tape taped value weight many block ties lines pastValue pastWeight pastMany undos fresh newValue newWeight newMany newBlock newTies newLines hasBlock hasTies size att place sort number fault faultPlace lastFault lastPlace toValue toWeight toMany z4.2.1 z4.2.2.1 z4.2.2.2.1 z4.2.2.2.2.1 z4.2.2.2.2.2 isCandidate modes fewest) → va_S A s.heap H locs → W p l e (headSpec wsX6_wide { frames := 3, cells := 0, slots := 0, locals := 68 }).room s m args below meth c H locs 0 0 Q (F0 m 75 ls [])) → W p l e (headSpec wsX6_wide { frames := 3, cells := 0, slots := 0, locals := 68 }).room s m args below meth c H locs 0 0 Q (F0 m 27 ls []) := by
            intro n
            induction n with
            | zero => intro x1 x2 x3 x4 thrown tape taped value weight many block ties lines pastValue pastWeight pastMany undos fresh newValue newWeight newMany newBlock newTies newLines hasBlock hasTies size att place sort number fault faultPlace lastFault lastPlace toValue toWeight toMany often firstOf lastOf unlikes unlikeMany isCandidate modes fewest z4 ls H locs hl hP hD hS h hk27; exact e_n h
            | succ n ih27 =>
              intro x1 x2 x3 x4 thrown tape taped value weight many block ties lines pastValue pastWeight pastMany undos fresh newValue newWeight newMany newBlock newTies newLines hasBlock hasTies size att place sort number fault faultPlace lastFault lastPlace toValue toWeight toMany often firstOf lastOf unlikes unlikeMany isCandidate modes fewest z4 ls H locs hl hP hD hS h hk27
              rw [mX6_wide_L27.eq_2] at h
              refine lv_iload hx hb dX6_wide_27 (lv_at hl 4 rfl) ?_
              refine lv_iload_n hx hb dX6_wide_29 rfl (lv_at hl 2 rfl) ?_
              refine lv_iadd hx hb dX6_wide_30 ?_
              refine lv_aload_n hx hb dX6_wide_31 rfl (lv_at hl 0 rfl) ?_
              refine va_get (D := D) (ci := 6) (v := .int many) (C := RX6) (T := TX6) (N := 42) hx hb hts iX6 hown hK hP 0 rfl rfl 5 (Nat.le_of_ble_eq_true rfl) f175 (fun _ h9 => h9) rfl dX6_wide_32 ?_
              refine lv_icmp_gt (tgt := 75) hx hb dX6_wide_35 (by decide) (fun c5 => ?_) (fun c5 => ?_)
              · have h := e_t c5 h
                obtain rfl := e_s h
                exact hk27 _ _ _ (lv_sub hl [0, 1, 2, 3] rfl) hP hD hS
              · have h := e_f c5 h
                refine lv_iload_n hx hb dX6_wide_38 rfl (lv_at hl 3 rfl) ?_
                refine lv_if_eq (tgt := 75) hx hb dX6_wide_39 (by decide) (fun c6 => ?_) (fun c6 => ?_)
                · have h := e_t c6 h
                  obtain rfl := e_s h
                  exact hk27 _ _ _ (lv_sub hl [0, 1, 2, 3] rfl) hP hD hS
                · have h := e_f c6 h
                  refine lv_aload_n hx hb dX6_wide_42 rfl (lv_at hl 0 rfl) ?_
                  refine va_get (D := D) (ci := 6) (v := .ref (ad 11)) (C := RX6) (T := TX6) (N := 42) hx hb hts iX6 hown hK hP 0 rfl rfl 34 (Nat.le_of_ble_eq_true rfl) f47 (fun _ h9 => h9) rfl dX6_wide_43 ?_
                  refine lv_aload_n hx hb dX6_wide_46 rfl (lv_at hl 0 rfl) ?_
                  refine lv_iload hx hb dX6_wide_47 (lv_at hl 4 rfl) ?_
                  refine lv_iload hx hb dX6_wide_49 (lv_at hl 4 rfl) ?_
                  refine lv_iload_n hx hb dX6_wide_51 rfl (lv_at hl 2 rfl) ?_
                  refine lv_iadd hx hb dX6_wide_52 ?_
                  refine lv_iconst (v := 1) hx hb dX6_wide_53 (by decide) ?_
                  refine lv_isub hx hb dX6_wide_54 ?_
                  obtain ⟨q7, eq7, h⟩ := e_b h
                  refine xv_i0 (As := [.int x4, .int ((x4 + x2) - 1)]) (rest := [.ref (ad 11)]) (ci := 6) (b := ad 0) ⟨hx, hb, hml, hown, hts⟩ hl.1 (kX6_modeOf l D cA ad thrown tape taped value weight many block ties lines pastValue pastWeight pastMany undos fresh newValue newWeight newMany newBlock newTies newLines hasBlock hasTies size att place sort number fault faultPlace lastFault lastPlace toValue toWeight toMany often firstOf lastOf unlikes unlikeMany isCandidate modes fewest x4 ((x4 + x2) - 1)  _ eq7) (cwV 2 hts gX6_wide_X6_modeOf rfl rfl rfl (by decide +kernel) ⟨Nat.le_of_ble_eq_true rfl, Nat.le_of_ble_eq_true rfl⟩) rfl hK hP hD hS hA 0 rfl rfl rfl rfl (Nat.le_of_ble_eq_true rfl) dX6_wide_55 ⟨Nat.zero_le _, Nat.zero_le _⟩ (fun H locs hP hD hS hnq7 => ?_)
                  have hP : va_P D vwCl (wX6 cA ad thrown tape taped value weight many block ties lines pastValue pastWeight pastMany undos fresh newValue newWeight newMany newBlock newTies newLines hasBlock hasTies size att place sort number fault faultPlace lastFault lastPlace toValue toWeight toMany q7.2.1 q7.2.2.1 q7.2.2.2.1 q7.2.2.2.2.1 q7.2.2.2.2.2 isCandidate modes fewest) H := hP
                  have hD : va_D A (wX6 cA ad thrown tape taped value weight many block ties lines pastValue pastWeight pastMany undos fresh newValue newWeight newMany newBlock newTies newLines hasBlock hasTies size att place sort number fault faultPlace lastFault lastPlace toValue toWeight toMany q7.2.1 q7.2.2.1 q7.2.2.2.1 q7.2.2.2.2.1 q7.2.2.2.2.2 isCandidate modes fewest) := hD
                  obtain ⟨v8, ev8, nv8, h⟩ := e_rd h
                  refine xa_iald hx hb hK hP 11 rfl nv8 ev8 dX6_wide_58 ?_
                  refine lv_iload_n hx hb dX6_wide_59 rfl (lv_at hl 1 rfl) ?_
                  refine lv_icmp_lt (tgt := 67) hx hb dX6_wide_60 (by decide) (fun c9 => ?_) (fun c9 => ?_)
                  · have h := e_t c9 h
                    refine lv_iconst (v := 0) hx hb dX6_wide_67 (by decide) ?_
                    refine lv_istore_n (lv' := [(3, .int 0), (0, .ref (ad 0)), (1, .int x1), (2, .int x2), (4, .int x4)]) hx hb dX6_wide_68 rfl hl (by decide) rfl (fun ls hl => ?_)
                    refine lv_iinc (v := (x4 + 1)) (lv' := [(4, .int (x4 + 1)), (3, .int 0), (0, .ref (ad 0)), (1, .int x1), (2, .int x2)]) hx hb dX6_wide_69 hl (k := 4) rfl rfl (by decide) rfl (fun ls hl => ?_)
                    refine lv_goto (tgt := 27) hx hb dX6_wide_72 (by decide) ?_
                    exact ih27 x1 x2 0 (x4 + 1) thrown tape taped value weight many block ties lines pastValue pastWeight pastMany undos fresh newValue newWeight newMany newBlock newTies newLines hasBlock hasTies size att place sort number fault faultPlace lastFault lastPlace toValue toWeight toMany q7.2.1 q7.2.2.1 q7.2.2.2.1 q7.2.2.2.2.1 q7.2.2.2.2.2 isCandidate modes fewest z4 _ _ _ (lv_sub hl [2, 3, 4, 1, 0] rfl) hP hD hS h hk27
                  · have h := e_f c9 h
                    refine lv_iconst (v := 1) hx hb dX6_wide_63 (by decide) ?_
                    refine lv_goto (tgt := 68) hx hb dX6_wide_64 (by decide) ?_
                    refine lv_istore_n (lv' := [(3, .int 1), (0, .ref (ad 0)), (1, .int x1), (2, .int x2), (4, .int x4)]) hx hb dX6_wide_68 rfl hl (by decide) rfl (fun ls hl => ?_)
                    refine lv_iinc (v := (x4 + 1)) (lv' := [(4, .int (x4 + 1)), (3, .int 1), (0, .ref (ad 0)), (1, .int x1), (2, .int x2)]) hx hb dX6_wide_69 hl (k := 4) rfl rfl (by decide) rfl (fun ls hl => ?_)
                    refine lv_goto (tgt := 27) hx hb dX6_wide_72 (by decide) ?_
                    exact ih27 x1 x2 1 (x4 + 1) thrown tape taped value weight many block ties lines pastValue pastWeight pastMany undos fresh newValue newWeight newMany newBlock newTies newLines hasBlock hasTies size att place sort number fault faultPlace lastFault lastPlace toValue toWeight toMany q7.2.1 q7.2.2.1 q7.2.2.2.1 q7.2.2.2.2.1 q7.2.2.2.2.2 isCandidate modes fewest z4 _ _ _ (lv_sub hl [2, 3, 4, 1, 0] rfl) hP hD hS h hk27
          obtain ⟨z10, ez10, h⟩ := e_b h
          refine hL27 FU x1 x2 1 0 0 tape taped value weight many block ties lines pastValue pastWeight pastMany undos fresh newValue newWeight newMany newBlock newTies newLines hasBlock hasTies size att place sort number fault faultPlace lastFault lastPlace toValue toWeight toMany often firstOf lastOf unlikes unlikeMany isCandidate modes fewest z10 _ _ _ (lv_sub hl [2, 3, 4, 1, 0] rfl) hP hD hS ez10 (fun ls H locs hl hP hD hS => ?_)
          refine lv_iload_n hx hb dX6_wide_75 rfl (lv_at hl 3 rfl) ?_
          refine lv_if_eq (tgt := 81) hx hb dX6_wide_76 (by decide) (fun c11 => ?_) (fun c11 => ?_)
          · have h := e_t c11 h
            refine lv_iinc (v := (x2 + 1)) (lv' := [(2, .int (x2 + 1)), (0, .ref (ad 0)), (1, .int x1), (3, .int z10.1)]) hx hb dX6_wide_81 hl (k := 2) rfl rfl (by decide) rfl (fun ls hl => ?_)
            refine lv_goto (tgt := 14) hx hb dX6_wide_84 (by decide) ?_
            exact ih14 x1 (x2 + 1) z10.2.1 z10.2.2.1 z10.2.2.2.1 z10.2.2.2.2.1 z10.2.2.2.2.2 _ _ _ (lv_sub hl [1, 2, 0] rfl) hP hD hS h
          · have h := e_f c11 h
            refine lv_iload_n hx hb dX6_wide_79 rfl (lv_at hl 2 rfl) ?_
            obtain rfl := e_s h
            exact hret hP hS rfl dX6_wide_80
    exact hL14 FU x1 1 often firstOf lastOf unlikes unlikeMany _ _ _ (lv_sub hl [1, 2, 0] rfl) hP hD hS h
  · have h := e_f c1 h
    refine lv_iconst (v := (-1)) hx hb dX6_wide_10 (by decide) ?_
    obtain rfl := e_s h
    exact hret hP hS rfl dX6_wide_11
set_option maxHeartbeats 4000000 in
set_option maxRecDepth 100000 in
theorem kX6_reign (l : Launch) (D : va_G) (cA : Nat → ClassId) (ad : Nat → Nat) (thrown : Int32) (tape : Nat → Int32) (taped : Int32) (value : Nat → Int32) (weight : Nat → Int32) (many : Int32) (block : Int32) (ties : Int32) (lines : Int32) (pastValue : Nat → Int32) (pastWeight : Nat → Int32) (pastMany : Nat → Int32) (undos : Int32) (fresh : Int32) (newValue : Nat → Int32) (newWeight : Nat → Int32) (newMany : Int32) (newBlock : Int32) (newTies : Int32) (newLines : Int32) (hasBlock : Int32) (hasTies : Int32) (size : Int32) (att : Int32) (place : Int32) (sort : Int32) (number : Int32) (fault : Int32) (faultPlace : Int32) (lastFault : Int32) (lastPlace : Int32) (toValue : Nat → Int32) (toWeight : Nat → Int32) (toMany : Int32) (often : Nat → Int32) (firstOf : Nat → Int32) (lastOf : Nat → Int32) (unlikes : Nat → Int32) (unlikeMany : Int32) (isCandidate : Nat → Int32) (modes : Nat → Int32) (fewest : Nat → Int32) (x1 : Int32) (x2 : Int32) (q : Int32 × Int32) (h : mX6_reign thrown value many x1 x2 = some q) : MI l yX6_reign wsX6_reign { frames := 1, cells := 0, slots := 0, locals := 20 } D cA .int [.ref (ad 0), .int x1, .int x2] (wX6 cA ad thrown tape taped value weight many block ties lines pastValue pastWeight pastMany undos fresh newValue newWeight newMany newBlock newTies newLines hasBlock hasTies size att place sort number fault faultPlace lastFault lastPlace toValue toWeight toMany often firstOf lastOf unlikes unlikeMany isCandidate modes fewest) (wX6 cA ad q.2 tape taped value weight many block ties lines pastValue pastWeight pastMany undos fresh newValue newWeight newMany newBlock newTies newLines hasBlock hasTies size att place sort number fault faultPlace lastFault lastPlace toValue toWeight toMany often firstOf lastOf unlikes unlikeMany isCandidate modes fewest) q.1 := by
  refine MI.of (cc := cX6_reign) (maxL := 8) (by decide +kernel) rfl rfl rfl (Nat.le_of_ble_eq_true rfl) ?_
  intro p e s m args below meth c A ls Q hx hb hml hts hown hK hP hD hA hS hl hret
  have hl : lv_has ls 8 [(0, .ref (ad 0)), (1, .int x1), (2, .int x2)] := hl
  have f13 := hts (.fieldLink RX6 13 "ModeDeskModel" "value" "[I") (by decide +kernel)
  have f175 := hts (.fieldLink RX6 175 "ModeDeskModel" "many" "I") (by decide +kernel)
  have f72 := hts (.fieldLink RX6 72 "ModeDeskModel" "thrown" "I") (by decide +kernel)
  have iX6 : ∀ w ∈ wsX60, w ∈ wsX6_reign := by decide +kernel
  unfold mX6_reign at h
  refine lv_aload_n hx hb dX6_reign_0 rfl (lv_at hl 0 rfl) ?_
  refine lv_iconst (v := 0) hx hb dX6_reign_1 (by decide) ?_
  refine va_put (D := D) (ci := 6) (v := .int 0) (ty := .int) (C := RX6) (T := TX6) (N := 42) hx hb hts iX6 tyX6 tyX6_ok nmX6 hown hK hP hD hS 0 rfl rfl 0 (Nat.le_of_ble_eq_true rfl) f72 (fun _ h9 => h9) rfl (tyX6_ok 0 (Nat.le_of_ble_eq_true rfl)) rfl rfl (Nat.le_of_ble_eq_true rfl) dX6_reign_2 (fun H locs hP hD hS => ?_)
  have hP : va_P D vwCl (wX6 cA ad 0 tape taped value weight many block ties lines pastValue pastWeight pastMany undos fresh newValue newWeight newMany newBlock newTies newLines hasBlock hasTies size att place sort number fault faultPlace lastFault lastPlace toValue toWeight toMany often firstOf lastOf unlikes unlikeMany isCandidate modes fewest) H := hP
  have hD : va_D A (wX6 cA ad 0 tape taped value weight many block ties lines pastValue pastWeight pastMany undos fresh newValue newWeight newMany newBlock newTies newLines hasBlock hasTies size att place sort number fault faultPlace lastFault lastPlace toValue toWeight toMany often firstOf lastOf unlikes unlikeMany isCandidate modes fewest) := hD
  refine lv_iload_n hx hb dX6_reign_5 rfl (lv_at hl 1 rfl) ?_
  obtain ⟨q1, eq1, h⟩ := e_b h
  refine xs_i (As := [.int x1]) (rest := []) ⟨hx, hb, hml, hown, hts⟩ hl.1 (kX6_isValue l D cA   x1  _ eq1) (va_cwS 1 hts gX6_reign_X6_isValue rfl rfl rfl (by decide +kernel) ⟨Nat.le_of_ble_eq_true rfl, Nat.le_of_ble_eq_true rfl⟩) rfl hK hP hD hS hA [] rfl (by decide +kernel) rfl (Nat.le_of_ble_eq_true rfl) dX6_reign_6 ⟨Nat.zero_le _, Nat.zero_le _⟩ (fun H locs hP hD hS hnq1 => ?_)
  have hP : va_P D vwCl (wX6 cA ad 0 tape taped value weight many block ties lines pastValue pastWeight pastMany undos fresh newValue newWeight newMany newBlock newTies newLines hasBlock hasTies size att place sort number fault faultPlace lastFault lastPlace toValue toWeight toMany often firstOf lastOf unlikes unlikeMany isCandidate modes fewest) H := hP
  have hD : va_D A (wX6 cA ad 0 tape taped value weight many block ties lines pastValue pastWeight pastMany undos fresh newValue newWeight newMany newBlock newTies newLines hasBlock hasTies size att place sort number fault faultPlace lastFault lastPlace toValue toWeight toMany often firstOf lastOf unlikes unlikeMany isCandidate modes fewest) := hD
  refine lv_if_eq (tgt := 21) hx hb dX6_reign_9 (by decide) (fun c2 => ?_) (fun c2 => ?_)
  · have h := e_t c2 h
    refine lv_iconst (v := (-1)) hx hb dX6_reign_21 (by decide) ?_
    obtain rfl := e_s h
    exact hret hP hS rfl dX6_reign_22
  · have h := e_f c2 h
    refine lv_iload_n hx hb dX6_reign_12 rfl (lv_at hl 2 rfl) ?_
    refine lv_if_lt (tgt := 21) hx hb dX6_reign_13 (by decide) (fun c3 => ?_) (fun c3 => ?_)
    · have h := e_t c3 h
      refine lv_iconst (v := (-1)) hx hb dX6_reign_21 (by decide) ?_
      obtain rfl := e_s h
      exact hret hP hS rfl dX6_reign_22
    · have h := e_f c3 h
      refine lv_iload_n hx hb dX6_reign_16 rfl (lv_at hl 2 rfl) ?_
      refine lv_iconst (v := 1) hx hb dX6_reign_17 (by decide) ?_
      refine lv_icmp_le (tgt := 23) hx hb dX6_reign_18 (by decide) (fun c4 => ?_) (fun c4 => ?_)
      · have h := e_t c4 h
        refine lv_bipush (v := (-2)) hx hb dX6_reign_23 (by decide) ?_
        refine lv_istore_n (lv' := [(3, .int (-2)), (0, .ref (ad 0)), (1, .int x1), (2, .int x2)]) hx hb dX6_reign_25 rfl hl (by decide) rfl (fun ls hl => ?_)
        refine lv_iconst (v := 0) hx hb dX6_reign_26 (by decide) ?_
        refine lv_istore (lv' := [(4, .int 0), (3, .int (-2)), (0, .ref (ad 0)), (1, .int x1), (2, .int x2)]) hx hb dX6_reign_27 hl (by decide) rfl (fun ls hl => ?_)
        refine lv_iconst (v := 0) hx hb dX6_reign_29 (by decide) ?_
        refine lv_istore (lv' := [(5, .int 0), (4, .int 0), (3, .int (-2)), (0, .ref (ad 0)), (1, .int x1), (2, .int x2)]) hx hb dX6_reign_30 hl (by decide) rfl (fun ls hl => ?_)
        have hL32 : ∀ (n : Nat) (x1 : Int32) (x2 : Int32) (x3 : Int32) (x4 : Int32) (x5 : Int32) (thrown : Int32) (tape : Nat → Int32) (taped : Int32) (value : Nat → Int32) (weight : Nat → Int32) (many : Int32) (block : Int32) (ties : Int32) (lines : Int32) (pastValue : Nat → Int32) (pastWeight : Nat → Int32) (pastMany : Nat → Int32) (undos : Int32) (fresh : Int32) (newValue : Nat → Int32) (newWeight : Nat → Int32) (newMany : Int32) (newBlock : Int32) (newTies : Int32) (newLines : Int32) (hasBlock : Int32) (hasTies : Int32) (size : Int32) (att : Int32) (place : Int32) (sort : Int32) (number : Int32) (fault : Int32) (faultPlace : Int32) (lastFault : Int32) (lastPlace : Int32) (toValue : Nat → Int32) (toWeight : Nat → Int32) (toMany : Int32) (often : Nat → Int32) (firstOf : Nat → Int32) (lastOf : Nat → Int32) (unlikes : Nat → Int32) (unlikeMany : Int32) (isCandidate : Nat → Int32) (modes : Nat → Int32) (fewest : Nat → Int32) (z5 : Int32 × Int32) (ls : Array Slot) (H : Heap) (locs : List Loc), lv_has ls 8 [(0, .ref (ad 0)), (1, .int x1), (2, .int x2), (3, .int x3), (4, .int x4), (5, .int x5)] → va_P D vwCl (wX6 cA ad thrown tape taped value weight many block ties lines pastValue pastWeight pastMany undos fresh newValue newWeight newMany newBlock newTies newLines hasBlock hasTies size att place sort number fault faultPlace lastFault lastPlace toValue toWeight toMany often firstOf lastOf unlikes unlikeMany isCandidate modes fewest) H → va_D A (wX6 cA ad thrown tape taped value weight many block ties lines pastValue pastWeight pastMany undos fresh newValue newWeight newMany newBlock newTies newLines hasBlock hasTies size att place sort number fault faultPlace lastFault lastPlace toValue toWeight toMany often firstOf lastOf unlikes unlikeMany isCandidate modes fewest) → va_S A s.heap H locs → mX6_reign_L32 value many x1 n x3 x4 x5 = some z5 → (∀ (ls : Array Slot) (H : Heap) (locs : List Loc), lv_has ls 8 [(2, .int x2), (3, .int z5.1), (4, .int z5.2)] → va_P D vwCl (wX6 cA ad thrown tape taped value weight many block ties lines pastValue pastWeight pastMany undos fresh newValue newWeight newMany newBlock newTies newLines hasBlock hasTies size att place sort number fault faultPlace lastFault lastPlace toValue toWeight toMany often firstOf lastOf unlikes unlikeMany isCandidate modes fewest) H → va_D A (wX6 cA ad thrown tape taped value weight many block ties lines pastValue pastWeight pastMany undos fresh newValue newWeight newMany newBlock newTies newLines hasBlock hasTies size att place sort number fault faultPlace lastFault lastPlace toValue toWeight toMany often firstOf lastOf unlikes unlikeMany isCandidate modes fewest) → va_S A s.heap H locs → W p l e (headSpec wsX6_reign { frames := 1, cells := 0, slots := 0, locals := 20 }).room s m args below meth c H locs 0 0 Q (F0 m 131 ls [])) → W p l e (headSpec wsX6_reign { frames := 1, cells := 0, slots := 0, locals := 20 }).room s m args below meth c H locs 0 0 Q (F0 m 32 ls []) := by
          intro n
          induction n with
          | zero => intro x1 x2 x3 x4 x5 thrown tape taped value weight many block ties lines pastValue pastWeight pastMany undos fresh newValue newWeight newMany newBlock newTies newLines hasBlock hasTies size att place sort number fault faultPlace lastFault lastPlace toValue toWeight toMany often firstOf lastOf unlikes unlikeMany isCandidate modes fewest z5 ls H locs hl hP hD hS h hk32; exact e_n h
          | succ n ih32 =>
            intro x1 x2 x3 x4 x5 thrown tape taped value weight many block ties lines pastValue pastWeight pastMany undos fresh newValue newWeight newMany newBlock newTies newLines hasBlock hasTies size att place sort number fault faultPlace lastFault lastPlace toValue toWeight toMany often firstOf lastOf unlikes unlikeMany isCandidate modes fewest z5 ls H locs hl hP hD hS h hk32
            rw [mX6_reign_L32.eq_2] at h
            refine lv_iload hx hb dX6_reign_32 (lv_at hl 5 rfl) ?_
            refine lv_aload_n hx hb dX6_reign_34 rfl (lv_at hl 0 rfl) ?_
            refine va_get (D := D) (ci := 6) (v := .int many) (C := RX6) (T := TX6) (N := 42) hx hb hts iX6 hown hK hP 0 rfl rfl 5 (Nat.le_of_ble_eq_true rfl) f175 (fun _ h9 => h9) rfl dX6_reign_35 ?_
            refine lv_icmp_ge (tgt := 131) hx hb dX6_reign_38 (by decide) (fun c6 => ?_) (fun c6 => ?_)
            · have h := e_t c6 h
              obtain rfl := e_s h
              exact hk32 _ _ _ (lv_sub hl [2, 3, 4] rfl) hP hD hS
            · have h := e_f c6 h
              refine lv_iconst (v := 0) hx hb dX6_reign_41 (by decide) ?_
              refine lv_istore (lv' := [(6, .int 0), (0, .ref (ad 0)), (1, .int x1), (2, .int x2), (3, .int x3), (4, .int x4), (5, .int x5)]) hx hb dX6_reign_42 hl (by decide) rfl (fun ls hl => ?_)
              refine lv_iload hx hb dX6_reign_44 (lv_at hl 6 rfl) ?_
              refine lv_istore (lv' := [(7, .int x5), (6, .int 0), (0, .ref (ad 0)), (1, .int x1), (2, .int x2), (3, .int x3), (4, .int x4), (5, .int x5)]) hx hb dX6_reign_46 hl (by decide) rfl (fun ls hl => ?_)
              have hL48 : ∀ (n : Nat) (x1 : Int32) (x2 : Int32) (x3 : Int32) (x4 : Int32) (x5 : Int32) (x6 : Int32) (x7 : Int32) (thrown : Int32) (tape : Nat → Int32) (taped : Int32) (value : Nat → Int32) (weight : Nat → Int32) (many : Int32) (block : Int32) (ties : Int32) (lines : Int32) (pastValue : Nat → Int32) (pastWeight : Nat → Int32) (pastMany : Nat → Int32) (undos : Int32) (fresh : Int32) (newValue : Nat → Int32) (newWeight : Nat → Int32) (newMany : Int32) (newBlock : Int32) (newTies : Int32) (newLines : Int32) (hasBlock : Int32) (hasTies : Int32) (size : Int32) (att : Int32) (place : Int32) (sort : Int32) (number : Int32) (fault : Int32) (faultPlace : Int32) (lastFault : Int32) (lastPlace : Int32) (toValue : Nat → Int32) (toWeight : Nat → Int32) (toMany : Int32) (often : Nat → Int32) (firstOf : Nat → Int32) (lastOf : Nat → Int32) (unlikes : Nat → Int32) (unlikeMany : Int32) (isCandidate : Nat → Int32) (modes : Nat → Int32) (fewest : Nat → Int32) (z7 : Int32 × Int32) (ls : Array Slot) (H : Heap) (locs : List Loc), lv_has ls 8 [(0, .ref (ad 0)), (1, .int x1), (2, .int x2), (3, .int x3), (4, .int x4), (5, .int x5), (6, .int x6), (7, .int x7)] → va_P D vwCl (wX6 cA ad thrown tape taped value weight many block ties lines pastValue pastWeight pastMany undos fresh newValue newWeight newMany newBlock newTies newLines hasBlock hasTies size att place sort number fault faultPlace lastFault lastPlace toValue toWeight toMany often firstOf lastOf unlikes unlikeMany isCandidate modes fewest) H → va_D A (wX6 cA ad thrown tape taped value weight many block ties lines pastValue pastWeight pastMany undos fresh newValue newWeight newMany newBlock newTies newLines hasBlock hasTies size att place sort number fault faultPlace lastFault lastPlace toValue toWeight toMany often firstOf lastOf unlikes unlikeMany isCandidate modes fewest) → va_S A s.heap H locs → mX6_reign_L48 value many x1 x5 n x3 x4 x6 x7 = some z7 → (∀ (ls : Array Slot) (H : Heap) (locs : List Loc), lv_has ls 8 [(0, .ref (ad 0)), (1, .int x1), (2, .int x2), (3, .int z7.1), (4, .int z7.2), (5, .int x5)] → va_P D vwCl (wX6 cA ad thrown tape taped value weight many block ties lines pastValue pastWeight pastMany undos fresh newValue newWeight newMany newBlock newTies newLines hasBlock hasTies size att place sort number fault faultPlace lastFault lastPlace toValue toWeight toMany often firstOf lastOf unlikes unlikeMany isCandidate modes fewest) H → va_D A (wX6 cA ad thrown tape taped value weight many block ties lines pastValue pastWeight pastMany undos fresh newValue newWeight newMany newBlock newTies newLines hasBlock hasTies size att place sort number fault faultPlace lastFault lastPlace toValue toWeight toMany often firstOf lastOf unlikes unlikeMany isCandidate modes fewest) → va_S A s.heap H locs → W p l e (headSpec wsX6_reign { frames := 1, cells := 0, slots := 0, locals := 20 }).room s m args below meth c H locs 0 0 Q (F0 m 125 ls [])) → W p l e (headSpec wsX6_reign { frames := 1, cells := 0, slots := 0, locals := 20 }).room s m args below meth c H locs 0 0 Q (F0 m 48 ls []) := by
                intro n
                induction n with
                | zero => intro x1 x2 x3 x4 x5 x6 x7 thrown tape taped value weight many block ties lines pastValue pastWeight pastMany undos fresh newValue newWeight newMany newBlock newTies newLines hasBlock hasTies size att place sort number fault faultPlace lastFault lastPlace toValue toWeight toMany often firstOf lastOf unlikes unlikeMany isCandidate modes fewest z7 ls H locs hl hP hD hS h hk48; exact e_n h
                | succ n ih48 =>
                  intro x1 x2 x3 x4 x5 x6 x7 thrown tape taped value weight many block ties lines pastValue pastWeight pastMany undos fresh newValue newWeight newMany newBlock newTies newLines hasBlock hasTies size att place sort number fault faultPlace lastFault lastPlace toValue toWeight toMany often firstOf lastOf unlikes unlikeMany isCandidate modes fewest z7 ls H locs hl hP hD hS h hk48
                  rw [mX6_reign_L48.eq_2] at h
                  refine lv_iload hx hb dX6_reign_48 (lv_at hl 7 rfl) ?_
                  refine lv_aload_n hx hb dX6_reign_50 rfl (lv_at hl 0 rfl) ?_
                  refine va_get (D := D) (ci := 6) (v := .int many) (C := RX6) (T := TX6) (N := 42) hx hb hts iX6 hown hK hP 0 rfl rfl 5 (Nat.le_of_ble_eq_true rfl) f175 (fun _ h9 => h9) rfl dX6_reign_51 ?_
                  refine lv_icmp_ge (tgt := 125) hx hb dX6_reign_54 (by decide) (fun c8 => ?_) (fun c8 => ?_)
                  · have h := e_t c8 h
                    obtain rfl := e_s h
                    exact hk48 _ _ _ (lv_sub hl [0, 1, 2, 3, 4, 5] rfl) hP hD hS
                  · have h := e_f c8 h
                    refine lv_iload hx hb dX6_reign_57 (lv_at hl 6 rfl) ?_
                    refine lv_aload_n hx hb dX6_reign_59 rfl (lv_at hl 0 rfl) ?_
                    refine va_get (D := D) (ci := 6) (v := .ref (ad 2)) (C := RX6) (T := TX6) (N := 42) hx hb hts iX6 hown hK hP 0 rfl rfl 3 (Nat.le_of_ble_eq_true rfl) f13 (fun _ h9 => h9) rfl dX6_reign_60 ?_
                    refine lv_iload hx hb dX6_reign_63 (lv_at hl 7 rfl) ?_
                    obtain ⟨v9, ev9, nv9, h⟩ := e_rd h
                    refine xa_iald hx hb hK hP 2 rfl nv9 ev9 dX6_reign_65 ?_
                    refine lv_iload_n hx hb dX6_reign_66 rfl (lv_at hl 1 rfl) ?_
                    obtain ⟨z10, ez10, h⟩ := e_b h
                    have hJ11 : ∀ (ls : Array Slot) (H : Heap) (locs : List Loc), lv_has ls 8 [(0, .ref (ad 0)), (1, .int x1), (2, .int x2), (3, .int x3), (4, .int x4), (5, .int x5), (7, .int x7)] → va_P D vwCl (wX6 cA ad thrown tape taped value weight many block ties lines pastValue pastWeight pastMany undos fresh newValue newWeight newMany newBlock newTies newLines hasBlock hasTies size att place sort number fault faultPlace lastFault lastPlace toValue toWeight toMany often firstOf lastOf unlikes unlikeMany isCandidate modes fewest) H → va_D A (wX6 cA ad thrown tape taped value weight many block ties lines pastValue pastWeight pastMany undos fresh newValue newWeight newMany newBlock newTies newLines hasBlock hasTies size att place sort number fault faultPlace lastFault lastPlace toValue toWeight toMany often firstOf lastOf unlikes unlikeMany isCandidate modes fewest) → va_S A s.heap H locs → W p l e (headSpec wsX6_reign { frames := 1, cells := 0, slots := 0, locals := 20 }).room s m args below meth c H locs 0 0 Q (F0 m 75 ls [.int z10, .int x6]) := by
                      intro ls H locs hl hP hD hS
                      refine lv_iadd hx hb dX6_reign_75 ?_
                      refine lv_istore (lv' := [(6, .int (x6 + z10)), (0, .ref (ad 0)), (1, .int x1), (2, .int x2), (3, .int x3), (4, .int x4), (5, .int x5), (7, .int x7)]) hx hb dX6_reign_76 hl (by decide) rfl (fun ls hl => ?_)
                      refine lv_iconst (v := 2) hx hb dX6_reign_78 (by decide) ?_
                      refine lv_iload hx hb dX6_reign_79 (lv_at hl 0 rfl) ?_
                      refine lv_imul hx hb dX6_reign_81 ?_
                      refine lv_iload hx hb dX6_reign_82 (lv_at hl 7 rfl) ?_
                      refine lv_iload hx hb dX6_reign_84 (lv_at hl 6 rfl) ?_
                      refine lv_isub hx hb dX6_reign_86 ?_
                      refine lv_iconst (v := 1) hx hb dX6_reign_87 (by decide) ?_
                      refine lv_iadd hx hb dX6_reign_88 ?_
                      refine lv_icmp_le (tgt := 119) hx hb dX6_reign_89 (by decide) (fun c12 => ?_) (fun c12 => ?_)
                      · have h := e_t c12 h
                        refine lv_iinc (v := (x7 + 1)) (lv' := [(7, .int (x7 + 1)), (6, .int (x6 + z10)), (0, .ref (ad 0)), (1, .int x1), (2, .int x2), (3, .int x3), (4, .int x4), (5, .int x5)]) hx hb dX6_reign_119 hl (k := 7) rfl rfl (by decide) rfl (fun ls hl => ?_)
                        refine lv_goto (tgt := 48) hx hb dX6_reign_122 (by decide) ?_
                        exact ih48 x1 x2 x3 x4 x5 (x6 + z10) (x7 + 1) thrown tape taped value weight many block ties lines pastValue pastWeight pastMany undos fresh newValue newWeight newMany newBlock newTies newLines hasBlock hasTies size att place sort number fault faultPlace lastFault lastPlace toValue toWeight toMany often firstOf lastOf unlikes unlikeMany isCandidate modes fewest z7 _ _ _ (lv_sub hl [2, 3, 4, 5, 6, 7, 1, 0] rfl) hP hD hS h hk48
                      · have h := e_f c12 h
                        refine lv_iload hx hb dX6_reign_92 (lv_at hl 7 rfl) ?_
                        refine lv_iload hx hb dX6_reign_94 (lv_at hl 6 rfl) ?_
                        refine lv_isub hx hb dX6_reign_96 ?_
                        refine lv_iconst (v := 1) hx hb dX6_reign_97 (by decide) ?_
                        refine lv_iadd hx hb dX6_reign_98 ?_
                        refine lv_iload hx hb dX6_reign_99 (lv_at hl 5 rfl) ?_
                        refine lv_icmp_gt (tgt := 107) hx hb dX6_reign_101 (by decide) (fun c13 => ?_) (fun c13 => ?_)
                        · have h := e_t c13 h
                          refine lv_iload hx hb dX6_reign_107 (lv_at hl 6 rfl) ?_
                          refine lv_istore_n (lv' := [(3, .int x5), (6, .int (x6 + z10)), (0, .ref (ad 0)), (1, .int x1), (2, .int x2), (4, .int x4), (5, .int x5), (7, .int x7)]) hx hb dX6_reign_109 rfl hl (by decide) rfl (fun ls hl => ?_)
                          refine lv_iload hx hb dX6_reign_110 (lv_at hl 7 rfl) ?_
                          refine lv_iload hx hb dX6_reign_112 (lv_at hl 6 rfl) ?_
                          refine lv_isub hx hb dX6_reign_114 ?_
                          refine lv_iconst (v := 1) hx hb dX6_reign_115 (by decide) ?_
                          refine lv_iadd hx hb dX6_reign_116 ?_
                          refine lv_istore (lv' := [(4, .int ((x7 - x5) + 1)), (3, .int x5), (6, .int (x6 + z10)), (0, .ref (ad 0)), (1, .int x1), (2, .int x2), (5, .int x5), (7, .int x7)]) hx hb dX6_reign_117 hl (by decide) rfl (fun ls hl => ?_)
                          refine lv_iinc (v := (x7 + 1)) (lv' := [(7, .int (x7 + 1)), (4, .int ((x7 - x5) + 1)), (3, .int x5), (6, .int (x6 + z10)), (0, .ref (ad 0)), (1, .int x1), (2, .int x2), (5, .int x5)]) hx hb dX6_reign_119 hl (k := 7) rfl rfl (by decide) rfl (fun ls hl => ?_)
                          refine lv_goto (tgt := 48) hx hb dX6_reign_122 (by decide) ?_
                          exact ih48 x1 x2 x5 ((x7 - x5) + 1) x5 (x6 + z10) (x7 + 1) thrown tape taped value weight many block ties lines pastValue pastWeight pastMany undos fresh newValue newWeight newMany newBlock newTies newLines hasBlock hasTies size att place sort number fault faultPlace lastFault lastPlace toValue toWeight toMany often firstOf lastOf unlikes unlikeMany isCandidate modes fewest z7 _ _ _ (lv_sub hl [4, 5, 6, 2, 1, 7, 3, 0] rfl) hP hD hS h hk48
                        · have h := e_f c13 h
                          refine lv_goto (tgt := 119) hx hb dX6_reign_104 (by decide) ?_
                          refine lv_iinc (v := (x7 + 1)) (lv' := [(7, .int (x7 + 1)), (6, .int (x6 + z10)), (0, .ref (ad 0)), (1, .int x1), (2, .int x2), (3, .int x3), (4, .int x4), (5, .int x5)]) hx hb dX6_reign_119 hl (k := 7) rfl rfl (by decide) rfl (fun ls hl => ?_)
                          refine lv_goto (tgt := 48) hx hb dX6_reign_122 (by decide) ?_
                          exact ih48 x1 x2 x3 x4 x5 (x6 + z10) (x7 + 1) thrown tape taped value weight many block ties lines pastValue pastWeight pastMany undos fresh newValue newWeight newMany newBlock newTies newLines hasBlock hasTies size att place sort number fault faultPlace lastFault lastPlace toValue toWeight toMany often firstOf lastOf unlikes unlikeMany isCandidate modes fewest z7 _ _ _ (lv_sub hl [2, 3, 4, 5, 6, 7, 1, 0] rfl) hP hD hS h hk48
                    have h := ez10
                    refine lv_icmp_ne (tgt := 74) hx hb dX6_reign_67 (by decide) (fun c14 => ?_) (fun c14 => ?_)
                    · have h := e_t c14 h
                      refine lv_iconst (v := 0) hx hb dX6_reign_74 (by decide) ?_
                      obtain rfl := e_s h
                      exact hJ11 _ _ _ (lv_sub hl [0, 1, 2, 3, 4, 5, 7] rfl) hP hD hS
                    · have h := e_f (not_not_intro c14) h
                      refine lv_iconst (v := 1) hx hb dX6_reign_70 (by decide) ?_
                      refine lv_goto (tgt := 75) hx hb dX6_reign_71 (by decide) ?_
                      obtain rfl := e_s h
                      exact hJ11 _ _ _ (lv_sub hl [0, 1, 2, 3, 4, 5, 7] rfl) hP hD hS
              obtain ⟨z15, ez15, h⟩ := e_b h
              refine hL48 FU x1 x2 x3 x4 x5 0 x5 thrown tape taped value weight many block ties lines pastValue pastWeight pastMany undos fresh newValue newWeight newMany newBlock newTies newLines hasBlock hasTies size att place sort number fault faultPlace lastFault lastPlace toValue toWeight toMany often firstOf lastOf unlikes unlikeMany isCandidate modes fewest z15 _ _ _ (lv_sub hl [2, 3, 4, 5, 6, 7, 1, 0] rfl) hP hD hS ez15 (fun ls H locs hl hP hD hS => ?_)
              refine lv_iinc (v := (x5 + 1)) (lv' := [(5, .int (x5 + 1)), (0, .ref (ad 0)), (1, .int x1), (2, .int x2), (3, .int z15.1), (4, .int z15.2)]) hx hb dX6_reign_125 hl (k := 5) rfl rfl (by decide) rfl (fun ls hl => ?_)
              refine lv_goto (tgt := 32) hx hb dX6_reign_128 (by decide) ?_
              exact ih32 x1 x2 z15.1 z15.2 (x5 + 1) thrown tape taped value weight many block ties lines pastValue pastWeight pastMany undos fresh newValue newWeight newMany newBlock newTies newLines hasBlock hasTies size att place sort number fault faultPlace lastFault lastPlace toValue toWeight toMany often firstOf lastOf unlikes unlikeMany isCandidate modes fewest z5 _ _ _ (lv_sub hl [1, 2, 3, 4, 5, 0] rfl) hP hD hS h hk32
        obtain ⟨z16, ez16, h⟩ := e_b h
        refine hL32 FU x1 x2 (-2) 0 0 0 tape taped value weight many block ties lines pastValue pastWeight pastMany undos fresh newValue newWeight newMany newBlock newTies newLines hasBlock hasTies size att place sort number fault faultPlace lastFault lastPlace toValue toWeight toMany often firstOf lastOf unlikes unlikeMany isCandidate modes fewest z16 _ _ _ (lv_sub hl [3, 4, 5, 2, 1, 0] rfl) hP hD hS ez16 (fun ls H locs hl hP hD hS => ?_)
        refine lv_iload_n hx hb dX6_reign_131 rfl (lv_at hl 1 rfl) ?_
        refine lv_bipush (v := (-2)) hx hb dX6_reign_132 (by decide) ?_
        refine lv_icmp_eq (tgt := 141) hx hb dX6_reign_134 (by decide) (fun c17 => ?_) (fun c17 => ?_)
        · have h := e_t c17 h
          refine lv_iload_n hx hb dX6_reign_141 rfl (lv_at hl 1 rfl) ?_
          refine lv_goto (tgt := 151) hx hb dX6_reign_142 (by decide) ?_
          obtain rfl := e_s h
          exact hret hP hS rfl dX6_reign_151
        · have h := e_f c17 h
          refine lv_iload_n hx hb dX6_reign_137 rfl (lv_at hl 0 rfl) ?_
          refine lv_if_ne (tgt := 145) hx hb dX6_reign_138 (by decide) (fun c18 => ?_) (fun c18 => ?_)
          · have h := e_t c18 h
            refine lv_iload_n hx hb dX6_reign_145 rfl (lv_at hl 1 rfl) ?_
            refine lv_iload hx hb dX6_reign_146 (lv_at hl 2 rfl) ?_
            refine lv_iadd hx hb dX6_reign_148 ?_
            refine lv_iconst (v := 1) hx hb dX6_reign_149 (by decide) ?_
            refine lv_isub hx hb dX6_reign_150 ?_
            obtain rfl := e_s h
            exact hret hP hS rfl dX6_reign_151
          · have h := e_f (not_not_intro c18) h
            refine lv_iload_n hx hb dX6_reign_141 rfl (lv_at hl 1 rfl) ?_
            refine lv_goto (tgt := 151) hx hb dX6_reign_142 (by decide) ?_
            obtain rfl := e_s h
            exact hret hP hS rfl dX6_reign_151
      · have h := e_f c4 h
        refine lv_iconst (v := (-1)) hx hb dX6_reign_21 (by decide) ?_
        obtain rfl := e_s h
        exact hret hP hS rfl dX6_reign_22
set_option maxHeartbeats 4000000 in
set_option maxRecDepth 100000 in
theorem kX6_beginnings (l : Launch) (D : va_G) (cA : Nat → ClassId) (ad : Nat → Nat) (thrown : Int32) (tape : Nat → Int32) (taped : Int32) (value : Nat → Int32) (weight : Nat → Int32) (many : Int32) (block : Int32) (ties : Int32) (lines : Int32) (pastValue : Nat → Int32) (pastWeight : Nat → Int32) (pastMany : Nat → Int32) (undos : Int32) (fresh : Int32) (newValue : Nat → Int32) (newWeight : Nat → Int32) (newMany : Int32) (newBlock : Int32) (newTies : Int32) (newLines : Int32) (hasBlock : Int32) (hasTies : Int32) (size : Int32) (att : Int32) (place : Int32) (sort : Int32) (number : Int32) (fault : Int32) (faultPlace : Int32) (lastFault : Int32) (lastPlace : Int32) (toValue : Nat → Int32) (toWeight : Nat → Int32) (toMany : Int32) (often : Nat → Int32) (firstOf : Nat → Int32) (lastOf : Nat → Int32) (unlikes : Nat → Int32) (unlikeMany : Int32) (isCandidate : Nat → Int32) (modes : Nat → Int32) (fewest : Nat → Int32) (x1 : Int32) (q : Int32 × Int32 × (Nat → Int32) × (Nat → Int32) × (Nat → Int32) × (Nat → Int32) × Int32 × (Nat → Int32)) (h : mX6_beginnings thrown value many ties often firstOf lastOf unlikes unlikeMany modes x1 = some q) : MI l yX6_beginnings wsX6_beginnings { frames := 3, cells := 0, slots := 0, locals := 68 } D cA .int [.ref (ad 0), .int x1] (wX6 cA ad thrown tape taped value weight many block ties lines pastValue pastWeight pastMany undos fresh newValue newWeight newMany newBlock newTies newLines hasBlock hasTies size att place sort number fault faultPlace lastFault lastPlace toValue toWeight toMany often firstOf lastOf unlikes unlikeMany isCandidate modes fewest) (wX6 cA ad q.2.1 tape taped value weight many block ties lines pastValue pastWeight pastMany undos fresh newValue newWeight newMany newBlock newTies newLines hasBlock hasTies size att place sort number fault faultPlace lastFault lastPlace toValue toWeight toMany q.2.2.1 q.2.2.2.1 q.2.2.2.2.1 q.2.2.2.2.2.1 q.2.2.2.2.2.2.1 isCandidate q.2.2.2.2.2.2.2 fewest) q.1 := by
  refine MI.of (cc := cX6_beginnings) (maxL := 11) (by decide +kernel) rfl rfl rfl (Nat.le_of_ble_eq_true rfl) ?_
  intro p e s m args below meth c A ls Q hx hb hml hts hown hK hP hD hA hS hl hret
  have hl : lv_has ls 11 [(0, .ref (ad 0)), (1, .int x1)] := hl
  have f175 := hts (.fieldLink RX6 175 "ModeDeskModel" "many" "I") (by decide +kernel)
  have f63 := hts (.fieldLink RX6 63 "ModeDeskModel" "modes" "[I") (by decide +kernel)
  have f72 := hts (.fieldLink RX6 72 "ModeDeskModel" "thrown" "I") (by decide +kernel)
  have iX6 : ∀ w ∈ wsX60, w ∈ wsX6_beginnings := by decide +kernel
  unfold mX6_beginnings at h
  refine lv_aload_n hx hb dX6_beginnings_0 rfl (lv_at hl 0 rfl) ?_
  refine lv_iconst (v := 0) hx hb dX6_beginnings_1 (by decide) ?_
  refine va_put (D := D) (ci := 6) (v := .int 0) (ty := .int) (C := RX6) (T := TX6) (N := 42) hx hb hts iX6 tyX6 tyX6_ok nmX6 hown hK hP hD hS 0 rfl rfl 0 (Nat.le_of_ble_eq_true rfl) f72 (fun _ h9 => h9) rfl (tyX6_ok 0 (Nat.le_of_ble_eq_true rfl)) rfl rfl (Nat.le_of_ble_eq_true rfl) dX6_beginnings_2 (fun H locs hP hD hS => ?_)
  have hP : va_P D vwCl (wX6 cA ad 0 tape taped value weight many block ties lines pastValue pastWeight pastMany undos fresh newValue newWeight newMany newBlock newTies newLines hasBlock hasTies size att place sort number fault faultPlace lastFault lastPlace toValue toWeight toMany often firstOf lastOf unlikes unlikeMany isCandidate modes fewest) H := hP
  have hD : va_D A (wX6 cA ad 0 tape taped value weight many block ties lines pastValue pastWeight pastMany undos fresh newValue newWeight newMany newBlock newTies newLines hasBlock hasTies size att place sort number fault faultPlace lastFault lastPlace toValue toWeight toMany often firstOf lastOf unlikes unlikeMany isCandidate modes fewest) := hD
  refine lv_iload_n hx hb dX6_beginnings_5 rfl (lv_at hl 1 rfl) ?_
  refine lv_if_lt (tgt := 14) hx hb dX6_beginnings_6 (by decide) (fun c1 => ?_) (fun c1 => ?_)
  · have h := e_t c1 h
    refine lv_iconst (v := (-1)) hx hb dX6_beginnings_14 (by decide) ?_
    obtain rfl := e_s h
    exact hret hP hS rfl dX6_beginnings_15
  · have h := e_f c1 h
    refine lv_iload_n hx hb dX6_beginnings_9 rfl (lv_at hl 1 rfl) ?_
    refine lv_iconst (v := 3) hx hb dX6_beginnings_10 (by decide) ?_
    refine lv_icmp_le (tgt := 16) hx hb dX6_beginnings_11 (by decide) (fun c2 => ?_) (fun c2 => ?_)
    · have h := e_t c2 h
      refine lv_iconst (v := 0) hx hb dX6_beginnings_16 (by decide) ?_
      refine lv_istore_n (lv' := [(2, .int 0), (0, .ref (ad 0)), (1, .int x1)]) hx hb dX6_beginnings_17 rfl hl (by decide) rfl (fun ls hl => ?_)
      have hL18 : ∀ (n : Nat) (x1 : Int32) (x2 : Int32) (thrown : Int32) (tape : Nat → Int32) (taped : Int32) (value : Nat → Int32) (weight : Nat → Int32) (many : Int32) (block : Int32) (ties : Int32) (lines : Int32) (pastValue : Nat → Int32) (pastWeight : Nat → Int32) (pastMany : Nat → Int32) (undos : Int32) (fresh : Int32) (newValue : Nat → Int32) (newWeight : Nat → Int32) (newMany : Int32) (newBlock : Int32) (newTies : Int32) (newLines : Int32) (hasBlock : Int32) (hasTies : Int32) (size : Int32) (att : Int32) (place : Int32) (sort : Int32) (number : Int32) (fault : Int32) (faultPlace : Int32) (lastFault : Int32) (lastPlace : Int32) (toValue : Nat → Int32) (toWeight : Nat → Int32) (toMany : Int32) (often : Nat → Int32) (firstOf : Nat → Int32) (lastOf : Nat → Int32) (unlikes : Nat → Int32) (unlikeMany : Int32) (isCandidate : Nat → Int32) (modes : Nat → Int32) (fewest : Nat → Int32) (z3 : (Nat → Int32)) (ls : Array Slot) (H : Heap) (locs : List Loc), lv_has ls 11 [(0, .ref (ad 0)), (1, .int x1), (2, .int x2)] → va_P D vwCl (wX6 cA ad thrown tape taped value weight many block ties lines pastValue pastWeight pastMany undos fresh newValue newWeight newMany newBlock newTies newLines hasBlock hasTies size att place sort number fault faultPlace lastFault lastPlace toValue toWeight toMany often firstOf lastOf unlikes unlikeMany isCandidate modes fewest) H → va_D A (wX6 cA ad thrown tape taped value weight many block ties lines pastValue pastWeight pastMany undos fresh newValue newWeight newMany newBlock newTies newLines hasBlock hasTies size att place sort number fault faultPlace lastFault lastPlace toValue toWeight toMany often firstOf lastOf unlikes unlikeMany isCandidate modes fewest) → va_S A s.heap H locs → mX6_beginnings_L18  n x2 modes = some z3 → (∀ (ls : Array Slot) (H : Heap) (locs : List Loc), lv_has ls 11 [(0, .ref (ad 0)), (1, .int x1)] → va_P D vwCl (wX6 cA ad thrown tape taped value weight many block ties lines pastValue pastWeight pastMany undos fresh newValue newWeight newMany newBlock newTies newLines hasBlock hasTies size att place sort number fault faultPlace lastFault lastPlace toValue toWeight toMany often firstOf lastOf unlikes unlikeMany isCandidate z3 fewest) H → va_D A (wX6 cA ad thrown tape taped value weight many block ties lines pastValue pastWeight pastMany undos fresh newValue newWeight newMany newBlock newTies newLines hasBlock hasTies size att place sort number fault faultPlace lastFault lastPlace toValue toWeight toMany often firstOf lastOf unlikes unlikeMany isCandidate z3 fewest) → va_S A s.heap H locs → W p l e (headSpec wsX6_beginnings { frames := 3, cells := 0, slots := 0, locals := 68 }).room s m args below meth c H locs 0 0 Q (F0 m 38 ls [])) → W p l e (headSpec wsX6_beginnings { frames := 3, cells := 0, slots := 0, locals := 68 }).room s m args below meth c H locs 0 0 Q (F0 m 18 ls []) := by
        intro n
        induction n with
        | zero => intro x1 x2 thrown tape taped value weight many block ties lines pastValue pastWeight pastMany undos fresh newValue newWeight newMany newBlock newTies newLines hasBlock hasTies size att place sort number fault faultPlace lastFault lastPlace toValue toWeight toMany often firstOf lastOf unlikes unlikeMany isCandidate modes fewest z3 ls H locs hl hP hD hS h hk18; exact e_n h
        | succ n ih18 =>
          intro x1 x2 thrown tape taped value weight many block ties lines pastValue pastWeight pastMany undos fresh newValue newWeight newMany newBlock newTies newLines hasBlock hasTies size att place sort number fault faultPlace lastFault lastPlace toValue toWeight toMany often firstOf lastOf unlikes unlikeMany isCandidate modes fewest z3 ls H locs hl hP hD hS h hk18
          rw [mX6_beginnings_L18.eq_2] at h
          refine lv_iload_n hx hb dX6_beginnings_18 rfl (lv_at hl 2 rfl) ?_
          refine lv_sipush (v := 1000) hx hb dX6_beginnings_19 (by decide) ?_
          refine lv_icmp_ge (tgt := 38) hx hb dX6_beginnings_22 (by decide) (fun c4 => ?_) (fun c4 => ?_)
          · have h := e_t c4 h
            obtain rfl := e_s h
            exact hk18 _ _ _ (lv_sub hl [0, 1] rfl) hP hD hS
          · have h := e_f c4 h
            refine lv_aload_n hx hb dX6_beginnings_25 rfl (lv_at hl 0 rfl) ?_
            refine va_get (D := D) (ci := 6) (v := .ref (ad 16)) (C := RX6) (T := TX6) (N := 42) hx hb hts iX6 hown hK hP 0 rfl rfl 40 (Nat.le_of_ble_eq_true rfl) f63 (fun _ h9 => h9) rfl dX6_beginnings_26 ?_
            refine lv_iload_n hx hb dX6_beginnings_29 rfl (lv_at hl 2 rfl) ?_
            refine lv_iconst (v := 0) hx hb dX6_beginnings_30 (by decide) ?_
            obtain ⟨a5, ea5, na5, h⟩ := e_wr h
            refine xa_iast hx hb hK hP hD hS 16 rfl na5 ea5 dX6_beginnings_31 (fun H locs hP hD hS => ?_)
            have hP : va_P D vwCl (wX6 cA ad thrown tape taped value weight many block ties lines pastValue pastWeight pastMany undos fresh newValue newWeight newMany newBlock newTies newLines hasBlock hasTies size att place sort number fault faultPlace lastFault lastPlace toValue toWeight toMany often firstOf lastOf unlikes unlikeMany isCandidate a5 fewest) H := hP
            have hD : va_D A (wX6 cA ad thrown tape taped value weight many block ties lines pastValue pastWeight pastMany undos fresh newValue newWeight newMany newBlock newTies newLines hasBlock hasTies size att place sort number fault faultPlace lastFault lastPlace toValue toWeight toMany often firstOf lastOf unlikes unlikeMany isCandidate a5 fewest) := hD
            refine lv_iinc (v := (x2 + 1)) (lv' := [(2, .int (x2 + 1)), (0, .ref (ad 0)), (1, .int x1)]) hx hb dX6_beginnings_32 hl (k := 2) rfl rfl (by decide) rfl (fun ls hl => ?_)
            refine lv_goto (tgt := 18) hx hb dX6_beginnings_35 (by decide) ?_
            exact ih18 x1 (x2 + 1) thrown tape taped value weight many block ties lines pastValue pastWeight pastMany undos fresh newValue newWeight newMany newBlock newTies newLines hasBlock hasTies size att place sort number fault faultPlace lastFault lastPlace toValue toWeight toMany often firstOf lastOf unlikes unlikeMany isCandidate a5 fewest z3 _ _ _ (lv_sub hl [1, 2, 0] rfl) hP hD hS h hk18
      obtain ⟨z6, ez6, h⟩ := e_b h
      refine hL18 FU x1 0 0 tape taped value weight many block ties lines pastValue pastWeight pastMany undos fresh newValue newWeight newMany newBlock newTies newLines hasBlock hasTies size att place sort number fault faultPlace lastFault lastPlace toValue toWeight toMany often firstOf lastOf unlikes unlikeMany isCandidate modes fewest z6 _ _ _ (lv_sub hl [1, 2, 0] rfl) hP hD hS ez6 (fun ls H locs hl hP hD hS => ?_)
      refine lv_iconst (v := 0) hx hb dX6_beginnings_38 (by decide) ?_
      refine lv_istore_n (lv' := [(2, .int 0), (0, .ref (ad 0)), (1, .int x1)]) hx hb dX6_beginnings_39 rfl hl (by decide) rfl (fun ls hl => ?_)
      refine lv_bipush (v := (-2)) hx hb dX6_beginnings_40 (by decide) ?_
      refine lv_istore_n (lv' := [(3, .int (-2)), (2, .int 0), (0, .ref (ad 0)), (1, .int x1)]) hx hb dX6_beginnings_42 rfl hl (by decide) rfl (fun ls hl => ?_)
      refine lv_iconst (v := 0) hx hb dX6_beginnings_43 (by decide) ?_
      refine lv_istore (lv' := [(4, .int 0), (3, .int (-2)), (2, .int 0), (0, .ref (ad 0)), (1, .int x1)]) hx hb dX6_beginnings_44 hl (by decide) rfl (fun ls hl => ?_)
      refine lv_iconst (v := 0) hx hb dX6_beginnings_46 (by decide) ?_
      refine lv_istore (lv' := [(5, .int 0), (4, .int 0), (3, .int (-2)), (2, .int 0), (0, .ref (ad 0)), (1, .int x1)]) hx hb dX6_beginnings_47 hl (by decide) rfl (fun ls hl => ?_)
      refine lv_iconst (v := (-1)) hx hb dX6_beginnings_49 (by decide) ?_
      refine lv_istore (lv' := [(6, .int (-1)), (5, .int 0), (4, .int 0), (3, .int (-2)), (2, .int 0), (0, .ref (ad 0)), (1, .int x1)]) hx hb dX6_beginnings_50 hl (by decide) rfl (fun ls hl => ?_)
      refine lv_iconst (v := (-1)) hx hb dX6_beginnings_52 (by decide) ?_
      refine lv_istore (lv' := [(7, .int (-1)), (6, .int (-1)), (5, .int 0), (4, .int 0), (3, .int (-2)), (2, .int 0), (0, .ref (ad 0)), (1, .int x1)]) hx hb dX6_beginnings_53 hl (by decide) rfl (fun ls hl => ?_)
      refine lv_iconst (v := 0) hx hb dX6_beginnings_55 (by decide) ?_
      refine lv_istore (lv' := [(8, .int 0), (7, .int (-1)), (6, .int (-1)), (5, .int 0), (4, .int 0), (3, .int (-2)), (2, .int 0), (0, .ref (ad 0)), (1, .int x1)]) hx hb dX6_beginnings_56 hl (by decide) rfl (fun ls hl => ?_)
      have hL58 : ∀ (n : Nat) (x1 : Int32) (x2 : Int32) (x3 : Int32) (x4 : Int32) (x5 : Int32) (x6 : Int32) (x7 : Int32) (x8 : Int32) (thrown : Int32) (tape : Nat → Int32) (taped : Int32) (value : Nat → Int32) (weight : Nat → Int32) (many : Int32) (block : Int32) (ties : Int32) (lines : Int32) (pastValue : Nat → Int32) (pastWeight : Nat → Int32) (pastMany : Nat → Int32) (undos : Int32) (fresh : Int32) (newValue : Nat → Int32) (newWeight : Nat → Int32) (newMany : Int32) (newBlock : Int32) (newTies : Int32) (newLines : Int32) (hasBlock : Int32) (hasTies : Int32) (size : Int32) (att : Int32) (place : Int32) (sort : Int32) (number : Int32) (fault : Int32) (faultPlace : Int32) (lastFault : Int32) (lastPlace : Int32) (toValue : Nat → Int32) (toWeight : Nat → Int32) (toMany : Int32) (often : Nat → Int32) (firstOf : Nat → Int32) (lastOf : Nat → Int32) (unlikes : Nat → Int32) (unlikeMany : Int32) (isCandidate : Nat → Int32) (modes : Nat → Int32) (fewest : Nat → Int32) (z7 : Int32 × Int32 × Int32 × Int32 × (Nat → Int32) × (Nat → Int32) × (Nat → Int32) × (Nat → Int32) × Int32 × (Nat → Int32)) (ls : Array Slot) (H : Heap) (locs : List Loc), lv_has ls 11 [(0, .ref (ad 0)), (1, .int x1), (2, .int x2), (3, .int x3), (4, .int x4), (5, .int x5), (6, .int x6), (7, .int x7), (8, .int x8)] → va_P D vwCl (wX6 cA ad thrown tape taped value weight many block ties lines pastValue pastWeight pastMany undos fresh newValue newWeight newMany newBlock newTies newLines hasBlock hasTies size att place sort number fault faultPlace lastFault lastPlace toValue toWeight toMany often firstOf lastOf unlikes unlikeMany isCandidate modes fewest) H → va_D A (wX6 cA ad thrown tape taped value weight many block ties lines pastValue pastWeight pastMany undos fresh newValue newWeight newMany newBlock newTies newLines hasBlock hasTies size att place sort number fault faultPlace lastFault lastPlace toValue toWeight toMany often firstOf lastOf unlikes unlikeMany isCandidate modes fewest) → va_S A s.heap H locs → mX6_beginnings_L58 value many ties n x2 x3 x4 x5 x6 x7 x8 often firstOf lastOf unlikes unlikeMany modes = some z7 → (∀ (ls : Array Slot) (H : Heap) (locs : List Loc), lv_has ls 11 [(0, .ref (ad 0)), (1, .int x1), (2, .int z7.1), (3, .int z7.2.1), (4, .int z7.2.2.1), (6, .int z7.2.2.2.1)] → va_P D vwCl (wX6 cA ad thrown tape taped value weight many block ties lines pastValue pastWeight pastMany undos fresh newValue newWeight newMany newBlock newTies newLines hasBlock hasTies size att place sort number fault faultPlace lastFault lastPlace toValue toWeight toMany z7.2.2.2.2.1 z7.2.2.2.2.2.1 z7.2.2.2.2.2.2.1 z7.2.2.2.2.2.2.2.1 z7.2.2.2.2.2.2.2.2.1 isCandidate z7.2.2.2.2.2.2.2.2.2 fewest) H → va_D A (wX6 cA ad thrown tape taped value weight many block ties lines pastValue pastWeight pastMany undos fresh newValue newWeight newMany newBlock newTies newLines hasBlock hasTies size att place sort number fault faultPlace lastFault lastPlace toValue toWeight toMany z7.2.2.2.2.1 z7.2.2.2.2.2.1 z7.2.2.2.2.2.2.1 z7.2.2.2.2.2.2.2.1 z7.2.2.2.2.2.2.2.2.1 isCandidate z7.2.2.2.2.2.2.2.2.2 fewest) → va_S A s.heap H locs → W p l e (headSpec wsX6_beginnings { frames := 3, cells := 0, slots := 0, locals := 68 }).room s m args below meth c H locs 0 0 Q (F0 m 201 ls [])) → W p l e (headSpec wsX6_beginnings { frames := 3, cells := 0, slots := 0, locals := 68 }).room s m args below meth c H locs 0 0 Q (F0 m 58 ls []) := by
        intro n
        induction n with
        | zero => intro x1 x2 x3 x4 x5 x6 x7 x8 thrown tape taped value weight many block ties lines pastValue pastWeight pastMany undos fresh newValue newWeight newMany newBlock newTies newLines hasBlock hasTies size att place sort number fault faultPlace lastFault lastPlace toValue toWeight toMany often firstOf lastOf unlikes unlikeMany isCandidate modes fewest z7 ls H locs hl hP hD hS h hk58; exact e_n h
        | succ n ih58 =>
          intro x1 x2 x3 x4 x5 x6 x7 x8 thrown tape taped value weight many block ties lines pastValue pastWeight pastMany undos fresh newValue newWeight newMany newBlock newTies newLines hasBlock hasTies size att place sort number fault faultPlace lastFault lastPlace toValue toWeight toMany often firstOf lastOf unlikes unlikeMany isCandidate modes fewest z7 ls H locs hl hP hD hS h hk58
          rw [mX6_beginnings_L58.eq_2] at h
          refine lv_iload hx hb dX6_beginnings_58 (lv_at hl 8 rfl) ?_
          refine lv_aload_n hx hb dX6_beginnings_60 rfl (lv_at hl 0 rfl) ?_
          refine va_get (D := D) (ci := 6) (v := .int many) (C := RX6) (T := TX6) (N := 42) hx hb hts iX6 hown hK hP 0 rfl rfl 5 (Nat.le_of_ble_eq_true rfl) f175 (fun _ h9 => h9) rfl dX6_beginnings_61 ?_
          refine lv_icmp_ge (tgt := 201) hx hb dX6_beginnings_64 (by decide) (fun c8 => ?_) (fun c8 => ?_)
          · have h := e_t c8 h
            obtain rfl := e_s h
            exact hk58 _ _ _ (lv_sub hl [0, 1, 2, 3, 4, 6] rfl) hP hD hS
          · have h := e_f c8 h
            refine lv_aload_n hx hb dX6_beginnings_67 rfl (lv_at hl 0 rfl) ?_
            refine lv_iconst (v := 0) hx hb dX6_beginnings_68 (by decide) ?_
            refine lv_iload hx hb dX6_beginnings_69 (lv_at hl 8 rfl) ?_
            obtain ⟨q9, eq9, h⟩ := e_b h
            refine xv_i0 (As := [.int 0, .int x8]) (rest := []) (ci := 6) (b := ad 0) ⟨hx, hb, hml, hown, hts⟩ hl.1 (kX6_longer l D cA ad thrown tape taped value weight many block ties lines pastValue pastWeight pastMany undos fresh newValue newWeight newMany newBlock newTies newLines hasBlock hasTies size att place sort number fault faultPlace lastFault lastPlace toValue toWeight toMany often firstOf lastOf unlikes unlikeMany isCandidate modes fewest 0 x8  _ eq9) (cwV 2 hts gX6_beginnings_X6_longer rfl rfl rfl (by decide +kernel) ⟨Nat.le_of_ble_eq_true rfl, Nat.le_of_ble_eq_true rfl⟩) rfl hK hP hD hS hA 0 rfl rfl rfl rfl (Nat.le_of_ble_eq_true rfl) dX6_beginnings_71 ⟨Nat.zero_le _, Nat.zero_le _⟩ (fun H locs hP hD hS hnq9 => ?_)
            have hP : va_P D vwCl (wX6 cA ad thrown tape taped value weight many block ties lines pastValue pastWeight pastMany undos fresh newValue newWeight newMany newBlock newTies newLines hasBlock hasTies size att place sort number fault faultPlace lastFault lastPlace toValue toWeight toMany q9.2.1 q9.2.2.1 q9.2.2.2.1 q9.2.2.2.2.1 q9.2.2.2.2.2 isCandidate modes fewest) H := hP
            have hD : va_D A (wX6 cA ad thrown tape taped value weight many block ties lines pastValue pastWeight pastMany undos fresh newValue newWeight newMany newBlock newTies newLines hasBlock hasTies size att place sort number fault faultPlace lastFault lastPlace toValue toWeight toMany q9.2.1 q9.2.2.1 q9.2.2.2.1 q9.2.2.2.2.1 q9.2.2.2.2.2 isCandidate modes fewest) := hD
            refine lv_istore (lv' := [(9, .int q9.1), (0, .ref (ad 0)), (1, .int x1), (2, .int x2), (3, .int x3), (4, .int x4), (5, .int x5), (6, .int x6), (7, .int x7), (8, .int x8)]) hx hb dX6_beginnings_74 hl (by decide) rfl (fun ls hl => ?_)
            refine lv_iload hx hb dX6_beginnings_76 (lv_at hl 9 rfl) ?_
            obtain ⟨z10, ez10, h⟩ := e_b h
            have hJ11 : ∀ (ls : Array Slot) (H : Heap) (locs : List Loc), lv_has ls 11 [(0, .ref (ad 0)), (1, .int x1), (2, .int x2), (3, .int x3), (4, .int x4), (5, .int x5), (6, .int x6), (8, .int x8), (9, .int q9.1)] → va_P D vwCl (wX6 cA ad thrown tape taped value weight many block ties lines pastValue pastWeight pastMany undos fresh newValue newWeight newMany newBlock newTies newLines hasBlock hasTies size att place sort number fault faultPlace lastFault lastPlace toValue toWeight toMany q9.2.1 q9.2.2.1 q9.2.2.2.1 q9.2.2.2.2.1 q9.2.2.2.2.2 isCandidate modes fewest) H → va_D A (wX6 cA ad thrown tape taped value weight many block ties lines pastValue pastWeight pastMany undos fresh newValue newWeight newMany newBlock newTies newLines hasBlock hasTies size att place sort number fault faultPlace lastFault lastPlace toValue toWeight toMany q9.2.1 q9.2.2.1 q9.2.2.2.1 q9.2.2.2.2.1 q9.2.2.2.2.2 isCandidate modes fewest) → va_S A s.heap H locs → W p l e (headSpec wsX6_beginnings { frames := 3, cells := 0, slots := 0, locals := 68 }).room s m args below meth c H locs 0 0 Q (F0 m 93 ls [.int z10]) := by
              intro ls H locs hl hP hD hS
              refine lv_istore (lv' := [(10, .int z10), (0, .ref (ad 0)), (1, .int x1), (2, .int x2), (3, .int x3), (4, .int x4), (5, .int x5), (6, .int x6), (8, .int x8), (9, .int q9.1)]) hx hb dX6_beginnings_93 hl (by decide) rfl (fun ls hl => ?_)
              refine lv_iload_n hx hb dX6_beginnings_95 rfl (lv_at hl 3 rfl) ?_
              refine lv_iload hx hb dX6_beginnings_96 (lv_at hl 0 rfl) ?_
              obtain ⟨z12, ez12, h⟩ := e_b h
              have hJ13 : ∀ (ls : Array Slot) (H : Heap) (locs : List Loc), lv_has ls 11 [(0, .ref (ad 0)), (1, .int x1), (3, .int x3), (4, .int x4), (5, .int x5), (6, .int x6), (8, .int x8), (9, .int q9.1), (10, .int z10)] → va_P D vwCl (wX6 cA ad thrown tape taped value weight many block ties lines pastValue pastWeight pastMany undos fresh newValue newWeight newMany newBlock newTies newLines hasBlock hasTies size att place sort number fault faultPlace lastFault lastPlace toValue toWeight toMany q9.2.1 q9.2.2.1 q9.2.2.2.1 q9.2.2.2.2.1 q9.2.2.2.2.2 isCandidate modes fewest) H → va_D A (wX6 cA ad thrown tape taped value weight many block ties lines pastValue pastWeight pastMany undos fresh newValue newWeight newMany newBlock newTies newLines hasBlock hasTies size att place sort number fault faultPlace lastFault lastPlace toValue toWeight toMany q9.2.1 q9.2.2.1 q9.2.2.2.1 q9.2.2.2.2.1 q9.2.2.2.2.2 isCandidate modes fewest) → va_S A s.heap H locs → W p l e (headSpec wsX6_beginnings { frames := 3, cells := 0, slots := 0, locals := 68 }).room s m args below meth c H locs 0 0 Q (F0 m 106 ls [.int z12, .int x2]) := by
                intro ls H locs hl hP hD hS
                refine lv_iadd hx hb dX6_beginnings_106 ?_
                refine lv_istore_n (lv' := [(2, .int (x2 + z12)), (0, .ref (ad 0)), (1, .int x1), (3, .int x3), (4, .int x4), (5, .int x5), (6, .int x6), (8, .int x8), (9, .int q9.1), (10, .int z10)]) hx hb dX6_beginnings_107 rfl hl (by decide) rfl (fun ls hl => ?_)
                refine lv_iload hx hb dX6_beginnings_108 (lv_at hl 9 rfl) ?_
                obtain ⟨z14, ez14, h⟩ := e_b h
                have hJ15 : ∀ (ls : Array Slot) (H : Heap) (locs : List Loc), lv_has ls 11 [(0, .ref (ad 0)), (1, .int x1), (2, .int (x2 + z12)), (4, .int x4), (5, .int x5), (6, .int x6), (8, .int x8), (9, .int q9.1), (10, .int z10)] → va_P D vwCl (wX6 cA ad thrown tape taped value weight many block ties lines pastValue pastWeight pastMany undos fresh newValue newWeight newMany newBlock newTies newLines hasBlock hasTies size att place sort number fault faultPlace lastFault lastPlace toValue toWeight toMany q9.2.1 q9.2.2.1 q9.2.2.2.1 q9.2.2.2.2.1 q9.2.2.2.2.2 isCandidate modes fewest) H → va_D A (wX6 cA ad thrown tape taped value weight many block ties lines pastValue pastWeight pastMany undos fresh newValue newWeight newMany newBlock newTies newLines hasBlock hasTies size att place sort number fault faultPlace lastFault lastPlace toValue toWeight toMany q9.2.1 q9.2.2.1 q9.2.2.2.1 q9.2.2.2.2.1 q9.2.2.2.2.2 isCandidate modes fewest) → va_S A s.heap H locs → W p l e (headSpec wsX6_beginnings { frames := 3, cells := 0, slots := 0, locals := 68 }).room s m args below meth c H locs 0 0 Q (F0 m 119 ls [.int z14]) := by
                  intro ls H locs hl hP hD hS
                  refine lv_istore_n (lv' := [(3, .int z14), (0, .ref (ad 0)), (1, .int x1), (2, .int (x2 + z12)), (4, .int x4), (5, .int x5), (6, .int x6), (8, .int x8), (9, .int q9.1), (10, .int z10)]) hx hb dX6_beginnings_119 rfl hl (by decide) rfl (fun ls hl => ?_)
                  refine lv_iload hx hb dX6_beginnings_120 (lv_at hl 4 rfl) ?_
                  refine lv_aload_n hx hb dX6_beginnings_122 rfl (lv_at hl 1 rfl) ?_
                  refine va_get (D := D) (ci := 6) (v := .ref (ad 16)) (C := RX6) (T := TX6) (N := 42) hx hb hts iX6 hown hK hP 0 rfl rfl 40 (Nat.le_of_ble_eq_true rfl) f63 (fun _ h9 => h9) rfl dX6_beginnings_123 ?_
                  refine lv_iload hx hb dX6_beginnings_126 (lv_at hl 8 rfl) ?_
                  obtain ⟨v16, ev16, nv16, h⟩ := e_rd h
                  refine xa_iald hx hb hK hP 16 rfl nv16 ev16 dX6_beginnings_128 ?_
                  obtain ⟨z17, ez17, h⟩ := e_b h
                  have hJ18 : ∀ (ls : Array Slot) (H : Heap) (locs : List Loc), lv_has ls 11 [(0, .ref (ad 0)), (1, .int x1), (2, .int (x2 + z12)), (3, .int z14), (5, .int x5), (6, .int x6), (8, .int x8), (9, .int q9.1), (10, .int z10)] → va_P D vwCl (wX6 cA ad thrown tape taped value weight many block ties lines pastValue pastWeight pastMany undos fresh newValue newWeight newMany newBlock newTies newLines hasBlock hasTies size att place sort number fault faultPlace lastFault lastPlace toValue toWeight toMany q9.2.1 q9.2.2.1 q9.2.2.2.1 q9.2.2.2.2.1 q9.2.2.2.2.2 isCandidate modes fewest) H → va_D A (wX6 cA ad thrown tape taped value weight many block ties lines pastValue pastWeight pastMany undos fresh newValue newWeight newMany newBlock newTies newLines hasBlock hasTies size att place sort number fault faultPlace lastFault lastPlace toValue toWeight toMany q9.2.1 q9.2.2.1 q9.2.2.2.1 q9.2.2.2.2.1 q9.2.2.2.2.2 isCandidate modes fewest) → va_S A s.heap H locs → W p l e (headSpec wsX6_beginnings { frames := 3, cells := 0, slots := 0, locals := 68 }).room s m args below meth c H locs 0 0 Q (F0 m 137 ls [.int z17, .int x4]) := by
                    intro ls H locs hl hP hD hS
                    refine lv_iadd hx hb dX6_beginnings_137 ?_
                    refine lv_istore (lv' := [(4, .int (x4 + z17)), (0, .ref (ad 0)), (1, .int x1), (2, .int (x2 + z12)), (3, .int z14), (5, .int x5), (6, .int x6), (8, .int x8), (9, .int q9.1), (10, .int z10)]) hx hb dX6_beginnings_138 hl (by decide) rfl (fun ls hl => ?_)
                    refine lv_aload_n hx hb dX6_beginnings_140 rfl (lv_at hl 1 rfl) ?_
                    refine va_get (D := D) (ci := 6) (v := .ref (ad 16)) (C := RX6) (T := TX6) (N := 42) hx hb hts iX6 hown hK hP 0 rfl rfl 40 (Nat.le_of_ble_eq_true rfl) f63 (fun _ h9 => h9) rfl dX6_beginnings_141 ?_
                    refine lv_iload hx hb dX6_beginnings_144 (lv_at hl 8 rfl) ?_
                    refine lv_dup2_11 hx hb dX6_beginnings_146 rfl rfl ?_
                    obtain ⟨v19, ev19, nv19, h⟩ := e_rd h
                    refine xa_iald hx hb hK hP 16 rfl nv19 ev19 dX6_beginnings_147 ?_
                    refine lv_iconst (v := 1) hx hb dX6_beginnings_148 (by decide) ?_
                    refine lv_iadd hx hb dX6_beginnings_149 ?_
                    obtain ⟨a20, ea20, na20, h⟩ := e_wr h
                    refine xa_iast hx hb hK hP hD hS 16 rfl na20 ea20 dX6_beginnings_150 (fun H locs hP hD hS => ?_)
                    have hP : va_P D vwCl (wX6 cA ad thrown tape taped value weight many block ties lines pastValue pastWeight pastMany undos fresh newValue newWeight newMany newBlock newTies newLines hasBlock hasTies size att place sort number fault faultPlace lastFault lastPlace toValue toWeight toMany q9.2.1 q9.2.2.1 q9.2.2.2.1 q9.2.2.2.2.1 q9.2.2.2.2.2 isCandidate a20 fewest) H := hP
                    have hD : va_D A (wX6 cA ad thrown tape taped value weight many block ties lines pastValue pastWeight pastMany undos fresh newValue newWeight newMany newBlock newTies newLines hasBlock hasTies size att place sort number fault faultPlace lastFault lastPlace toValue toWeight toMany q9.2.1 q9.2.2.1 q9.2.2.2.1 q9.2.2.2.2.1 q9.2.2.2.2.2 isCandidate a20 fewest) := hD
                    refine lv_iload hx hb dX6_beginnings_151 (lv_at hl 9 rfl) ?_
                    obtain ⟨z21, ez21, h⟩ := e_b h
                    have hJ22 : ∀ (ls : Array Slot) (H : Heap) (locs : List Loc), lv_has ls 11 [(0, .ref (ad 0)), (1, .int x1), (2, .int (x2 + z12)), (3, .int z14), (4, .int (x4 + z17)), (6, .int x6), (8, .int x8), (9, .int q9.1)] → va_P D vwCl (wX6 cA ad thrown tape taped value weight many block ties lines pastValue pastWeight pastMany undos fresh newValue newWeight newMany newBlock newTies newLines hasBlock hasTies size att place sort number fault faultPlace lastFault lastPlace toValue toWeight toMany q9.2.1 q9.2.2.1 q9.2.2.2.1 q9.2.2.2.2.1 q9.2.2.2.2.2 isCandidate a20 fewest) H → va_D A (wX6 cA ad thrown tape taped value weight many block ties lines pastValue pastWeight pastMany undos fresh newValue newWeight newMany newBlock newTies newLines hasBlock hasTies size att place sort number fault faultPlace lastFault lastPlace toValue toWeight toMany q9.2.1 q9.2.2.1 q9.2.2.2.1 q9.2.2.2.2.1 q9.2.2.2.2.2 isCandidate a20 fewest) → va_S A s.heap H locs → W p l e (headSpec wsX6_beginnings { frames := 3, cells := 0, slots := 0, locals := 68 }).room s m args below meth c H locs 0 0 Q (F0 m 173 ls [.int z21]) := by
                      intro ls H locs hl hP hD hS
                      refine lv_istore (lv' := [(5, .int z21), (0, .ref (ad 0)), (1, .int x1), (2, .int (x2 + z12)), (3, .int z14), (4, .int (x4 + z17)), (6, .int x6), (8, .int x8), (9, .int q9.1)]) hx hb dX6_beginnings_173 hl (by decide) rfl (fun ls hl => ?_)
                      refine lv_iload hx hb dX6_beginnings_175 (lv_at hl 0 rfl) ?_
                      refine lv_iload hx hb dX6_beginnings_177 (lv_at hl 6 rfl) ?_
                      refine lv_icmp_le (tgt := 187) hx hb dX6_beginnings_179 (by decide) (fun c23 => ?_) (fun c23 => ?_)
                      · have h := e_t c23 h
                        refine lv_iload hx hb dX6_beginnings_187 (lv_at hl 6 rfl) ?_
                        refine lv_istore (lv' := [(6, .int x6), (5, .int z21), (0, .ref (ad 0)), (1, .int x1), (2, .int (x2 + z12)), (3, .int z14), (4, .int (x4 + z17)), (8, .int x8), (9, .int q9.1)]) hx hb dX6_beginnings_189 hl (by decide) rfl (fun ls hl => ?_)
                        refine lv_iload hx hb dX6_beginnings_191 (lv_at hl 8 rfl) ?_
                        refine lv_istore (lv' := [(7, .int q9.1), (6, .int x6), (5, .int z21), (0, .ref (ad 0)), (1, .int x1), (2, .int (x2 + z12)), (3, .int z14), (4, .int (x4 + z17)), (8, .int x8), (9, .int q9.1)]) hx hb dX6_beginnings_193 hl (by decide) rfl (fun ls hl => ?_)
                        refine lv_iinc (v := (x8 + 1)) (lv' := [(8, .int (x8 + 1)), (7, .int q9.1), (6, .int x6), (5, .int z21), (0, .ref (ad 0)), (1, .int x1), (2, .int (x2 + z12)), (3, .int z14), (4, .int (x4 + z17)), (9, .int q9.1)]) hx hb dX6_beginnings_195 hl (k := 8) rfl rfl (by decide) rfl (fun ls hl => ?_)
                        refine lv_goto (tgt := 58) hx hb dX6_beginnings_198 (by decide) ?_
                        exact ih58 x1 (x2 + z12) z14 (x4 + z17) z21 x6 q9.1 (x8 + 1) thrown tape taped value weight many block ties lines pastValue pastWeight pastMany undos fresh newValue newWeight newMany newBlock newTies newLines hasBlock hasTies size att place sort number fault faultPlace lastFault lastPlace toValue toWeight toMany q9.2.1 q9.2.2.1 q9.2.2.2.1 q9.2.2.2.2.1 q9.2.2.2.2.2 isCandidate a20 fewest z7 _ _ _ (lv_sub hl [4, 5, 6, 7, 8, 3, 2, 1, 0] rfl) hP hD hS h hk58
                      · have h := e_f c23 h
                        refine lv_iload hx hb dX6_beginnings_182 (lv_at hl 0 rfl) ?_
                        refine lv_goto (tgt := 189) hx hb dX6_beginnings_184 (by decide) ?_
                        refine lv_istore (lv' := [(6, .int z21), (5, .int z21), (0, .ref (ad 0)), (1, .int x1), (2, .int (x2 + z12)), (3, .int z14), (4, .int (x4 + z17)), (8, .int x8), (9, .int q9.1)]) hx hb dX6_beginnings_189 hl (by decide) rfl (fun ls hl => ?_)
                        refine lv_iload hx hb dX6_beginnings_191 (lv_at hl 8 rfl) ?_
                        refine lv_istore (lv' := [(7, .int q9.1), (6, .int z21), (5, .int z21), (0, .ref (ad 0)), (1, .int x1), (2, .int (x2 + z12)), (3, .int z14), (4, .int (x4 + z17)), (8, .int x8), (9, .int q9.1)]) hx hb dX6_beginnings_193 hl (by decide) rfl (fun ls hl => ?_)
                        refine lv_iinc (v := (x8 + 1)) (lv' := [(8, .int (x8 + 1)), (7, .int q9.1), (6, .int z21), (5, .int z21), (0, .ref (ad 0)), (1, .int x1), (2, .int (x2 + z12)), (3, .int z14), (4, .int (x4 + z17)), (9, .int q9.1)]) hx hb dX6_beginnings_195 hl (k := 8) rfl rfl (by decide) rfl (fun ls hl => ?_)
                        refine lv_goto (tgt := 58) hx hb dX6_beginnings_198 (by decide) ?_
                        exact ih58 x1 (x2 + z12) z14 (x4 + z17) z21 z21 q9.1 (x8 + 1) thrown tape taped value weight many block ties lines pastValue pastWeight pastMany undos fresh newValue newWeight newMany newBlock newTies newLines hasBlock hasTies size att place sort number fault faultPlace lastFault lastPlace toValue toWeight toMany q9.2.1 q9.2.2.1 q9.2.2.2.1 q9.2.2.2.2.1 q9.2.2.2.2.2 isCandidate a20 fewest z7 _ _ _ (lv_sub hl [4, 5, 6, 7, 8, 3, 2, 1, 0] rfl) hP hD hS h hk58
                    have h := ez21
                    refine lv_if_eq (tgt := 160) hx hb dX6_beginnings_153 (by decide) (fun c24 => ?_) (fun c24 => ?_)
                    · have h := e_t c24 h
                      refine lv_iload hx hb dX6_beginnings_160 (lv_at hl 7 rfl) ?_
                      refine lv_if_ne (tgt := 169) hx hb dX6_beginnings_162 (by decide) (fun c25 => ?_) (fun c25 => ?_)
                      · have h := e_t c25 h
                        refine lv_iload hx hb dX6_beginnings_169 (lv_at hl 5 rfl) ?_
                        refine lv_iconst (v := 1) hx hb dX6_beginnings_171 (by decide) ?_
                        refine lv_iadd hx hb dX6_beginnings_172 ?_
                        obtain rfl := e_s h
                        exact hJ22 _ _ _ (lv_sub hl [1, 2, 3, 4, 0, 6, 7, 8] rfl) hP hD hS
                      · have h := e_f (not_not_intro c25) h
                        refine lv_iconst (v := 0) hx hb dX6_beginnings_165 (by decide) ?_
                        refine lv_goto (tgt := 173) hx hb dX6_beginnings_166 (by decide) ?_
                        obtain rfl := e_s h
                        exact hJ22 _ _ _ (lv_sub hl [1, 2, 3, 4, 0, 6, 7, 8] rfl) hP hD hS
                    · have h := e_f c24 h
                      refine lv_iconst (v := 0) hx hb dX6_beginnings_156 (by decide) ?_
                      refine lv_goto (tgt := 173) hx hb dX6_beginnings_157 (by decide) ?_
                      obtain rfl := e_s h
                      exact hJ22 _ _ _ (lv_sub hl [1, 2, 3, 4, 0, 6, 7, 8] rfl) hP hD hS
                  have h := ez17
                  refine lv_if_ne (tgt := 136) hx hb dX6_beginnings_129 (by decide) (fun c26 => ?_) (fun c26 => ?_)
                  · have h := e_t c26 h
                    refine lv_iconst (v := 0) hx hb dX6_beginnings_136 (by decide) ?_
                    obtain rfl := e_s h
                    exact hJ18 _ _ _ (lv_sub hl [1, 2, 3, 0, 5, 6, 7, 8, 9] rfl) hP hD hS
                  · have h := e_f (not_not_intro c26) h
                    refine lv_iconst (v := 1) hx hb dX6_beginnings_132 (by decide) ?_
                    refine lv_goto (tgt := 137) hx hb dX6_beginnings_133 (by decide) ?_
                    obtain rfl := e_s h
                    exact hJ18 _ _ _ (lv_sub hl [1, 2, 3, 0, 5, 6, 7, 8, 9] rfl) hP hD hS
                have h := ez14
                refine lv_if_eq (tgt := 118) hx hb dX6_beginnings_110 (by decide) (fun c27 => ?_) (fun c27 => ?_)
                · have h := e_t c27 h
                  refine lv_iload_n hx hb dX6_beginnings_118 rfl (lv_at hl 3 rfl) ?_
                  obtain rfl := e_s h
                  exact hJ15 _ _ _ (lv_sub hl [1, 2, 0, 4, 5, 6, 7, 8, 9] rfl) hP hD hS
                · have h := e_f c27 h
                  refine lv_iload hx hb dX6_beginnings_113 (lv_at hl 7 rfl) ?_
                  refine lv_goto (tgt := 119) hx hb dX6_beginnings_115 (by decide) ?_
                  obtain rfl := e_s h
                  exact hJ15 _ _ _ (lv_sub hl [1, 2, 0, 4, 5, 6, 7, 8, 9] rfl) hP hD hS
              have h := ez12
              refine lv_if_eq (tgt := 105) hx hb dX6_beginnings_98 (by decide) (fun c28 => ?_) (fun c28 => ?_)
              · have h := e_t c28 h
                refine lv_iconst (v := 0) hx hb dX6_beginnings_105 (by decide) ?_
                obtain rfl := e_s h
                exact hJ13 _ _ _ (lv_sub hl [1, 2, 4, 5, 6, 7, 8, 9, 0] rfl) hP hD hS
              · have h := e_f c28 h
                refine lv_iconst (v := 1) hx hb dX6_beginnings_101 (by decide) ?_
                refine lv_goto (tgt := 106) hx hb dX6_beginnings_102 (by decide) ?_
                obtain rfl := e_s h
                exact hJ13 _ _ _ (lv_sub hl [1, 2, 4, 5, 6, 7, 8, 9, 0] rfl) hP hD hS
            have h := ez10
            refine lv_if_le (tgt := 92) hx hb dX6_beginnings_78 (by decide) (fun c29 => ?_) (fun c29 => ?_)
            · have h := e_t c29 h
              refine lv_iconst (v := 0) hx hb dX6_beginnings_92 (by decide) ?_
              obtain rfl := e_s h
              exact hJ11 _ _ _ (lv_sub hl [1, 2, 3, 4, 5, 6, 7, 9, 0] rfl) hP hD hS
            · have h := e_f c29 h
              refine lv_iload hx hb dX6_beginnings_81 (lv_at hl 0 rfl) ?_
              refine lv_iload hx hb dX6_beginnings_83 (lv_at hl 8 rfl) ?_
              refine lv_icmp_eq (tgt := 92) hx hb dX6_beginnings_85 (by decide) (fun c30 => ?_) (fun c30 => ?_)
              · have h := e_t c30 h
                refine lv_iconst (v := 0) hx hb dX6_beginnings_92 (by decide) ?_
                obtain rfl := e_s h
                exact hJ11 _ _ _ (lv_sub hl [1, 2, 3, 4, 5, 6, 7, 9, 0] rfl) hP hD hS
              · have h := e_f c30 h
                refine lv_iconst (v := 1) hx hb dX6_beginnings_88 (by decide) ?_
                refine lv_goto (tgt := 93) hx hb dX6_beginnings_89 (by decide) ?_
                obtain rfl := e_s h
                exact hJ11 _ _ _ (lv_sub hl [1, 2, 3, 4, 5, 6, 7, 9, 0] rfl) hP hD hS
      obtain ⟨z31, ez31, h⟩ := e_b h
      refine hL58 FU x1 0 (-2) 0 0 (-1) (-1) 0 0 tape taped value weight many block ties lines pastValue pastWeight pastMany undos fresh newValue newWeight newMany newBlock newTies newLines hasBlock hasTies size att place sort number fault faultPlace lastFault lastPlace toValue toWeight toMany often firstOf lastOf unlikes unlikeMany isCandidate z6 fewest z31 _ _ _ (lv_sub hl [7, 8, 6, 5, 4, 3, 2, 1, 0] rfl) hP hD hS ez31 (fun ls H locs hl hP hD hS => ?_)
      refine lv_iload_n hx hb dX6_beginnings_201 rfl (lv_at hl 1 rfl) ?_
      refine lv_if_ne (tgt := 209) hx hb dX6_beginnings_202 (by decide) (fun c32 => ?_) (fun c32 => ?_)
      · have h := e_t c32 h
        refine lv_iload_n hx hb dX6_beginnings_209 rfl (lv_at hl 1 rfl) ?_
        refine lv_iconst (v := 1) hx hb dX6_beginnings_210 (by decide) ?_
        refine lv_icmp_ne (tgt := 218) hx hb dX6_beginnings_211 (by decide) (fun c33 => ?_) (fun c33 => ?_)
        · have h := e_t c33 h
          refine lv_iload_n hx hb dX6_beginnings_218 rfl (lv_at hl 1 rfl) ?_
          refine lv_iconst (v := 2) hx hb dX6_beginnings_219 (by decide) ?_
          refine lv_icmp_ne (tgt := 228) hx hb dX6_beginnings_220 (by decide) (fun c34 => ?_) (fun c34 => ?_)
          · have h := e_t c34 h
            refine lv_aload_n hx hb dX6_beginnings_228 rfl (lv_at hl 0 rfl) ?_
            refine va_get (D := D) (ci := 6) (v := .int many) (C := RX6) (T := TX6) (N := 42) hx hb hts iX6 hown hK hP 0 rfl rfl 5 (Nat.le_of_ble_eq_true rfl) f175 (fun _ h9 => h9) rfl dX6_beginnings_229 ?_
            refine lv_if_ne (tgt := 240) hx hb dX6_beginnings_232 (by decide) (fun c35 => ?_) (fun c35 => ?_)
            · have h := e_t c35 h
              refine lv_iload hx hb dX6_beginnings_240 (lv_at hl 5 rfl) ?_
              obtain rfl := e_s h
              exact hret hP hS rfl dX6_beginnings_242
            · have h := e_f (not_not_intro c35) h
              refine lv_bipush (v := (-2)) hx hb dX6_beginnings_235 (by decide) ?_
              refine lv_goto (tgt := 242) hx hb dX6_beginnings_237 (by decide) ?_
              obtain rfl := e_s h
              exact hret hP hS rfl dX6_beginnings_242
          · have h := e_f (not_not_intro c34) h
            refine lv_iload hx hb dX6_beginnings_223 (lv_at hl 4 rfl) ?_
            refine lv_goto (tgt := 242) hx hb dX6_beginnings_225 (by decide) ?_
            obtain rfl := e_s h
            exact hret hP hS rfl dX6_beginnings_242
        · have h := e_f (not_not_intro c33) h
          refine lv_iload_n hx hb dX6_beginnings_214 rfl (lv_at hl 3 rfl) ?_
          refine lv_goto (tgt := 242) hx hb dX6_beginnings_215 (by decide) ?_
          obtain rfl := e_s h
          exact hret hP hS rfl dX6_beginnings_242
      · have h := e_f (not_not_intro c32) h
        refine lv_iload_n hx hb dX6_beginnings_205 rfl (lv_at hl 2 rfl) ?_
        refine lv_goto (tgt := 242) hx hb dX6_beginnings_206 (by decide) ?_
        obtain rfl := e_s h
        exact hret hP hS rfl dX6_beginnings_242
    · have h := e_f c2 h
      refine lv_iconst (v := (-1)) hx hb dX6_beginnings_14 (by decide) ?_
      obtain rfl := e_s h
      exact hret hP hS rfl dX6_beginnings_15
set_option maxHeartbeats 4000000 in
set_option maxRecDepth 100000 in
theorem kX6_since (l : Launch) (D : va_G) (cA : Nat → ClassId) (ad : Nat → Nat) (thrown : Int32) (tape : Nat → Int32) (taped : Int32) (value : Nat → Int32) (weight : Nat → Int32) (many : Int32) (block : Int32) (ties : Int32) (lines : Int32) (pastValue : Nat → Int32) (pastWeight : Nat → Int32) (pastMany : Nat → Int32) (undos : Int32) (fresh : Int32) (newValue : Nat → Int32) (newWeight : Nat → Int32) (newMany : Int32) (newBlock : Int32) (newTies : Int32) (newLines : Int32) (hasBlock : Int32) (hasTies : Int32) (size : Int32) (att : Int32) (place : Int32) (sort : Int32) (number : Int32) (fault : Int32) (faultPlace : Int32) (lastFault : Int32) (lastPlace : Int32) (toValue : Nat → Int32) (toWeight : Nat → Int32) (toMany : Int32) (often : Nat → Int32) (firstOf : Nat → Int32) (lastOf : Nat → Int32) (unlikes : Nat → Int32) (unlikeMany : Int32) (isCandidate : Nat → Int32) (modes : Nat → Int32) (fewest : Nat → Int32) (x1 : Int32) (q : Int32 × Int32) (h : mX6_since thrown value many pastValue pastMany undos x1 = some q) : MI l yX6_since wsX6_since { frames := 1, cells := 0, slots := 0, locals := 21 } D cA .int [.ref (ad 0), .int x1] (wX6 cA ad thrown tape taped value weight many block ties lines pastValue pastWeight pastMany undos fresh newValue newWeight newMany newBlock newTies newLines hasBlock hasTies size att place sort number fault faultPlace lastFault lastPlace toValue toWeight toMany often firstOf lastOf unlikes unlikeMany isCandidate modes fewest) (wX6 cA ad q.2 tape taped value weight many block ties lines pastValue pastWeight pastMany undos fresh newValue newWeight newMany newBlock newTies newLines hasBlock hasTies size att place sort number fault faultPlace lastFault lastPlace toValue toWeight toMany often firstOf lastOf unlikes unlikeMany isCandidate modes fewest) q.1 := by
  refine MI.of (cc := cX6_since) (maxL := 4) (by decide +kernel) rfl rfl rfl (Nat.le_of_ble_eq_true rfl) ?_
  intro p e s m args below meth c A ls Q hx hb hml hts hown hK hP hD hA hS hl hret
  have hl : lv_has ls 4 [(0, .ref (ad 0)), (1, .int x1)] := hl
  have f13 := hts (.fieldLink RX6 13 "ModeDeskModel" "value" "[I") (by decide +kernel)
  have f184 := hts (.fieldLink RX6 184 "ModeDeskModel" "undos" "I") (by decide +kernel)
  have f19 := hts (.fieldLink RX6 19 "ModeDeskModel" "pastValue" "[I") (by decide +kernel)
  have f25 := hts (.fieldLink RX6 25 "ModeDeskModel" "pastMany" "[I") (by decide +kernel)
  have f72 := hts (.fieldLink RX6 72 "ModeDeskModel" "thrown" "I") (by decide +kernel)
  have iX6 : ∀ w ∈ wsX60, w ∈ wsX6_since := by decide +kernel
  unfold mX6_since at h
  refine lv_aload_n hx hb dX6_since_0 rfl (lv_at hl 0 rfl) ?_
  refine lv_iconst (v := 0) hx hb dX6_since_1 (by decide) ?_
  refine va_put (D := D) (ci := 6) (v := .int 0) (ty := .int) (C := RX6) (T := TX6) (N := 42) hx hb hts iX6 tyX6 tyX6_ok nmX6 hown hK hP hD hS 0 rfl rfl 0 (Nat.le_of_ble_eq_true rfl) f72 (fun _ h9 => h9) rfl (tyX6_ok 0 (Nat.le_of_ble_eq_true rfl)) rfl rfl (Nat.le_of_ble_eq_true rfl) dX6_since_2 (fun H locs hP hD hS => ?_)
  have hP : va_P D vwCl (wX6 cA ad 0 tape taped value weight many block ties lines pastValue pastWeight pastMany undos fresh newValue newWeight newMany newBlock newTies newLines hasBlock hasTies size att place sort number fault faultPlace lastFault lastPlace toValue toWeight toMany often firstOf lastOf unlikes unlikeMany isCandidate modes fewest) H := hP
  have hD : va_D A (wX6 cA ad 0 tape taped value weight many block ties lines pastValue pastWeight pastMany undos fresh newValue newWeight newMany newBlock newTies newLines hasBlock hasTies size att place sort number fault faultPlace lastFault lastPlace toValue toWeight toMany often firstOf lastOf unlikes unlikeMany isCandidate modes fewest) := hD
  refine lv_aload_n hx hb dX6_since_5 rfl (lv_at hl 0 rfl) ?_
  refine lv_iload_n hx hb dX6_since_6 rfl (lv_at hl 1 rfl) ?_
  obtain ⟨q1, eq1, h⟩ := e_b h
  refine xv_i0 (As := [.int x1]) (rest := []) (ci := 6) (b := ad 0) ⟨hx, hb, hml, hown, hts⟩ hl.1 (kX6_isPlace l D cA ad 0 tape taped value weight many block ties lines pastValue pastWeight pastMany undos fresh newValue newWeight newMany newBlock newTies newLines hasBlock hasTies size att place sort number fault faultPlace lastFault lastPlace toValue toWeight toMany often firstOf lastOf unlikes unlikeMany isCandidate modes fewest x1  _ eq1) (cwV 1 hts gX6_since_X6_isPlace rfl rfl rfl (by decide +kernel) ⟨Nat.le_of_ble_eq_true rfl, Nat.le_of_ble_eq_true rfl⟩) rfl hK hP hD hS hA 0 rfl rfl rfl rfl (Nat.le_of_ble_eq_true rfl) dX6_since_7 ⟨Nat.zero_le _, Nat.zero_le _⟩ (fun H locs hP hD hS hnq1 => ?_)
  have hP : va_P D vwCl (wX6 cA ad 0 tape taped value weight many block ties lines pastValue pastWeight pastMany undos fresh newValue newWeight newMany newBlock newTies newLines hasBlock hasTies size att place sort number fault faultPlace lastFault lastPlace toValue toWeight toMany often firstOf lastOf unlikes unlikeMany isCandidate modes fewest) H := hP
  have hD : va_D A (wX6 cA ad 0 tape taped value weight many block ties lines pastValue pastWeight pastMany undos fresh newValue newWeight newMany newBlock newTies newLines hasBlock hasTies size att place sort number fault faultPlace lastFault lastPlace toValue toWeight toMany often firstOf lastOf unlikes unlikeMany isCandidate modes fewest) := hD
  refine lv_if_ne (tgt := 15) hx hb dX6_since_10 (by decide) (fun c2 => ?_) (fun c2 => ?_)
  · have h := e_t c2 h
    refine lv_iconst (v := 1) hx hb dX6_since_15 (by decide) ?_
    refine lv_istore_n (lv' := [(2, .int 1), (0, .ref (ad 0)), (1, .int x1)]) hx hb dX6_since_16 rfl hl (by decide) rfl (fun ls hl => ?_)
    have hL17 : ∀ (n : Nat) (x1 : Int32) (x2 : Int32) (ls : Array Slot) (H : Heap) (locs : List Loc), lv_has ls 4 [(0, .ref (ad 0)), (1, .int x1), (2, .int x2)] → va_P D vwCl (wX6 cA ad 0 tape taped value weight many block ties lines pastValue pastWeight pastMany undos fresh newValue newWeight newMany newBlock newTies newLines hasBlock hasTies size att place sort number fault faultPlace lastFault lastPlace toValue toWeight toMany often firstOf lastOf unlikes unlikeMany isCandidate modes fewest) H → va_D A (wX6 cA ad 0 tape taped value weight many block ties lines pastValue pastWeight pastMany undos fresh newValue newWeight newMany newBlock newTies newLines hasBlock hasTies size att place sort number fault faultPlace lastFault lastPlace toValue toWeight toMany often firstOf lastOf unlikes unlikeMany isCandidate modes fewest) → va_S A s.heap H locs → mX6_since_L17 0 value pastValue pastMany undos x1 n x2 = some q → W p l e (headSpec wsX6_since { frames := 1, cells := 0, slots := 0, locals := 21 }).room s m args below meth c H locs 0 0 Q (F0 m 17 ls []) := by
      intro n
      induction n with
      | zero => intro x1 x2 ls H locs hl hP hD hS h; exact e_n h
      | succ n ih17 =>
        intro x1 x2 ls H locs hl hP hD hS h
        rw [mX6_since_L17.eq_2] at h
        refine lv_iload_n hx hb dX6_since_17 rfl (lv_at hl 2 rfl) ?_
        refine lv_aload_n hx hb dX6_since_18 rfl (lv_at hl 0 rfl) ?_
        refine va_get (D := D) (ci := 6) (v := .int undos) (C := RX6) (T := TX6) (N := 42) hx hb hts iX6 hown hK hP 0 rfl rfl 12 (Nat.le_of_ble_eq_true rfl) f184 (fun _ h9 => h9) rfl dX6_since_19 ?_
        refine lv_icmp_gt (tgt := 72) hx hb dX6_since_22 (by decide) (fun c4 => ?_) (fun c4 => ?_)
        · have h := e_t c4 h
          refine lv_bipush (v := (-2)) hx hb dX6_since_72 (by decide) ?_
          obtain rfl := e_s h
          exact hret hP hS rfl dX6_since_74
        · have h := e_f c4 h
          refine lv_aload_n hx hb dX6_since_25 rfl (lv_at hl 0 rfl) ?_
          refine va_get (D := D) (ci := 6) (v := .int undos) (C := RX6) (T := TX6) (N := 42) hx hb hts iX6 hown hK hP 0 rfl rfl 12 (Nat.le_of_ble_eq_true rfl) f184 (fun _ h9 => h9) rfl dX6_since_26 ?_
          refine lv_iload_n hx hb dX6_since_29 rfl (lv_at hl 2 rfl) ?_
          refine lv_isub hx hb dX6_since_30 ?_
          refine lv_istore_n (lv' := [(3, .int (undos - x2)), (0, .ref (ad 0)), (1, .int x1), (2, .int x2)]) hx hb dX6_since_31 rfl hl (by decide) rfl (fun ls hl => ?_)
          refine lv_iload_n hx hb dX6_since_32 rfl (lv_at hl 2 rfl) ?_
          refine lv_aload_n hx hb dX6_since_33 rfl (lv_at hl 1 rfl) ?_
          refine va_get (D := D) (ci := 6) (v := .ref (ad 6)) (C := RX6) (T := TX6) (N := 42) hx hb hts iX6 hown hK hP 0 rfl rfl 11 (Nat.le_of_ble_eq_true rfl) f25 (fun _ h9 => h9) rfl dX6_since_34 ?_
          refine lv_iload_n hx hb dX6_since_37 rfl (lv_at hl 0 rfl) ?_
          obtain ⟨v5, ev5, nv5, h⟩ := e_rd h
          refine xa_iald hx hb hK hP 6 rfl nv5 ev5 dX6_since_38 ?_
          refine lv_icmp_ge (tgt := 62) hx hb dX6_since_39 (by decide) (fun c6 => ?_) (fun c6 => ?_)
          · have h := e_t c6 h
            refine lv_iload_n hx hb dX6_since_62 rfl (lv_at hl 3 rfl) ?_
            refine lv_iconst (v := 1) hx hb dX6_since_63 (by decide) ?_
            refine lv_isub hx hb dX6_since_64 ?_
            obtain rfl := e_s h
            exact hret hP hS rfl dX6_since_65
          · have h := e_f c6 h
            refine lv_aload_n hx hb dX6_since_42 rfl (lv_at hl 1 rfl) ?_
            refine va_get (D := D) (ci := 6) (v := .ref (ad 4)) (C := RX6) (T := TX6) (N := 42) hx hb hts iX6 hown hK hP 0 rfl rfl 9 (Nat.le_of_ble_eq_true rfl) f19 (fun _ h9 => h9) rfl dX6_since_43 ?_
            refine lv_bipush (v := 120) hx hb dX6_since_46 (by decide) ?_
            refine lv_iload_n hx hb dX6_since_48 rfl (lv_at hl 0 rfl) ?_
            refine lv_imul hx hb dX6_since_49 ?_
            refine lv_iload_n hx hb dX6_since_50 rfl (lv_at hl 2 rfl) ?_
            refine lv_iadd hx hb dX6_since_51 ?_
            obtain ⟨v7, ev7, nv7, h⟩ := e_rd h
            refine xa_iald hx hb hK hP 4 rfl nv7 ev7 dX6_since_52 ?_
            refine lv_aload_n hx hb dX6_since_53 rfl (lv_at hl 1 rfl) ?_
            refine va_get (D := D) (ci := 6) (v := .ref (ad 2)) (C := RX6) (T := TX6) (N := 42) hx hb hts iX6 hown hK hP 0 rfl rfl 3 (Nat.le_of_ble_eq_true rfl) f13 (fun _ h9 => h9) rfl dX6_since_54 ?_
            refine lv_iload_n hx hb dX6_since_57 rfl (lv_at hl 2 rfl) ?_
            obtain ⟨v8, ev8, nv8, h⟩ := e_rd h
            refine xa_iald hx hb hK hP 2 rfl nv8 ev8 dX6_since_58 ?_
            refine lv_icmp_eq (tgt := 66) hx hb dX6_since_59 (by decide) (fun c9 => ?_) (fun c9 => ?_)
            · have h := e_t c9 h
              refine lv_iinc (v := (x2 + 1)) (lv' := [(2, .int (x2 + 1)), (3, .int (undos - x2)), (0, .ref (ad 0)), (1, .int x1)]) hx hb dX6_since_66 hl (k := 3) rfl rfl (by decide) rfl (fun ls hl => ?_)
              refine lv_goto (tgt := 17) hx hb dX6_since_69 (by decide) ?_
              exact ih17 x1 (x2 + 1) _ _ _ (lv_sub hl [2, 3, 0] rfl) hP hD hS h
            · have h := e_f c9 h
              refine lv_iload_n hx hb dX6_since_62 rfl (lv_at hl 3 rfl) ?_
              refine lv_iconst (v := 1) hx hb dX6_since_63 (by decide) ?_
              refine lv_isub hx hb dX6_since_64 ?_
              obtain rfl := e_s h
              exact hret hP hS rfl dX6_since_65
    exact hL17 FU x1 1 _ _ _ (lv_sub hl [1, 2, 0] rfl) hP hD hS h
  · have h := e_f (not_not_intro c2) h
    refine lv_iconst (v := (-1)) hx hb dX6_since_13 (by decide) ?_
    obtain rfl := e_s h
    exact hret hP hS rfl dX6_since_14
set_option maxHeartbeats 4000000 in
set_option maxRecDepth 100000 in
theorem kX6_ifSet (l : Launch) (D : va_G) (cA : Nat → ClassId) (ad : Nat → Nat) (thrown : Int32) (tape : Nat → Int32) (taped : Int32) (value : Nat → Int32) (weight : Nat → Int32) (many : Int32) (block : Int32) (ties : Int32) (lines : Int32) (pastValue : Nat → Int32) (pastWeight : Nat → Int32) (pastMany : Nat → Int32) (undos : Int32) (fresh : Int32) (newValue : Nat → Int32) (newWeight : Nat → Int32) (newMany : Int32) (newBlock : Int32) (newTies : Int32) (newLines : Int32) (hasBlock : Int32) (hasTies : Int32) (size : Int32) (att : Int32) (place : Int32) (sort : Int32) (number : Int32) (fault : Int32) (faultPlace : Int32) (lastFault : Int32) (lastPlace : Int32) (toValue : Nat → Int32) (toWeight : Nat → Int32) (toMany : Int32) (often : Nat → Int32) (firstOf : Nat → Int32) (lastOf : Nat → Int32) (unlikes : Nat → Int32) (unlikeMany : Int32) (isCandidate : Nat → Int32) (modes : Nat → Int32) (fewest : Nat → Int32) (x1 : Int32) (x2 : Int32) (x3 : Int32) (x4 : Int32) (q : Int32 × Int32 × (Nat → Int32) × (Nat → Int32) × (Nat → Int32) × (Nat → Int32) × (Nat → Int32) × Int32) (h : mX6_ifSet thrown value many ties often firstOf lastOf unlikes unlikeMany x1 x2 x3 x4 = some q) : MI l yX6_ifSet wsX6_ifSet { frames := 3, cells := 0, slots := 0, locals := 68 } D cA .int [.ref (ad 0), .int x1, .int x2, .int x3, .int x4] (wX6 cA ad thrown tape taped value weight many block ties lines pastValue pastWeight pastMany undos fresh newValue newWeight newMany newBlock newTies newLines hasBlock hasTies size att place sort number fault faultPlace lastFault lastPlace toValue toWeight toMany often firstOf lastOf unlikes unlikeMany isCandidate modes fewest) (wX6 cA ad q.2.1 tape taped q.2.2.1 weight many block ties lines pastValue pastWeight pastMany undos fresh newValue newWeight newMany newBlock newTies newLines hasBlock hasTies size att place sort number fault faultPlace lastFault lastPlace toValue toWeight toMany q.2.2.2.1 q.2.2.2.2.1 q.2.2.2.2.2.1 q.2.2.2.2.2.2.1 q.2.2.2.2.2.2.2 isCandidate modes fewest) q.1 := by
  refine MI.of (cc := cX6_ifSet) (maxL := 7) (by decide +kernel) rfl rfl rfl (Nat.le_of_ble_eq_true rfl) ?_
  intro p e s m args below meth c A ls Q hx hb hml hts hown hK hP hD hA hS hl hret
  have hl : lv_has ls 7 [(0, .ref (ad 0)), (1, .int x1), (2, .int x2), (3, .int x3), (4, .int x4)] := hl
  have f13 := hts (.fieldLink RX6 13 "ModeDeskModel" "value" "[I") (by decide +kernel)
  have f72 := hts (.fieldLink RX6 72 "ModeDeskModel" "thrown" "I") (by decide +kernel)
  have iX6 : ∀ w ∈ wsX60, w ∈ wsX6_ifSet := by decide +kernel
  unfold mX6_ifSet at h
  refine lv_aload_n hx hb dX6_ifSet_0 rfl (lv_at hl 0 rfl) ?_
  refine lv_iconst (v := 0) hx hb dX6_ifSet_1 (by decide) ?_
  refine va_put (D := D) (ci := 6) (v := .int 0) (ty := .int) (C := RX6) (T := TX6) (N := 42) hx hb hts iX6 tyX6 tyX6_ok nmX6 hown hK hP hD hS 0 rfl rfl 0 (Nat.le_of_ble_eq_true rfl) f72 (fun _ h9 => h9) rfl (tyX6_ok 0 (Nat.le_of_ble_eq_true rfl)) rfl rfl (Nat.le_of_ble_eq_true rfl) dX6_ifSet_2 (fun H locs hP hD hS => ?_)
  have hP : va_P D vwCl (wX6 cA ad 0 tape taped value weight many block ties lines pastValue pastWeight pastMany undos fresh newValue newWeight newMany newBlock newTies newLines hasBlock hasTies size att place sort number fault faultPlace lastFault lastPlace toValue toWeight toMany often firstOf lastOf unlikes unlikeMany isCandidate modes fewest) H := hP
  have hD : va_D A (wX6 cA ad 0 tape taped value weight many block ties lines pastValue pastWeight pastMany undos fresh newValue newWeight newMany newBlock newTies newLines hasBlock hasTies size att place sort number fault faultPlace lastFault lastPlace toValue toWeight toMany often firstOf lastOf unlikes unlikeMany isCandidate modes fewest) := hD
  refine lv_aload_n hx hb dX6_ifSet_5 rfl (lv_at hl 0 rfl) ?_
  refine lv_iload_n hx hb dX6_ifSet_6 rfl (lv_at hl 1 rfl) ?_
  obtain ⟨q1, eq1, h⟩ := e_b h
  refine xv_i0 (As := [.int x1]) (rest := []) (ci := 6) (b := ad 0) ⟨hx, hb, hml, hown, hts⟩ hl.1 (kX6_isPlace l D cA ad 0 tape taped value weight many block ties lines pastValue pastWeight pastMany undos fresh newValue newWeight newMany newBlock newTies newLines hasBlock hasTies size att place sort number fault faultPlace lastFault lastPlace toValue toWeight toMany often firstOf lastOf unlikes unlikeMany isCandidate modes fewest x1  _ eq1) (cwV 1 hts gX6_ifSet_X6_isPlace rfl rfl rfl (by decide +kernel) ⟨Nat.le_of_ble_eq_true rfl, Nat.le_of_ble_eq_true rfl⟩) rfl hK hP hD hS hA 0 rfl rfl rfl rfl (Nat.le_of_ble_eq_true rfl) dX6_ifSet_7 ⟨Nat.zero_le _, Nat.zero_le _⟩ (fun H locs hP hD hS hnq1 => ?_)
  have hP : va_P D vwCl (wX6 cA ad 0 tape taped value weight many block ties lines pastValue pastWeight pastMany undos fresh newValue newWeight newMany newBlock newTies newLines hasBlock hasTies size att place sort number fault faultPlace lastFault lastPlace toValue toWeight toMany often firstOf lastOf unlikes unlikeMany isCandidate modes fewest) H := hP
  have hD : va_D A (wX6 cA ad 0 tape taped value weight many block ties lines pastValue pastWeight pastMany undos fresh newValue newWeight newMany newBlock newTies newLines hasBlock hasTies size att place sort number fault faultPlace lastFault lastPlace toValue toWeight toMany often firstOf lastOf unlikes unlikeMany isCandidate modes fewest) := hD
  refine lv_if_eq (tgt := 30) hx hb dX6_ifSet_10 (by decide) (fun c2 => ?_) (fun c2 => ?_)
  · have h := e_t c2 h
    refine lv_iconst (v := (-1)) hx hb dX6_ifSet_30 (by decide) ?_
    obtain rfl := e_s h
    exact hret hP hS rfl dX6_ifSet_31
  · have h := e_f c2 h
    refine lv_iload_n hx hb dX6_ifSet_13 rfl (lv_at hl 2 rfl) ?_
    obtain ⟨q3, eq3, h⟩ := e_b h
    refine xs_i (As := [.int x2]) (rest := []) ⟨hx, hb, hml, hown, hts⟩ hl.1 (kX6_isValue l D cA   x2  _ eq3) (va_cwS 1 hts gX6_ifSet_X6_isValue rfl rfl rfl (by decide +kernel) ⟨Nat.le_of_ble_eq_true rfl, Nat.le_of_ble_eq_true rfl⟩) rfl hK hP hD hS hA [] rfl (by decide +kernel) rfl (Nat.le_of_ble_eq_true rfl) dX6_ifSet_14 ⟨Nat.zero_le _, Nat.zero_le _⟩ (fun H locs hP hD hS hnq3 => ?_)
    have hP : va_P D vwCl (wX6 cA ad 0 tape taped value weight many block ties lines pastValue pastWeight pastMany undos fresh newValue newWeight newMany newBlock newTies newLines hasBlock hasTies size att place sort number fault faultPlace lastFault lastPlace toValue toWeight toMany often firstOf lastOf unlikes unlikeMany isCandidate modes fewest) H := hP
    have hD : va_D A (wX6 cA ad 0 tape taped value weight many block ties lines pastValue pastWeight pastMany undos fresh newValue newWeight newMany newBlock newTies newLines hasBlock hasTies size att place sort number fault faultPlace lastFault lastPlace toValue toWeight toMany often firstOf lastOf unlikes unlikeMany isCandidate modes fewest) := hD
    refine lv_if_eq (tgt := 30) hx hb dX6_ifSet_17 (by decide) (fun c4 => ?_) (fun c4 => ?_)
    · have h := e_t c4 h
      refine lv_iconst (v := (-1)) hx hb dX6_ifSet_30 (by decide) ?_
      obtain rfl := e_s h
      exact hret hP hS rfl dX6_ifSet_31
    · have h := e_f c4 h
      refine lv_aload_n hx hb dX6_ifSet_20 rfl (lv_at hl 0 rfl) ?_
      refine lv_iload_n hx hb dX6_ifSet_21 rfl (lv_at hl 3 rfl) ?_
      refine lv_iload hx hb dX6_ifSet_22 (lv_at hl 4 rfl) ?_
      obtain ⟨q5, eq5, h⟩ := e_b h
      refine xv_i0 (As := [.int x3, .int x4]) (rest := []) (ci := 6) (b := ad 0) ⟨hx, hb, hml, hown, hts⟩ hl.1 (kX6_isSpan l D cA ad 0 tape taped value weight many block ties lines pastValue pastWeight pastMany undos fresh newValue newWeight newMany newBlock newTies newLines hasBlock hasTies size att place sort number fault faultPlace lastFault lastPlace toValue toWeight toMany often firstOf lastOf unlikes unlikeMany isCandidate modes fewest x3 x4  _ eq5) (cwV 2 hts gX6_ifSet_X6_isSpan rfl rfl rfl (by decide +kernel) ⟨Nat.le_of_ble_eq_true rfl, Nat.le_of_ble_eq_true rfl⟩) rfl hK hP hD hS hA 0 rfl rfl rfl rfl (Nat.le_of_ble_eq_true rfl) dX6_ifSet_24 ⟨Nat.zero_le _, Nat.zero_le _⟩ (fun H locs hP hD hS hnq5 => ?_)
      have hP : va_P D vwCl (wX6 cA ad 0 tape taped value weight many block ties lines pastValue pastWeight pastMany undos fresh newValue newWeight newMany newBlock newTies newLines hasBlock hasTies size att place sort number fault faultPlace lastFault lastPlace toValue toWeight toMany often firstOf lastOf unlikes unlikeMany isCandidate modes fewest) H := hP
      have hD : va_D A (wX6 cA ad 0 tape taped value weight many block ties lines pastValue pastWeight pastMany undos fresh newValue newWeight newMany newBlock newTies newLines hasBlock hasTies size att place sort number fault faultPlace lastFault lastPlace toValue toWeight toMany often firstOf lastOf unlikes unlikeMany isCandidate modes fewest) := hD
      refine lv_if_ne (tgt := 32) hx hb dX6_ifSet_27 (by decide) (fun c6 => ?_) (fun c6 => ?_)
      · have h := e_t c6 h
        refine lv_aload_n hx hb dX6_ifSet_32 rfl (lv_at hl 0 rfl) ?_
        refine va_get (D := D) (ci := 6) (v := .ref (ad 2)) (C := RX6) (T := TX6) (N := 42) hx hb hts iX6 hown hK hP 0 rfl rfl 3 (Nat.le_of_ble_eq_true rfl) f13 (fun _ h9 => h9) rfl dX6_ifSet_33 ?_
        refine lv_iload_n hx hb dX6_ifSet_36 rfl (lv_at hl 1 rfl) ?_
        obtain ⟨v7, ev7, nv7, h⟩ := e_rd h
        refine xa_iald hx hb hK hP 2 rfl nv7 ev7 dX6_ifSet_37 ?_
        refine lv_istore (lv' := [(5, .int v7), (0, .ref (ad 0)), (1, .int x1), (2, .int x2), (3, .int x3), (4, .int x4)]) hx hb dX6_ifSet_38 hl (by decide) rfl (fun ls hl => ?_)
        refine lv_aload_n hx hb dX6_ifSet_40 rfl (lv_at hl 1 rfl) ?_
        refine va_get (D := D) (ci := 6) (v := .ref (ad 2)) (C := RX6) (T := TX6) (N := 42) hx hb hts iX6 hown hK hP 0 rfl rfl 3 (Nat.le_of_ble_eq_true rfl) f13 (fun _ h9 => h9) rfl dX6_ifSet_41 ?_
        refine lv_iload_n hx hb dX6_ifSet_44 rfl (lv_at hl 2 rfl) ?_
        refine lv_iload_n hx hb dX6_ifSet_45 rfl (lv_at hl 3 rfl) ?_
        obtain ⟨a8, ea8, na8, h⟩ := e_wr h
        refine xa_iast hx hb hK hP hD hS 2 rfl na8 ea8 dX6_ifSet_46 (fun H locs hP hD hS => ?_)
        have hP : va_P D vwCl (wX6 cA ad 0 tape taped a8 weight many block ties lines pastValue pastWeight pastMany undos fresh newValue newWeight newMany newBlock newTies newLines hasBlock hasTies size att place sort number fault faultPlace lastFault lastPlace toValue toWeight toMany often firstOf lastOf unlikes unlikeMany isCandidate modes fewest) H := hP
        have hD : va_D A (wX6 cA ad 0 tape taped a8 weight many block ties lines pastValue pastWeight pastMany undos fresh newValue newWeight newMany newBlock newTies newLines hasBlock hasTies size att place sort number fault faultPlace lastFault lastPlace toValue toWeight toMany often firstOf lastOf unlikes unlikeMany isCandidate modes fewest) := hD
        refine lv_aload_n hx hb dX6_ifSet_47 rfl (lv_at hl 1 rfl) ?_
        refine lv_iload_n hx hb dX6_ifSet_48 rfl (lv_at hl 4 rfl) ?_
        refine lv_iload hx hb dX6_ifSet_49 (lv_at hl 5 rfl) ?_
        obtain ⟨q9, eq9, h⟩ := e_b h
        refine xv_i0 (As := [.int x3, .int x4]) (rest := []) (ci := 6) (b := ad 0) ⟨hx, hb, hml, hown, hts⟩ hl.1 (kX6_modeOf l D cA ad 0 tape taped a8 weight many block ties lines pastValue pastWeight pastMany undos fresh newValue newWeight newMany newBlock newTies newLines hasBlock hasTies size att place sort number fault faultPlace lastFault lastPlace toValue toWeight toMany often firstOf lastOf unlikes unlikeMany isCandidate modes fewest x3 x4  _ eq9) (cwV 2 hts gX6_ifSet_X6_modeOf rfl rfl rfl (by decide +kernel) ⟨Nat.le_of_ble_eq_true rfl, Nat.le_of_ble_eq_true rfl⟩) rfl hK hP hD hS hA 0 rfl rfl rfl rfl (Nat.le_of_ble_eq_true rfl) dX6_ifSet_51 ⟨Nat.zero_le _, Nat.zero_le _⟩ (fun H locs hP hD hS hnq9 => ?_)
        have hP : va_P D vwCl (wX6 cA ad 0 tape taped a8 weight many block ties lines pastValue pastWeight pastMany undos fresh newValue newWeight newMany newBlock newTies newLines hasBlock hasTies size att place sort number fault faultPlace lastFault lastPlace toValue toWeight toMany q9.2.1 q9.2.2.1 q9.2.2.2.1 q9.2.2.2.2.1 q9.2.2.2.2.2 isCandidate modes fewest) H := hP
        have hD : va_D A (wX6 cA ad 0 tape taped a8 weight many block ties lines pastValue pastWeight pastMany undos fresh newValue newWeight newMany newBlock newTies newLines hasBlock hasTies size att place sort number fault faultPlace lastFault lastPlace toValue toWeight toMany q9.2.1 q9.2.2.1 q9.2.2.2.1 q9.2.2.2.2.1 q9.2.2.2.2.2 isCandidate modes fewest) := hD
        refine lv_istore (lv' := [(6, .int q9.1), (5, .int v7), (0, .ref (ad 0)), (1, .int x1), (2, .int x2), (3, .int x3), (4, .int x4)]) hx hb dX6_ifSet_54 hl (by decide) rfl (fun ls hl => ?_)
        refine lv_aload_n hx hb dX6_ifSet_56 rfl (lv_at hl 2 rfl) ?_
        refine va_get (D := D) (ci := 6) (v := .ref (ad 2)) (C := RX6) (T := TX6) (N := 42) hx hb hts iX6 hown hK hP 0 rfl rfl 3 (Nat.le_of_ble_eq_true rfl) f13 (fun _ h9 => h9) rfl dX6_ifSet_57 ?_
        refine lv_iload_n hx hb dX6_ifSet_60 rfl (lv_at hl 3 rfl) ?_
        refine lv_iload hx hb dX6_ifSet_61 (lv_at hl 1 rfl) ?_
        obtain ⟨a10, ea10, na10, h⟩ := e_wr h
        refine xa_iast hx hb hK hP hD hS 2 rfl na10 ea10 dX6_ifSet_63 (fun H locs hP hD hS => ?_)
        have hP : va_P D vwCl (wX6 cA ad 0 tape taped a10 weight many block ties lines pastValue pastWeight pastMany undos fresh newValue newWeight newMany newBlock newTies newLines hasBlock hasTies size att place sort number fault faultPlace lastFault lastPlace toValue toWeight toMany q9.2.1 q9.2.2.1 q9.2.2.2.1 q9.2.2.2.2.1 q9.2.2.2.2.2 isCandidate modes fewest) H := hP
        have hD : va_D A (wX6 cA ad 0 tape taped a10 weight many block ties lines pastValue pastWeight pastMany undos fresh newValue newWeight newMany newBlock newTies newLines hasBlock hasTies size att place sort number fault faultPlace lastFault lastPlace toValue toWeight toMany q9.2.1 q9.2.2.1 q9.2.2.2.1 q9.2.2.2.2.1 q9.2.2.2.2.2 isCandidate modes fewest) := hD
        refine lv_iload hx hb dX6_ifSet_64 (lv_at hl 0 rfl) ?_
        obtain rfl := e_s h
        exact hret hP hS rfl dX6_ifSet_66
      · have h := e_f (not_not_intro c6) h
        refine lv_iconst (v := (-1)) hx hb dX6_ifSet_30 (by decide) ?_
        obtain rfl := e_s h
        exact hret hP hS rfl dX6_ifSet_31
set_option maxHeartbeats 4000000 in
set_option maxRecDepth 100000 in
theorem kX6_ifOut (l : Launch) (D : va_G) (cA : Nat → ClassId) (ad : Nat → Nat) (thrown : Int32) (tape : Nat → Int32) (taped : Int32) (value : Nat → Int32) (weight : Nat → Int32) (many : Int32) (block : Int32) (ties : Int32) (lines : Int32) (pastValue : Nat → Int32) (pastWeight : Nat → Int32) (pastMany : Nat → Int32) (undos : Int32) (fresh : Int32) (newValue : Nat → Int32) (newWeight : Nat → Int32) (newMany : Int32) (newBlock : Int32) (newTies : Int32) (newLines : Int32) (hasBlock : Int32) (hasTies : Int32) (size : Int32) (att : Int32) (place : Int32) (sort : Int32) (number : Int32) (fault : Int32) (faultPlace : Int32) (lastFault : Int32) (lastPlace : Int32) (toValue : Nat → Int32) (toWeight : Nat → Int32) (toMany : Int32) (often : Nat → Int32) (firstOf : Nat → Int32) (lastOf : Nat → Int32) (unlikes : Nat → Int32) (unlikeMany : Int32) (isCandidate : Nat → Int32) (modes : Nat → Int32) (fewest : Nat → Int32) (x1 : Int32) (x2 : Int32) (x3 : Int32) (q : Int32 × Int32 × (Nat → Int32) × (Nat → Int32) × (Nat → Int32) × (Nat → Int32) × Int32) (h : mX6_ifOut thrown value many ties often firstOf lastOf unlikes unlikeMany x1 x2 x3 = some q) : MI l yX6_ifOut wsX6_ifOut { frames := 2, cells := 0, slots := 0, locals := 46 } D cA .int [.ref (ad 0), .int x1, .int x2, .int x3] (wX6 cA ad thrown tape taped value weight many block ties lines pastValue pastWeight pastMany undos fresh newValue newWeight newMany newBlock newTies newLines hasBlock hasTies size att place sort number fault faultPlace lastFault lastPlace toValue toWeight toMany often firstOf lastOf unlikes unlikeMany isCandidate modes fewest) (wX6 cA ad q.2.1 tape taped value weight many block ties lines pastValue pastWeight pastMany undos fresh newValue newWeight newMany newBlock newTies newLines hasBlock hasTies size att place sort number fault faultPlace lastFault lastPlace toValue toWeight toMany q.2.2.1 q.2.2.2.1 q.2.2.2.2.1 q.2.2.2.2.2.1 q.2.2.2.2.2.2 isCandidate modes fewest) q.1 := by
  refine MI.of (cc := cX6_ifOut) (maxL := 5) (by decide +kernel) rfl rfl rfl (Nat.le_of_ble_eq_true rfl) ?_
  intro p e s m args below meth c A ls Q hx hb hml hts hown hK hP hD hA hS hl hret
  have hl : lv_has ls 5 [(0, .ref (ad 0)), (1, .int x1), (2, .int x2), (3, .int x3)] := hl
  have f178 := hts (.fieldLink RX6 178 "ModeDeskModel" "ties" "I") (by decide +kernel)
  have f72 := hts (.fieldLink RX6 72 "ModeDeskModel" "thrown" "I") (by decide +kernel)
  have iX6 : ∀ w ∈ wsX60, w ∈ wsX6_ifOut := by decide +kernel
  unfold mX6_ifOut at h
  refine lv_aload_n hx hb dX6_ifOut_0 rfl (lv_at hl 0 rfl) ?_
  refine lv_iconst (v := 0) hx hb dX6_ifOut_1 (by decide) ?_
  refine va_put (D := D) (ci := 6) (v := .int 0) (ty := .int) (C := RX6) (T := TX6) (N := 42) hx hb hts iX6 tyX6 tyX6_ok nmX6 hown hK hP hD hS 0 rfl rfl 0 (Nat.le_of_ble_eq_true rfl) f72 (fun _ h9 => h9) rfl (tyX6_ok 0 (Nat.le_of_ble_eq_true rfl)) rfl rfl (Nat.le_of_ble_eq_true rfl) dX6_ifOut_2 (fun H locs hP hD hS => ?_)
  have hP : va_P D vwCl (wX6 cA ad 0 tape taped value weight many block ties lines pastValue pastWeight pastMany undos fresh newValue newWeight newMany newBlock newTies newLines hasBlock hasTies size att place sort number fault faultPlace lastFault lastPlace toValue toWeight toMany often firstOf lastOf unlikes unlikeMany isCandidate modes fewest) H := hP
  have hD : va_D A (wX6 cA ad 0 tape taped value weight many block ties lines pastValue pastWeight pastMany undos fresh newValue newWeight newMany newBlock newTies newLines hasBlock hasTies size att place sort number fault faultPlace lastFault lastPlace toValue toWeight toMany often firstOf lastOf unlikes unlikeMany isCandidate modes fewest) := hD
  refine lv_aload_n hx hb dX6_ifOut_5 rfl (lv_at hl 0 rfl) ?_
  refine lv_iload_n hx hb dX6_ifOut_6 rfl (lv_at hl 2 rfl) ?_
  refine lv_iload_n hx hb dX6_ifOut_7 rfl (lv_at hl 3 rfl) ?_
  obtain ⟨q1, eq1, h⟩ := e_b h
  refine xv_i0 (As := [.int x2, .int x3]) (rest := []) (ci := 6) (b := ad 0) ⟨hx, hb, hml, hown, hts⟩ hl.1 (kX6_isSpan l D cA ad 0 tape taped value weight many block ties lines pastValue pastWeight pastMany undos fresh newValue newWeight newMany newBlock newTies newLines hasBlock hasTies size att place sort number fault faultPlace lastFault lastPlace toValue toWeight toMany often firstOf lastOf unlikes unlikeMany isCandidate modes fewest x2 x3  _ eq1) (cwV 2 hts gX6_ifOut_X6_isSpan rfl rfl rfl (by decide +kernel) ⟨Nat.le_of_ble_eq_true rfl, Nat.le_of_ble_eq_true rfl⟩) rfl hK hP hD hS hA 0 rfl rfl rfl rfl (Nat.le_of_ble_eq_true rfl) dX6_ifOut_8 ⟨Nat.zero_le _, Nat.zero_le _⟩ (fun H locs hP hD hS hnq1 => ?_)
  have hP : va_P D vwCl (wX6 cA ad 0 tape taped value weight many block ties lines pastValue pastWeight pastMany undos fresh newValue newWeight newMany newBlock newTies newLines hasBlock hasTies size att place sort number fault faultPlace lastFault lastPlace toValue toWeight toMany often firstOf lastOf unlikes unlikeMany isCandidate modes fewest) H := hP
  have hD : va_D A (wX6 cA ad 0 tape taped value weight many block ties lines pastValue pastWeight pastMany undos fresh newValue newWeight newMany newBlock newTies newLines hasBlock hasTies size att place sort number fault faultPlace lastFault lastPlace toValue toWeight toMany often firstOf lastOf unlikes unlikeMany isCandidate modes fewest) := hD
  refine lv_if_eq (tgt := 24) hx hb dX6_ifOut_11 (by decide) (fun c2 => ?_) (fun c2 => ?_)
  · have h := e_t c2 h
    refine lv_iconst (v := (-1)) hx hb dX6_ifOut_24 (by decide) ?_
    obtain rfl := e_s h
    exact hret hP hS rfl dX6_ifOut_25
  · have h := e_f c2 h
    refine lv_iload_n hx hb dX6_ifOut_14 rfl (lv_at hl 1 rfl) ?_
    refine lv_iload_n hx hb dX6_ifOut_15 rfl (lv_at hl 2 rfl) ?_
    refine lv_icmp_lt (tgt := 24) hx hb dX6_ifOut_16 (by decide) (fun c3 => ?_) (fun c3 => ?_)
    · have h := e_t c3 h
      refine lv_iconst (v := (-1)) hx hb dX6_ifOut_24 (by decide) ?_
      obtain rfl := e_s h
      exact hret hP hS rfl dX6_ifOut_25
    · have h := e_f c3 h
      refine lv_iload_n hx hb dX6_ifOut_19 rfl (lv_at hl 1 rfl) ?_
      refine lv_iload_n hx hb dX6_ifOut_20 rfl (lv_at hl 3 rfl) ?_
      refine lv_icmp_le (tgt := 26) hx hb dX6_ifOut_21 (by decide) (fun c4 => ?_) (fun c4 => ?_)
      · have h := e_t c4 h
        refine lv_aload_n hx hb dX6_ifOut_26 rfl (lv_at hl 0 rfl) ?_
        refine lv_iload_n hx hb dX6_ifOut_27 rfl (lv_at hl 2 rfl) ?_
        refine lv_iload_n hx hb dX6_ifOut_28 rfl (lv_at hl 3 rfl) ?_
        refine lv_iload_n hx hb dX6_ifOut_29 rfl (lv_at hl 1 rfl) ?_
        obtain ⟨q5, eq5, h⟩ := e_b h
        refine xv_v0 (As := [.int x2, .int x3, .int x1]) (rest := []) (ci := 6) (b := ad 0) ⟨hx, hb, hml, hown, hts⟩ hl.1 (kX6_counts l D cA ad 0 tape taped value weight many block ties lines pastValue pastWeight pastMany undos fresh newValue newWeight newMany newBlock newTies newLines hasBlock hasTies size att place sort number fault faultPlace lastFault lastPlace toValue toWeight toMany often firstOf lastOf unlikes unlikeMany isCandidate modes fewest x2 x3 x1  _ eq5) (cwV 3 hts gX6_ifOut_X6_counts rfl rfl rfl (by decide +kernel) ⟨Nat.le_of_ble_eq_true rfl, Nat.le_of_ble_eq_true rfl⟩) rfl hK hP hD hS hA 0 rfl rfl rfl rfl (Nat.le_of_ble_eq_true rfl) dX6_ifOut_30 ⟨Nat.zero_le _, Nat.zero_le _⟩ (fun H locs hP hD hS => ?_)
        have hP : va_P D vwCl (wX6 cA ad 0 tape taped value weight many block ties lines pastValue pastWeight pastMany undos fresh newValue newWeight newMany newBlock newTies newLines hasBlock hasTies size att place sort number fault faultPlace lastFault lastPlace toValue toWeight toMany q5.1 q5.2.1 q5.2.2.1 q5.2.2.2.1 q5.2.2.2.2 isCandidate modes fewest) H := hP
        have hD : va_D A (wX6 cA ad 0 tape taped value weight many block ties lines pastValue pastWeight pastMany undos fresh newValue newWeight newMany newBlock newTies newLines hasBlock hasTies size att place sort number fault faultPlace lastFault lastPlace toValue toWeight toMany q5.1 q5.2.1 q5.2.2.1 q5.2.2.2.1 q5.2.2.2.2 isCandidate modes fewest) := hD
        refine lv_aload_n hx hb dX6_ifOut_33 rfl (lv_at hl 0 rfl) ?_
        refine lv_aload_n hx hb dX6_ifOut_34 rfl (lv_at hl 0 rfl) ?_
        refine va_get (D := D) (ci := 6) (v := .int ties) (C := RX6) (T := TX6) (N := 42) hx hb hts iX6 hown hK hP 0 rfl rfl 7 (Nat.le_of_ble_eq_true rfl) f178 (fun _ h9 => h9) rfl dX6_ifOut_35 ?_
        obtain ⟨q6, eq6, h⟩ := e_b h
        refine xv_i0 (As := [.int ties]) (rest := []) (ci := 6) (b := ad 0) ⟨hx, hb, hml, hown, hts⟩ hl.1 (kX6_modeBy l D cA ad 0 tape taped value weight many block ties lines pastValue pastWeight pastMany undos fresh newValue newWeight newMany newBlock newTies newLines hasBlock hasTies size att place sort number fault faultPlace lastFault lastPlace toValue toWeight toMany q5.1 q5.2.1 q5.2.2.1 q5.2.2.2.1 q5.2.2.2.2 isCandidate modes fewest ties  _ eq6) (cwV 1 hts gX6_ifOut_X6_modeBy rfl rfl rfl (by decide +kernel) ⟨Nat.le_of_ble_eq_true rfl, Nat.le_of_ble_eq_true rfl⟩) rfl hK hP hD hS hA 0 rfl rfl rfl rfl (Nat.le_of_ble_eq_true rfl) dX6_ifOut_38 ⟨Nat.zero_le _, Nat.zero_le _⟩ (fun H locs hP hD hS hnq6 => ?_)
        have hP : va_P D vwCl (wX6 cA ad 0 tape taped value weight many block ties lines pastValue pastWeight pastMany undos fresh newValue newWeight newMany newBlock newTies newLines hasBlock hasTies size att place sort number fault faultPlace lastFault lastPlace toValue toWeight toMany q5.1 q5.2.1 q5.2.2.1 q5.2.2.2.1 q5.2.2.2.2 isCandidate modes fewest) H := hP
        have hD : va_D A (wX6 cA ad 0 tape taped value weight many block ties lines pastValue pastWeight pastMany undos fresh newValue newWeight newMany newBlock newTies newLines hasBlock hasTies size att place sort number fault faultPlace lastFault lastPlace toValue toWeight toMany q5.1 q5.2.1 q5.2.2.1 q5.2.2.2.1 q5.2.2.2.2 isCandidate modes fewest) := hD
        refine lv_istore (lv' := [(4, .int q6), (0, .ref (ad 0)), (1, .int x1), (2, .int x2), (3, .int x3)]) hx hb dX6_ifOut_41 hl (by decide) rfl (fun ls hl => ?_)
        refine lv_iload hx hb dX6_ifOut_43 (lv_at hl 0 rfl) ?_
        refine lv_iconst (v := (-1)) hx hb dX6_ifOut_45 (by decide) ?_
        refine lv_icmp_ne (tgt := 54) hx hb dX6_ifOut_46 (by decide) (fun c7 => ?_) (fun c7 => ?_)
        · have h := e_t c7 h
          refine lv_iload hx hb dX6_ifOut_54 (lv_at hl 0 rfl) ?_
          obtain rfl := e_s h
          exact hret hP hS rfl dX6_ifOut_56
        · have h := e_f (not_not_intro c7) h
          refine lv_bipush (v := (-2)) hx hb dX6_ifOut_49 (by decide) ?_
          refine lv_goto (tgt := 56) hx hb dX6_ifOut_51 (by decide) ?_
          obtain rfl := e_s h
          exact hret hP hS rfl dX6_ifOut_56
      · have h := e_f c4 h
        refine lv_iconst (v := (-1)) hx hb dX6_ifOut_24 (by decide) ?_
        obtain rfl := e_s h
        exact hret hP hS rfl dX6_ifOut_25
set_option maxHeartbeats 4000000 in
set_option maxRecDepth 100000 in
theorem kX6_ifTies (l : Launch) (D : va_G) (cA : Nat → ClassId) (ad : Nat → Nat) (thrown : Int32) (tape : Nat → Int32) (taped : Int32) (value : Nat → Int32) (weight : Nat → Int32) (many : Int32) (block : Int32) (ties : Int32) (lines : Int32) (pastValue : Nat → Int32) (pastWeight : Nat → Int32) (pastMany : Nat → Int32) (undos : Int32) (fresh : Int32) (newValue : Nat → Int32) (newWeight : Nat → Int32) (newMany : Int32) (newBlock : Int32) (newTies : Int32) (newLines : Int32) (hasBlock : Int32) (hasTies : Int32) (size : Int32) (att : Int32) (place : Int32) (sort : Int32) (number : Int32) (fault : Int32) (faultPlace : Int32) (lastFault : Int32) (lastPlace : Int32) (toValue : Nat → Int32) (toWeight : Nat → Int32) (toMany : Int32) (often : Nat → Int32) (firstOf : Nat → Int32) (lastOf : Nat → Int32) (unlikes : Nat → Int32) (unlikeMany : Int32) (isCandidate : Nat → Int32) (modes : Nat → Int32) (fewest : Nat → Int32) (x1 : Int32) (x2 : Int32) (x3 : Int32) (q : Int32 × Int32 × (Nat → Int32) × (Nat → Int32) × (Nat → Int32) × (Nat → Int32) × Int32) (h : mX6_ifTies thrown value many often firstOf lastOf unlikes unlikeMany x1 x2 x3 = some q) : MI l yX6_ifTies wsX6_ifTies { frames := 2, cells := 0, slots := 0, locals := 46 } D cA .int [.ref (ad 0), .int x1, .int x2, .int x3] (wX6 cA ad thrown tape taped value weight many block ties lines pastValue pastWeight pastMany undos fresh newValue newWeight newMany newBlock newTies newLines hasBlock hasTies size att place sort number fault faultPlace lastFault lastPlace toValue toWeight toMany often firstOf lastOf unlikes unlikeMany isCandidate modes fewest) (wX6 cA ad q.2.1 tape taped value weight many block ties lines pastValue pastWeight pastMany undos fresh newValue newWeight newMany newBlock newTies newLines hasBlock hasTies size att place sort number fault faultPlace lastFault lastPlace toValue toWeight toMany q.2.2.1 q.2.2.2.1 q.2.2.2.2.1 q.2.2.2.2.2.1 q.2.2.2.2.2.2 isCandidate modes fewest) q.1 := by
  refine MI.of (cc := cX6_ifTies) (maxL := 4) (by decide +kernel) rfl rfl rfl (Nat.le_of_ble_eq_true rfl) ?_
  intro p e s m args below meth c A ls Q hx hb hml hts hown hK hP hD hA hS hl hret
  have hl : lv_has ls 4 [(0, .ref (ad 0)), (1, .int x1), (2, .int x2), (3, .int x3)] := hl
  have f72 := hts (.fieldLink RX6 72 "ModeDeskModel" "thrown" "I") (by decide +kernel)
  have iX6 : ∀ w ∈ wsX60, w ∈ wsX6_ifTies := by decide +kernel
  unfold mX6_ifTies at h
  refine lv_aload_n hx hb dX6_ifTies_0 rfl (lv_at hl 0 rfl) ?_
  refine lv_iconst (v := 0) hx hb dX6_ifTies_1 (by decide) ?_
  refine va_put (D := D) (ci := 6) (v := .int 0) (ty := .int) (C := RX6) (T := TX6) (N := 42) hx hb hts iX6 tyX6 tyX6_ok nmX6 hown hK hP hD hS 0 rfl rfl 0 (Nat.le_of_ble_eq_true rfl) f72 (fun _ h9 => h9) rfl (tyX6_ok 0 (Nat.le_of_ble_eq_true rfl)) rfl rfl (Nat.le_of_ble_eq_true rfl) dX6_ifTies_2 (fun H locs hP hD hS => ?_)
  have hP : va_P D vwCl (wX6 cA ad 0 tape taped value weight many block ties lines pastValue pastWeight pastMany undos fresh newValue newWeight newMany newBlock newTies newLines hasBlock hasTies size att place sort number fault faultPlace lastFault lastPlace toValue toWeight toMany often firstOf lastOf unlikes unlikeMany isCandidate modes fewest) H := hP
  have hD : va_D A (wX6 cA ad 0 tape taped value weight many block ties lines pastValue pastWeight pastMany undos fresh newValue newWeight newMany newBlock newTies newLines hasBlock hasTies size att place sort number fault faultPlace lastFault lastPlace toValue toWeight toMany often firstOf lastOf unlikes unlikeMany isCandidate modes fewest) := hD
  refine lv_iload_n hx hb dX6_ifTies_5 rfl (lv_at hl 1 rfl) ?_
  refine lv_if_lt (tgt := 23) hx hb dX6_ifTies_6 (by decide) (fun c1 => ?_) (fun c1 => ?_)
  · have h := e_t c1 h
    refine lv_iconst (v := (-1)) hx hb dX6_ifTies_23 (by decide) ?_
    obtain rfl := e_s h
    exact hret hP hS rfl dX6_ifTies_24
  · have h := e_f c1 h
    refine lv_iload_n hx hb dX6_ifTies_9 rfl (lv_at hl 1 rfl) ?_
    refine lv_iconst (v := 3) hx hb dX6_ifTies_10 (by decide) ?_
    refine lv_icmp_gt (tgt := 23) hx hb dX6_ifTies_11 (by decide) (fun c2 => ?_) (fun c2 => ?_)
    · have h := e_t c2 h
      refine lv_iconst (v := (-1)) hx hb dX6_ifTies_23 (by decide) ?_
      obtain rfl := e_s h
      exact hret hP hS rfl dX6_ifTies_24
    · have h := e_f c2 h
      refine lv_aload_n hx hb dX6_ifTies_14 rfl (lv_at hl 0 rfl) ?_
      refine lv_iload_n hx hb dX6_ifTies_15 rfl (lv_at hl 2 rfl) ?_
      refine lv_iload_n hx hb dX6_ifTies_16 rfl (lv_at hl 3 rfl) ?_
      obtain ⟨q3, eq3, h⟩ := e_b h
      refine xv_i0 (As := [.int x2, .int x3]) (rest := []) (ci := 6) (b := ad 0) ⟨hx, hb, hml, hown, hts⟩ hl.1 (kX6_isSpan l D cA ad 0 tape taped value weight many block ties lines pastValue pastWeight pastMany undos fresh newValue newWeight newMany newBlock newTies newLines hasBlock hasTies size att place sort number fault faultPlace lastFault lastPlace toValue toWeight toMany often firstOf lastOf unlikes unlikeMany isCandidate modes fewest x2 x3  _ eq3) (cwV 2 hts gX6_ifTies_X6_isSpan rfl rfl rfl (by decide +kernel) ⟨Nat.le_of_ble_eq_true rfl, Nat.le_of_ble_eq_true rfl⟩) rfl hK hP hD hS hA 0 rfl rfl rfl rfl (Nat.le_of_ble_eq_true rfl) dX6_ifTies_17 ⟨Nat.zero_le _, Nat.zero_le _⟩ (fun H locs hP hD hS hnq3 => ?_)
      have hP : va_P D vwCl (wX6 cA ad 0 tape taped value weight many block ties lines pastValue pastWeight pastMany undos fresh newValue newWeight newMany newBlock newTies newLines hasBlock hasTies size att place sort number fault faultPlace lastFault lastPlace toValue toWeight toMany often firstOf lastOf unlikes unlikeMany isCandidate modes fewest) H := hP
      have hD : va_D A (wX6 cA ad 0 tape taped value weight many block ties lines pastValue pastWeight pastMany undos fresh newValue newWeight newMany newBlock newTies newLines hasBlock hasTies size att place sort number fault faultPlace lastFault lastPlace toValue toWeight toMany often firstOf lastOf unlikes unlikeMany isCandidate modes fewest) := hD
      refine lv_if_ne (tgt := 25) hx hb dX6_ifTies_20 (by decide) (fun c4 => ?_) (fun c4 => ?_)
      · have h := e_t c4 h
        refine lv_aload_n hx hb dX6_ifTies_25 rfl (lv_at hl 0 rfl) ?_
        refine lv_iload_n hx hb dX6_ifTies_26 rfl (lv_at hl 2 rfl) ?_
        refine lv_iload_n hx hb dX6_ifTies_27 rfl (lv_at hl 3 rfl) ?_
        refine lv_iconst (v := (-1)) hx hb dX6_ifTies_28 (by decide) ?_
        obtain ⟨q5, eq5, h⟩ := e_b h
        refine xv_v0 (As := [.int x2, .int x3, .int (-1)]) (rest := []) (ci := 6) (b := ad 0) ⟨hx, hb, hml, hown, hts⟩ hl.1 (kX6_counts l D cA ad 0 tape taped value weight many block ties lines pastValue pastWeight pastMany undos fresh newValue newWeight newMany newBlock newTies newLines hasBlock hasTies size att place sort number fault faultPlace lastFault lastPlace toValue toWeight toMany often firstOf lastOf unlikes unlikeMany isCandidate modes fewest x2 x3 (-1)  _ eq5) (cwV 3 hts gX6_ifTies_X6_counts rfl rfl rfl (by decide +kernel) ⟨Nat.le_of_ble_eq_true rfl, Nat.le_of_ble_eq_true rfl⟩) rfl hK hP hD hS hA 0 rfl rfl rfl rfl (Nat.le_of_ble_eq_true rfl) dX6_ifTies_29 ⟨Nat.zero_le _, Nat.zero_le _⟩ (fun H locs hP hD hS => ?_)
        have hP : va_P D vwCl (wX6 cA ad 0 tape taped value weight many block ties lines pastValue pastWeight pastMany undos fresh newValue newWeight newMany newBlock newTies newLines hasBlock hasTies size att place sort number fault faultPlace lastFault lastPlace toValue toWeight toMany q5.1 q5.2.1 q5.2.2.1 q5.2.2.2.1 q5.2.2.2.2 isCandidate modes fewest) H := hP
        have hD : va_D A (wX6 cA ad 0 tape taped value weight many block ties lines pastValue pastWeight pastMany undos fresh newValue newWeight newMany newBlock newTies newLines hasBlock hasTies size att place sort number fault faultPlace lastFault lastPlace toValue toWeight toMany q5.1 q5.2.1 q5.2.2.1 q5.2.2.2.1 q5.2.2.2.2 isCandidate modes fewest) := hD
        refine lv_aload_n hx hb dX6_ifTies_32 rfl (lv_at hl 0 rfl) ?_
        refine lv_iload_n hx hb dX6_ifTies_33 rfl (lv_at hl 1 rfl) ?_
        obtain ⟨q6, eq6, h⟩ := e_b h
        refine xv_i0 (As := [.int x1]) (rest := []) (ci := 6) (b := ad 0) ⟨hx, hb, hml, hown, hts⟩ hl.1 (kX6_modeBy l D cA ad 0 tape taped value weight many block ties lines pastValue pastWeight pastMany undos fresh newValue newWeight newMany newBlock newTies newLines hasBlock hasTies size att place sort number fault faultPlace lastFault lastPlace toValue toWeight toMany q5.1 q5.2.1 q5.2.2.1 q5.2.2.2.1 q5.2.2.2.2 isCandidate modes fewest x1  _ eq6) (cwV 1 hts gX6_ifTies_X6_modeBy rfl rfl rfl (by decide +kernel) ⟨Nat.le_of_ble_eq_true rfl, Nat.le_of_ble_eq_true rfl⟩) rfl hK hP hD hS hA 0 rfl rfl rfl rfl (Nat.le_of_ble_eq_true rfl) dX6_ifTies_34 ⟨Nat.zero_le _, Nat.zero_le _⟩ (fun H locs hP hD hS hnq6 => ?_)
        have hP : va_P D vwCl (wX6 cA ad 0 tape taped value weight many block ties lines pastValue pastWeight pastMany undos fresh newValue newWeight newMany newBlock newTies newLines hasBlock hasTies size att place sort number fault faultPlace lastFault lastPlace toValue toWeight toMany q5.1 q5.2.1 q5.2.2.1 q5.2.2.2.1 q5.2.2.2.2 isCandidate modes fewest) H := hP
        have hD : va_D A (wX6 cA ad 0 tape taped value weight many block ties lines pastValue pastWeight pastMany undos fresh newValue newWeight newMany newBlock newTies newLines hasBlock hasTies size att place sort number fault faultPlace lastFault lastPlace toValue toWeight toMany q5.1 q5.2.1 q5.2.2.1 q5.2.2.2.1 q5.2.2.2.2 isCandidate modes fewest) := hD
        obtain rfl := e_s h
        exact hret hP hS rfl dX6_ifTies_37
      · have h := e_f (not_not_intro c4) h
        refine lv_iconst (v := (-1)) hx hb dX6_ifTies_23 (by decide) ?_
        obtain rfl := e_s h
        exact hret hP hS rfl dX6_ifTies_24
set_option maxHeartbeats 4000000 in
set_option maxRecDepth 100000 in
theorem kX6_part (l : Launch) (D : va_G) (cA : Nat → ClassId) (ad : Nat → Nat) (thrown : Int32) (tape : Nat → Int32) (taped : Int32) (value : Nat → Int32) (weight : Nat → Int32) (many : Int32) (block : Int32) (ties : Int32) (lines : Int32) (pastValue : Nat → Int32) (pastWeight : Nat → Int32) (pastMany : Nat → Int32) (undos : Int32) (fresh : Int32) (newValue : Nat → Int32) (newWeight : Nat → Int32) (newMany : Int32) (newBlock : Int32) (newTies : Int32) (newLines : Int32) (hasBlock : Int32) (hasTies : Int32) (size : Int32) (att : Int32) (place : Int32) (sort : Int32) (number : Int32) (fault : Int32) (faultPlace : Int32) (lastFault : Int32) (lastPlace : Int32) (toValue : Nat → Int32) (toWeight : Nat → Int32) (toMany : Int32) (often : Nat → Int32) (firstOf : Nat → Int32) (lastOf : Nat → Int32) (unlikes : Nat → Int32) (unlikeMany : Int32) (isCandidate : Nat → Int32) (modes : Nat → Int32) (fewest : Nat → Int32) (x1 : Int32) (q : Int32 × Int32 × (Nat → Int32) × (Nat → Int32) × (Nat → Int32) × (Nat → Int32) × Int32 × (Nat → Int32)) (h : mX6_part thrown value many ties often firstOf lastOf unlikes unlikeMany fewest x1 = some q) : MI l yX6_part wsX6_part { frames := 4, cells := 0, slots := 0, locals := 91 } D cA .int [.ref (ad 0), .int x1] (wX6 cA ad thrown tape taped value weight many block ties lines pastValue pastWeight pastMany undos fresh newValue newWeight newMany newBlock newTies newLines hasBlock hasTies size att place sort number fault faultPlace lastFault lastPlace toValue toWeight toMany often firstOf lastOf unlikes unlikeMany isCandidate modes fewest) (wX6 cA ad q.2.1 tape taped value weight many block ties lines pastValue pastWeight pastMany undos fresh newValue newWeight newMany newBlock newTies newLines hasBlock hasTies size att place sort number fault faultPlace lastFault lastPlace toValue toWeight toMany q.2.2.1 q.2.2.2.1 q.2.2.2.2.1 q.2.2.2.2.2.1 q.2.2.2.2.2.2.1 isCandidate modes q.2.2.2.2.2.2.2) q.1 := by
  refine MI.of (cc := cX6_part) (maxL := 5) (by decide +kernel) rfl rfl rfl (Nat.le_of_ble_eq_true rfl) ?_
  intro p e s m args below meth c A ls Q hx hb hml hts hown hK hP hD hA hS hl hret
  have hl : lv_has ls 5 [(0, .ref (ad 0)), (1, .int x1)] := hl
  have f175 := hts (.fieldLink RX6 175 "ModeDeskModel" "many" "I") (by decide +kernel)
  have f66 := hts (.fieldLink RX6 66 "ModeDeskModel" "fewest" "[I") (by decide +kernel)
  have f72 := hts (.fieldLink RX6 72 "ModeDeskModel" "thrown" "I") (by decide +kernel)
  have iX6 : ∀ w ∈ wsX60, w ∈ wsX6_part := by decide +kernel
  unfold mX6_part at h
  refine lv_aload_n hx hb dX6_part_0 rfl (lv_at hl 0 rfl) ?_
  refine lv_iconst (v := 0) hx hb dX6_part_1 (by decide) ?_
  refine va_put (D := D) (ci := 6) (v := .int 0) (ty := .int) (C := RX6) (T := TX6) (N := 42) hx hb hts iX6 tyX6 tyX6_ok nmX6 hown hK hP hD hS 0 rfl rfl 0 (Nat.le_of_ble_eq_true rfl) f72 (fun _ h9 => h9) rfl (tyX6_ok 0 (Nat.le_of_ble_eq_true rfl)) rfl rfl (Nat.le_of_ble_eq_true rfl) dX6_part_2 (fun H locs hP hD hS => ?_)
  have hP : va_P D vwCl (wX6 cA ad 0 tape taped value weight many block ties lines pastValue pastWeight pastMany undos fresh newValue newWeight newMany newBlock newTies newLines hasBlock hasTies size att place sort number fault faultPlace lastFault lastPlace toValue toWeight toMany often firstOf lastOf unlikes unlikeMany isCandidate modes fewest) H := hP
  have hD : va_D A (wX6 cA ad 0 tape taped value weight many block ties lines pastValue pastWeight pastMany undos fresh newValue newWeight newMany newBlock newTies newLines hasBlock hasTies size att place sort number fault faultPlace lastFault lastPlace toValue toWeight toMany often firstOf lastOf unlikes unlikeMany isCandidate modes fewest) := hD
  refine lv_iload_n hx hb dX6_part_5 rfl (lv_at hl 1 rfl) ?_
  refine lv_iconst (v := (-1)) hx hb dX6_part_6 (by decide) ?_
  refine lv_icmp_ge (tgt := 12) hx hb dX6_part_7 (by decide) (fun c1 => ?_) (fun c1 => ?_)
  · have h := e_t c1 h
    refine lv_aload_n hx hb dX6_part_12 rfl (lv_at hl 0 rfl) ?_
    refine va_get (D := D) (ci := 6) (v := .ref (ad 17)) (C := RX6) (T := TX6) (N := 42) hx hb hts iX6 hown hK hP 0 rfl rfl 41 (Nat.le_of_ble_eq_true rfl) f66 (fun _ h9 => h9) rfl dX6_part_13 ?_
    refine lv_aload_n hx hb dX6_part_16 rfl (lv_at hl 0 rfl) ?_
    refine va_get (D := D) (ci := 6) (v := .int many) (C := RX6) (T := TX6) (N := 42) hx hb hts iX6 hown hK hP 0 rfl rfl 5 (Nat.le_of_ble_eq_true rfl) f175 (fun _ h9 => h9) rfl dX6_part_17 ?_
    refine lv_iconst (v := 0) hx hb dX6_part_20 (by decide) ?_
    obtain ⟨a2, ea2, na2, h⟩ := e_wr h
    refine xa_iast hx hb hK hP hD hS 17 rfl na2 ea2 dX6_part_21 (fun H locs hP hD hS => ?_)
    have hP : va_P D vwCl (wX6 cA ad 0 tape taped value weight many block ties lines pastValue pastWeight pastMany undos fresh newValue newWeight newMany newBlock newTies newLines hasBlock hasTies size att place sort number fault faultPlace lastFault lastPlace toValue toWeight toMany often firstOf lastOf unlikes unlikeMany isCandidate modes a2) H := hP
    have hD : va_D A (wX6 cA ad 0 tape taped value weight many block ties lines pastValue pastWeight pastMany undos fresh newValue newWeight newMany newBlock newTies newLines hasBlock hasTies size att place sort number fault faultPlace lastFault lastPlace toValue toWeight toMany often firstOf lastOf unlikes unlikeMany isCandidate modes a2) := hD
    refine lv_aload_n hx hb dX6_part_22 rfl (lv_at hl 0 rfl) ?_
    refine va_get (D := D) (ci := 6) (v := .int many) (C := RX6) (T := TX6) (N := 42) hx hb hts iX6 hown hK hP 0 rfl rfl 5 (Nat.le_of_ble_eq_true rfl) f175 (fun _ h9 => h9) rfl dX6_part_23 ?_
    refine lv_iconst (v := 1) hx hb dX6_part_26 (by decide) ?_
    refine lv_isub hx hb dX6_part_27 ?_
    refine lv_istore_n (lv' := [(2, .int (many - 1)), (0, .ref (ad 0)), (1, .int x1)]) hx hb dX6_part_28 rfl hl (by decide) rfl (fun ls hl => ?_)
    have hL29 : ∀ (n : Nat) (x1 : Int32) (x2 : Int32) (thrown : Int32) (tape : Nat → Int32) (taped : Int32) (value : Nat → Int32) (weight : Nat → Int32) (many : Int32) (block : Int32) (ties : Int32) (lines : Int32) (pastValue : Nat → Int32) (pastWeight : Nat → Int32) (pastMany : Nat → Int32) (undos : Int32) (fresh : Int32) (newValue : Nat → Int32) (newWeight : Nat → Int32) (newMany : Int32) (newBlock : Int32) (newTies : Int32) (newLines : Int32) (hasBlock : Int32) (hasTies : Int32) (size : Int32) (att : Int32) (place : Int32) (sort : Int32) (number : Int32) (fault : Int32) (faultPlace : Int32) (lastFault : Int32) (lastPlace : Int32) (toValue : Nat → Int32) (toWeight : Nat → Int32) (toMany : Int32) (often : Nat → Int32) (firstOf : Nat → Int32) (lastOf : Nat → Int32) (unlikes : Nat → Int32) (unlikeMany : Int32) (isCandidate : Nat → Int32) (modes : Nat → Int32) (fewest : Nat → Int32) (z3 : (Nat → Int32) × (Nat → Int32) × (Nat → Int32) × (Nat → Int32) × Int32 × (Nat → Int32)) (ls : Array Slot) (H : Heap) (locs : List Loc), lv_has ls 5 [(0, .ref (ad 0)), (1, .int x1), (2, .int x2)] → va_P D vwCl (wX6 cA ad thrown tape taped value weight many block ties lines pastValue pastWeight pastMany undos fresh newValue newWeight newMany newBlock newTies newLines hasBlock hasTies size att place sort number fault faultPlace lastFault lastPlace toValue toWeight toMany often firstOf lastOf unlikes unlikeMany isCandidate modes fewest) H → va_D A (wX6 cA ad thrown tape taped value weight many block ties lines pastValue pastWeight pastMany undos fresh newValue newWeight newMany newBlock newTies newLines hasBlock hasTies size att place sort number fault faultPlace lastFault lastPlace toValue toWeight toMany often firstOf lastOf unlikes unlikeMany isCandidate modes fewest) → va_S A s.heap H locs → mX6_part_L29 value many ties n x2 often firstOf lastOf unlikes unlikeMany fewest = some z3 → (∀ (ls : Array Slot) (H : Heap) (locs : List Loc), lv_has ls 5 [(0, .ref (ad 0)), (1, .int x1)] → va_P D vwCl (wX6 cA ad thrown tape taped value weight many block ties lines pastValue pastWeight pastMany undos fresh newValue newWeight newMany newBlock newTies newLines hasBlock hasTies size att place sort number fault faultPlace lastFault lastPlace toValue toWeight toMany z3.1 z3.2.1 z3.2.2.1 z3.2.2.2.1 z3.2.2.2.2.1 isCandidate modes z3.2.2.2.2.2) H → va_D A (wX6 cA ad thrown tape taped value weight many block ties lines pastValue pastWeight pastMany undos fresh newValue newWeight newMany newBlock newTies newLines hasBlock hasTies size att place sort number fault faultPlace lastFault lastPlace toValue toWeight toMany z3.1 z3.2.1 z3.2.2.1 z3.2.2.2.1 z3.2.2.2.2.1 isCandidate modes z3.2.2.2.2.2) → va_S A s.heap H locs → W p l e (headSpec wsX6_part { frames := 4, cells := 0, slots := 0, locals := 91 }).room s m args below meth c H locs 0 0 Q (F0 m 108 ls [])) → W p l e (headSpec wsX6_part { frames := 4, cells := 0, slots := 0, locals := 91 }).room s m args below meth c H locs 0 0 Q (F0 m 29 ls []) := by
      intro n
      induction n with
      | zero => intro x1 x2 thrown tape taped value weight many block ties lines pastValue pastWeight pastMany undos fresh newValue newWeight newMany newBlock newTies newLines hasBlock hasTies size att place sort number fault faultPlace lastFault lastPlace toValue toWeight toMany often firstOf lastOf unlikes unlikeMany isCandidate modes fewest z3 ls H locs hl hP hD hS h hk29; exact e_n h
      | succ n ih29 =>
        intro x1 x2 thrown tape taped value weight many block ties lines pastValue pastWeight pastMany undos fresh newValue newWeight newMany newBlock newTies newLines hasBlock hasTies size att place sort number fault faultPlace lastFault lastPlace toValue toWeight toMany often firstOf lastOf unlikes unlikeMany isCandidate modes fewest z3 ls H locs hl hP hD hS h hk29
        rw [mX6_part_L29.eq_2] at h
        refine lv_iload_n hx hb dX6_part_29 rfl (lv_at hl 2 rfl) ?_
        refine lv_if_lt (tgt := 108) hx hb dX6_part_30 (by decide) (fun c4 => ?_) (fun c4 => ?_)
        · have h := e_t c4 h
          obtain rfl := e_s h
          exact hk29 _ _ _ (lv_sub hl [0, 1] rfl) hP hD hS
        · have h := e_f c4 h
          refine lv_aload_n hx hb dX6_part_33 rfl (lv_at hl 0 rfl) ?_
          refine va_get (D := D) (ci := 6) (v := .ref (ad 17)) (C := RX6) (T := TX6) (N := 42) hx hb hts iX6 hown hK hP 0 rfl rfl 41 (Nat.le_of_ble_eq_true rfl) f66 (fun _ h9 => h9) rfl dX6_part_34 ?_
          refine lv_iload_n hx hb dX6_part_37 rfl (lv_at hl 2 rfl) ?_
          refine lv_bipush (v := 121) hx hb dX6_part_38 (by decide) ?_
          obtain ⟨a5, ea5, na5, h⟩ := e_wr h
          refine xa_iast hx hb hK hP hD hS 17 rfl na5 ea5 dX6_part_40 (fun H locs hP hD hS => ?_)
          have hP : va_P D vwCl (wX6 cA ad thrown tape taped value weight many block ties lines pastValue pastWeight pastMany undos fresh newValue newWeight newMany newBlock newTies newLines hasBlock hasTies size att place sort number fault faultPlace lastFault lastPlace toValue toWeight toMany often firstOf lastOf unlikes unlikeMany isCandidate modes a5) H := hP
          have hD : va_D A (wX6 cA ad thrown tape taped value weight many block ties lines pastValue pastWeight pastMany undos fresh newValue newWeight newMany newBlock newTies newLines hasBlock hasTies size att place sort number fault faultPlace lastFault lastPlace toValue toWeight toMany often firstOf lastOf unlikes unlikeMany isCandidate modes a5) := hD
          refine lv_iload_n hx hb dX6_part_41 rfl (lv_at hl 2 rfl) ?_
          refine lv_istore_n (lv' := [(3, .int x2), (0, .ref (ad 0)), (1, .int x1), (2, .int x2)]) hx hb dX6_part_42 rfl hl (by decide) rfl (fun ls hl => ?_)
          have hL43 : ∀ (n : Nat) (x1 : Int32) (x2 : Int32) (x3 : Int32) (thrown : Int32) (tape : Nat → Int32) (taped : Int32) (value : Nat → Int32) (weight : Nat → Int32) (many : Int32) (block : Int32) (ties : Int32) (lines : Int32) (pastValue : Nat → Int32) (pastWeight : Nat → Int32) (pastMany : Nat → Int32) (undos : Int32) (fresh : Int32) (newValue : Nat → Int32) (newWeight : Nat → Int32) (newMany : Int32) (newBlock : Int32) (newTies : Int32) (newLines : Int32) (hasBlock : Int32) (hasTies : Int32) (size : Int32) (att : Int32) (place : Int32) (sort : Int32) (number : Int32) (fault : Int32) (faultPlace : Int32) (lastFault : Int32) (lastPlace : Int32) (toValue : Nat → Int32) (toWeight : Nat → Int32) (toMany : Int32) (often : Nat → Int32) (firstOf : Nat → Int32) (lastOf : Nat → Int32) (unlikes : Nat → Int32) (unlikeMany : Int32) (isCandidate : Nat → Int32) (modes : Nat → Int32) (fewest : Nat → Int32) (z6 : (Nat → Int32) × (Nat → Int32) × (Nat → Int32) × (Nat → Int32) × Int32 × (Nat → Int32)) (ls : Array Slot) (H : Heap) (locs : List Loc), lv_has ls 5 [(0, .ref (ad 0)), (1, .int x1), (2, .int x2), (3, .int x3)] → va_P D vwCl (wX6 cA ad thrown tape taped value weight many block ties lines pastValue pastWeight pastMany undos fresh newValue newWeight newMany newBlock newTies newLines hasBlock hasTies size att place sort number fault faultPlace lastFault lastPlace toValue toWeight toMany often firstOf lastOf unlikes unlikeMany isCandidate modes fewest) H → va_D A (wX6 cA ad thrown tape taped value weight many block ties lines pastValue pastWeight pastMany undos fresh newValue newWeight newMany newBlock newTies newLines hasBlock hasTies size att place sort number fault faultPlace lastFault lastPlace toValue toWeight toMany often firstOf lastOf unlikes unlikeMany isCandidate modes fewest) → va_S A s.heap H locs → mX6_part_L43 value many ties x2 n x3 often firstOf lastOf unlikes unlikeMany fewest = some z6 → (∀ (ls : Array Slot) (H : Heap) (locs : List Loc), lv_has ls 5 [(0, .ref (ad 0)), (1, .int x1), (2, .int x2)] → va_P D vwCl (wX6 cA ad thrown tape taped value weight many block ties lines pastValue pastWeight pastMany undos fresh newValue newWeight newMany newBlock newTies newLines hasBlock hasTies size att place sort number fault faultPlace lastFault lastPlace toValue toWeight toMany z6.1 z6.2.1 z6.2.2.1 z6.2.2.2.1 z6.2.2.2.2.1 isCandidate modes z6.2.2.2.2.2) H → va_D A (wX6 cA ad thrown tape taped value weight many block ties lines pastValue pastWeight pastMany undos fresh newValue newWeight newMany newBlock newTies newLines hasBlock hasTies size att place sort number fault faultPlace lastFault lastPlace toValue toWeight toMany z6.1 z6.2.1 z6.2.2.1 z6.2.2.2.1 z6.2.2.2.2.1 isCandidate modes z6.2.2.2.2.2) → va_S A s.heap H locs → W p l e (headSpec wsX6_part { frames := 4, cells := 0, slots := 0, locals := 91 }).room s m args below meth c H locs 0 0 Q (F0 m 102 ls [])) → W p l e (headSpec wsX6_part { frames := 4, cells := 0, slots := 0, locals := 91 }).room s m args below meth c H locs 0 0 Q (F0 m 43 ls []) := by
            intro n
            induction n with
            | zero => intro x1 x2 x3 thrown tape taped value weight many block ties lines pastValue pastWeight pastMany undos fresh newValue newWeight newMany newBlock newTies newLines hasBlock hasTies size att place sort number fault faultPlace lastFault lastPlace toValue toWeight toMany often firstOf lastOf unlikes unlikeMany isCandidate modes fewest z6 ls H locs hl hP hD hS h hk43; exact e_n h
            | succ n ih43 =>
              intro x1 x2 x3 thrown tape taped value weight many block ties lines pastValue pastWeight pastMany undos fresh newValue newWeight newMany newBlock newTies newLines hasBlock hasTies size att place sort number fault faultPlace lastFault lastPlace toValue toWeight toMany often firstOf lastOf unlikes unlikeMany isCandidate modes fewest z6 ls H locs hl hP hD hS h hk43
              rw [mX6_part_L43.eq_2] at h
              refine lv_iload_n hx hb dX6_part_43 rfl (lv_at hl 3 rfl) ?_
              refine lv_aload_n hx hb dX6_part_44 rfl (lv_at hl 0 rfl) ?_
              refine va_get (D := D) (ci := 6) (v := .int many) (C := RX6) (T := TX6) (N := 42) hx hb hts iX6 hown hK hP 0 rfl rfl 5 (Nat.le_of_ble_eq_true rfl) f175 (fun _ h9 => h9) rfl dX6_part_45 ?_
              refine lv_icmp_ge (tgt := 102) hx hb dX6_part_48 (by decide) (fun c7 => ?_) (fun c7 => ?_)
              · have h := e_t c7 h
                obtain rfl := e_s h
                exact hk43 _ _ _ (lv_sub hl [0, 1, 2] rfl) hP hD hS
              · have h := e_f c7 h
                refine lv_aload_n hx hb dX6_part_51 rfl (lv_at hl 0 rfl) ?_
                refine va_get (D := D) (ci := 6) (v := .ref (ad 17)) (C := RX6) (T := TX6) (N := 42) hx hb hts iX6 hown hK hP 0 rfl rfl 41 (Nat.le_of_ble_eq_true rfl) f66 (fun _ h9 => h9) rfl dX6_part_52 ?_
                refine lv_iload_n hx hb dX6_part_55 rfl (lv_at hl 3 rfl) ?_
                refine lv_iconst (v := 1) hx hb dX6_part_56 (by decide) ?_
                refine lv_iadd hx hb dX6_part_57 ?_
                obtain ⟨v8, ev8, nv8, h⟩ := e_rd h
                refine xa_iald hx hb hK hP 17 rfl nv8 ev8 dX6_part_58 ?_
                refine lv_iconst (v := 1) hx hb dX6_part_59 (by decide) ?_
                refine lv_iadd hx hb dX6_part_60 ?_
                refine lv_aload_n hx hb dX6_part_61 rfl (lv_at hl 0 rfl) ?_
                refine va_get (D := D) (ci := 6) (v := .ref (ad 17)) (C := RX6) (T := TX6) (N := 42) hx hb hts iX6 hown hK hP 0 rfl rfl 41 (Nat.le_of_ble_eq_true rfl) f66 (fun _ h9 => h9) rfl dX6_part_62 ?_
                refine lv_iload_n hx hb dX6_part_65 rfl (lv_at hl 2 rfl) ?_
                obtain ⟨v9, ev9, nv9, h⟩ := e_rd h
                refine xa_iald hx hb hK hP 17 rfl nv9 ev9 dX6_part_66 ?_
                refine lv_icmp_ge (tgt := 96) hx hb dX6_part_67 (by decide) (fun c10 => ?_) (fun c10 => ?_)
                · have h := e_t c10 h
                  refine lv_iinc (v := (x3 + 1)) (lv' := [(3, .int (x3 + 1)), (0, .ref (ad 0)), (1, .int x1), (2, .int x2)]) hx hb dX6_part_96 hl (k := 3) rfl rfl (by decide) rfl (fun ls hl => ?_)
                  refine lv_goto (tgt := 43) hx hb dX6_part_99 (by decide) ?_
                  exact ih43 x1 x2 (x3 + 1) thrown tape taped value weight many block ties lines pastValue pastWeight pastMany undos fresh newValue newWeight newMany newBlock newTies newLines hasBlock hasTies size att place sort number fault faultPlace lastFault lastPlace toValue toWeight toMany often firstOf lastOf unlikes unlikeMany isCandidate modes fewest z6 _ _ _ (lv_sub hl [1, 2, 3, 0] rfl) hP hD hS h hk43
                · have h := e_f c10 h
                  refine lv_aload_n hx hb dX6_part_70 rfl (lv_at hl 0 rfl) ?_
                  refine lv_iload_n hx hb dX6_part_71 rfl (lv_at hl 2 rfl) ?_
                  refine lv_iload_n hx hb dX6_part_72 rfl (lv_at hl 3 rfl) ?_
                  obtain ⟨q11, eq11, h⟩ := e_b h
                  refine xv_i0 (As := [.int x2, .int x3]) (rest := []) (ci := 6) (b := ad 0) ⟨hx, hb, hml, hown, hts⟩ hl.1 (kX6_majorityOf l D cA ad thrown tape taped value weight many block ties lines pastValue pastWeight pastMany undos fresh newValue newWeight newMany newBlock newTies newLines hasBlock hasTies size att place sort number fault faultPlace lastFault lastPlace toValue toWeight toMany often firstOf lastOf unlikes unlikeMany isCandidate modes fewest x2 x3  _ eq11) (cwV 2 hts gX6_part_X6_majorityOf rfl rfl rfl (by decide +kernel) ⟨Nat.le_of_ble_eq_true rfl, Nat.le_of_ble_eq_true rfl⟩) rfl hK hP hD hS hA 0 rfl rfl rfl rfl (Nat.le_of_ble_eq_true rfl) dX6_part_73 ⟨Nat.zero_le _, Nat.zero_le _⟩ (fun H locs hP hD hS hnq11 => ?_)
                  have hP : va_P D vwCl (wX6 cA ad thrown tape taped value weight many block ties lines pastValue pastWeight pastMany undos fresh newValue newWeight newMany newBlock newTies newLines hasBlock hasTies size att place sort number fault faultPlace lastFault lastPlace toValue toWeight toMany q11.2.1 q11.2.2.1 q11.2.2.2.1 q11.2.2.2.2.1 q11.2.2.2.2.2 isCandidate modes fewest) H := hP
                  have hD : va_D A (wX6 cA ad thrown tape taped value weight many block ties lines pastValue pastWeight pastMany undos fresh newValue newWeight newMany newBlock newTies newLines hasBlock hasTies size att place sort number fault faultPlace lastFault lastPlace toValue toWeight toMany q11.2.1 q11.2.2.1 q11.2.2.2.1 q11.2.2.2.2.1 q11.2.2.2.2.2 isCandidate modes fewest) := hD
                  refine lv_iconst (v := (-1)) hx hb dX6_part_76 (by decide) ?_
                  refine lv_icmp_eq (tgt := 96) hx hb dX6_part_77 (by decide) (fun c12 => ?_) (fun c12 => ?_)
                  · have h := e_t c12 h
                    refine lv_iinc (v := (x3 + 1)) (lv' := [(3, .int (x3 + 1)), (0, .ref (ad 0)), (1, .int x1), (2, .int x2)]) hx hb dX6_part_96 hl (k := 3) rfl rfl (by decide) rfl (fun ls hl => ?_)
                    refine lv_goto (tgt := 43) hx hb dX6_part_99 (by decide) ?_
                    exact ih43 x1 x2 (x3 + 1) thrown tape taped value weight many block ties lines pastValue pastWeight pastMany undos fresh newValue newWeight newMany newBlock newTies newLines hasBlock hasTies size att place sort number fault faultPlace lastFault lastPlace toValue toWeight toMany q11.2.1 q11.2.2.1 q11.2.2.2.1 q11.2.2.2.2.1 q11.2.2.2.2.2 isCandidate modes fewest z6 _ _ _ (lv_sub hl [1, 2, 3, 0] rfl) hP hD hS h hk43
                  · have h := e_f c12 h
                    refine lv_aload_n hx hb dX6_part_80 rfl (lv_at hl 0 rfl) ?_
                    refine va_get (D := D) (ci := 6) (v := .ref (ad 17)) (C := RX6) (T := TX6) (N := 42) hx hb hts iX6 hown hK hP 0 rfl rfl 41 (Nat.le_of_ble_eq_true rfl) f66 (fun _ h9 => h9) rfl dX6_part_81 ?_
                    refine lv_iload_n hx hb dX6_part_84 rfl (lv_at hl 2 rfl) ?_
                    refine lv_aload_n hx hb dX6_part_85 rfl (lv_at hl 0 rfl) ?_
                    refine va_get (D := D) (ci := 6) (v := .ref (ad 17)) (C := RX6) (T := TX6) (N := 42) hx hb hts iX6 hown hK hP 0 rfl rfl 41 (Nat.le_of_ble_eq_true rfl) f66 (fun _ h9 => h9) rfl dX6_part_86 ?_
                    refine lv_iload_n hx hb dX6_part_89 rfl (lv_at hl 3 rfl) ?_
                    refine lv_iconst (v := 1) hx hb dX6_part_90 (by decide) ?_
                    refine lv_iadd hx hb dX6_part_91 ?_
                    obtain ⟨v13, ev13, nv13, h⟩ := e_rd h
                    refine xa_iald hx hb hK hP 17 rfl nv13 ev13 dX6_part_92 ?_
                    refine lv_iconst (v := 1) hx hb dX6_part_93 (by decide) ?_
                    refine lv_iadd hx hb dX6_part_94 ?_
                    obtain ⟨a14, ea14, na14, h⟩ := e_wr h
                    refine xa_iast hx hb hK hP hD hS 17 rfl na14 ea14 dX6_part_95 (fun H locs hP hD hS => ?_)
                    have hP : va_P D vwCl (wX6 cA ad thrown tape taped value weight many block ties lines pastValue pastWeight pastMany undos fresh newValue newWeight newMany newBlock newTies newLines hasBlock hasTies size att place sort number fault faultPlace lastFault lastPlace toValue toWeight toMany q11.2.1 q11.2.2.1 q11.2.2.2.1 q11.2.2.2.2.1 q11.2.2.2.2.2 isCandidate modes a14) H := hP
                    have hD : va_D A (wX6 cA ad thrown tape taped value weight many block ties lines pastValue pastWeight pastMany undos fresh newValue newWeight newMany newBlock newTies newLines hasBlock hasTies size att place sort number fault faultPlace lastFault lastPlace toValue toWeight toMany q11.2.1 q11.2.2.1 q11.2.2.2.1 q11.2.2.2.2.1 q11.2.2.2.2.2 isCandidate modes a14) := hD
                    refine lv_iinc (v := (x3 + 1)) (lv' := [(3, .int (x3 + 1)), (0, .ref (ad 0)), (1, .int x1), (2, .int x2)]) hx hb dX6_part_96 hl (k := 3) rfl rfl (by decide) rfl (fun ls hl => ?_)
                    refine lv_goto (tgt := 43) hx hb dX6_part_99 (by decide) ?_
                    exact ih43 x1 x2 (x3 + 1) thrown tape taped value weight many block ties lines pastValue pastWeight pastMany undos fresh newValue newWeight newMany newBlock newTies newLines hasBlock hasTies size att place sort number fault faultPlace lastFault lastPlace toValue toWeight toMany q11.2.1 q11.2.2.1 q11.2.2.2.1 q11.2.2.2.2.1 q11.2.2.2.2.2 isCandidate modes a14 z6 _ _ _ (lv_sub hl [1, 2, 3, 0] rfl) hP hD hS h hk43
          obtain ⟨z15, ez15, h⟩ := e_b h
          refine hL43 FU x1 x2 x2 thrown tape taped value weight many block ties lines pastValue pastWeight pastMany undos fresh newValue newWeight newMany newBlock newTies newLines hasBlock hasTies size att place sort number fault faultPlace lastFault lastPlace toValue toWeight toMany often firstOf lastOf unlikes unlikeMany isCandidate modes a5 z15 _ _ _ (lv_sub hl [1, 2, 3, 0] rfl) hP hD hS ez15 (fun ls H locs hl hP hD hS => ?_)
          refine lv_iinc (v := (x2 + (-1))) (lv' := [(2, .int (x2 + (-1))), (0, .ref (ad 0)), (1, .int x1)]) hx hb dX6_part_102 hl (k := 2) rfl rfl (by decide) rfl (fun ls hl => ?_)
          refine lv_goto (tgt := 29) hx hb dX6_part_105 (by decide) ?_
          exact ih29 x1 (x2 + (-1)) thrown tape taped value weight many block ties lines pastValue pastWeight pastMany undos fresh newValue newWeight newMany newBlock newTies newLines hasBlock hasTies size att place sort number fault faultPlace lastFault lastPlace toValue toWeight toMany z15.1 z15.2.1 z15.2.2.1 z15.2.2.2.1 z15.2.2.2.2.1 isCandidate modes z15.2.2.2.2.2 z3 _ _ _ (lv_sub hl [1, 2, 0] rfl) hP hD hS h hk29
    obtain ⟨z16, ez16, h⟩ := e_b h
    refine hL29 FU x1 (many - 1) 0 tape taped value weight many block ties lines pastValue pastWeight pastMany undos fresh newValue newWeight newMany newBlock newTies newLines hasBlock hasTies size att place sort number fault faultPlace lastFault lastPlace toValue toWeight toMany often firstOf lastOf unlikes unlikeMany isCandidate modes a2 z16 _ _ _ (lv_sub hl [1, 2, 0] rfl) hP hD hS ez16 (fun ls H locs hl hP hD hS => ?_)
    refine lv_iload_n hx hb dX6_part_108 rfl (lv_at hl 1 rfl) ?_
    refine lv_iconst (v := (-1)) hx hb dX6_part_109 (by decide) ?_
    refine lv_icmp_ne (tgt := 120) hx hb dX6_part_110 (by decide) (fun c17 => ?_) (fun c17 => ?_)
    · have h := e_t c17 h
      refine lv_iconst (v := 0) hx hb dX6_part_120 (by decide) ?_
      refine lv_istore_n (lv' := [(2, .int 0), (0, .ref (ad 0)), (1, .int x1)]) hx hb dX6_part_121 rfl hl (by decide) rfl (fun ls hl => ?_)
      refine lv_iconst (v := 0) hx hb dX6_part_122 (by decide) ?_
      refine lv_istore_n (lv' := [(3, .int 0), (2, .int 0), (0, .ref (ad 0)), (1, .int x1)]) hx hb dX6_part_123 rfl hl (by decide) rfl (fun ls hl => ?_)
      have hL124 : ∀ (n : Nat) (x1 : Int32) (x2 : Int32) (x3 : Int32) (thrown : Int32) (tape : Nat → Int32) (taped : Int32) (value : Nat → Int32) (weight : Nat → Int32) (many : Int32) (block : Int32) (ties : Int32) (lines : Int32) (pastValue : Nat → Int32) (pastWeight : Nat → Int32) (pastMany : Nat → Int32) (undos : Int32) (fresh : Int32) (newValue : Nat → Int32) (newWeight : Nat → Int32) (newMany : Int32) (newBlock : Int32) (newTies : Int32) (newLines : Int32) (hasBlock : Int32) (hasTies : Int32) (size : Int32) (att : Int32) (place : Int32) (sort : Int32) (number : Int32) (fault : Int32) (faultPlace : Int32) (lastFault : Int32) (lastPlace : Int32) (toValue : Nat → Int32) (toWeight : Nat → Int32) (toMany : Int32) (often : Nat → Int32) (firstOf : Nat → Int32) (lastOf : Nat → Int32) (unlikes : Nat → Int32) (unlikeMany : Int32) (isCandidate : Nat → Int32) (modes : Nat → Int32) (fewest : Nat → Int32) (z18 : Int32 × (Nat → Int32) × (Nat → Int32) × (Nat → Int32) × (Nat → Int32) × Int32) (ls : Array Slot) (H : Heap) (locs : List Loc), lv_has ls 5 [(0, .ref (ad 0)), (1, .int x1), (2, .int x2), (3, .int x3)] → va_P D vwCl (wX6 cA ad thrown tape taped value weight many block ties lines pastValue pastWeight pastMany undos fresh newValue newWeight newMany newBlock newTies newLines hasBlock hasTies size att place sort number fault faultPlace lastFault lastPlace toValue toWeight toMany often firstOf lastOf unlikes unlikeMany isCandidate modes fewest) H → va_D A (wX6 cA ad thrown tape taped value weight many block ties lines pastValue pastWeight pastMany undos fresh newValue newWeight newMany newBlock newTies newLines hasBlock hasTies size att place sort number fault faultPlace lastFault lastPlace toValue toWeight toMany often firstOf lastOf unlikes unlikeMany isCandidate modes fewest) → va_S A s.heap H locs → mX6_part_L124 value many ties fewest x1 n x2 x3 often firstOf lastOf unlikes unlikeMany = some z18 → (∀ (ls : Array Slot) (H : Heap) (locs : List Loc), lv_has ls 5 [(0, .ref (ad 0)), (2, .int z18.1)] → va_P D vwCl (wX6 cA ad thrown tape taped value weight many block ties lines pastValue pastWeight pastMany undos fresh newValue newWeight newMany newBlock newTies newLines hasBlock hasTies size att place sort number fault faultPlace lastFault lastPlace toValue toWeight toMany z18.2.1 z18.2.2.1 z18.2.2.2.1 z18.2.2.2.2.1 z18.2.2.2.2.2 isCandidate modes fewest) H → va_D A (wX6 cA ad thrown tape taped value weight many block ties lines pastValue pastWeight pastMany undos fresh newValue newWeight newMany newBlock newTies newLines hasBlock hasTies size att place sort number fault faultPlace lastFault lastPlace toValue toWeight toMany z18.2.1 z18.2.2.1 z18.2.2.2.1 z18.2.2.2.2.1 z18.2.2.2.2.2 isCandidate modes fewest) → va_S A s.heap H locs → W p l e (headSpec wsX6_part { frames := 4, cells := 0, slots := 0, locals := 91 }).room s m args below meth c H locs 0 0 Q (F0 m 188 ls [])) → W p l e (headSpec wsX6_part { frames := 4, cells := 0, slots := 0, locals := 91 }).room s m args below meth c H locs 0 0 Q (F0 m 124 ls []) := by
        intro n
        induction n with
        | zero => intro x1 x2 x3 thrown tape taped value weight many block ties lines pastValue pastWeight pastMany undos fresh newValue newWeight newMany newBlock newTies newLines hasBlock hasTies size att place sort number fault faultPlace lastFault lastPlace toValue toWeight toMany often firstOf lastOf unlikes unlikeMany isCandidate modes fewest z18 ls H locs hl hP hD hS h hk124; exact e_n h
        | succ n ih124 =>
          intro x1 x2 x3 thrown tape taped value weight many block ties lines pastValue pastWeight pastMany undos fresh newValue newWeight newMany newBlock newTies newLines hasBlock hasTies size att place sort number fault faultPlace lastFault lastPlace toValue toWeight toMany often firstOf lastOf unlikes unlikeMany isCandidate modes fewest z18 ls H locs hl hP hD hS h hk124
          rw [mX6_part_L124.eq_2] at h
          refine lv_iload_n hx hb dX6_part_124 rfl (lv_at hl 3 rfl) ?_
          refine lv_iload_n hx hb dX6_part_125 rfl (lv_at hl 1 rfl) ?_
          refine lv_icmp_ge (tgt := 188) hx hb dX6_part_126 (by decide) (fun c19 => ?_) (fun c19 => ?_)
          · have h := e_t c19 h
            obtain rfl := e_s h
            exact hk124 _ _ _ (lv_sub hl [0, 2] rfl) hP hD hS
          · have h := e_f c19 h
            refine lv_iload_n hx hb dX6_part_129 rfl (lv_at hl 2 rfl) ?_
            refine lv_aload_n hx hb dX6_part_130 rfl (lv_at hl 0 rfl) ?_
            refine va_get (D := D) (ci := 6) (v := .int many) (C := RX6) (T := TX6) (N := 42) hx hb hts iX6 hown hK hP 0 rfl rfl 5 (Nat.le_of_ble_eq_true rfl) f175 (fun _ h9 => h9) rfl dX6_part_131 ?_
            refine lv_icmp_ge (tgt := 188) hx hb dX6_part_134 (by decide) (fun c20 => ?_) (fun c20 => ?_)
            · have h := e_t c20 h
              obtain rfl := e_s h
              exact hk124 _ _ _ (lv_sub hl [0, 2] rfl) hP hD hS
            · have h := e_f c20 h
              refine lv_iload_n hx hb dX6_part_137 rfl (lv_at hl 2 rfl) ?_
              refine lv_istore (lv' := [(4, .int x2), (0, .ref (ad 0)), (1, .int x1), (2, .int x2), (3, .int x3)]) hx hb dX6_part_138 hl (by decide) rfl (fun ls hl => ?_)
              have hL140 : ∀ (n : Nat) (x1 : Int32) (x2 : Int32) (x3 : Int32) (x4 : Int32) (thrown : Int32) (tape : Nat → Int32) (taped : Int32) (value : Nat → Int32) (weight : Nat → Int32) (many : Int32) (block : Int32) (ties : Int32) (lines : Int32) (pastValue : Nat → Int32) (pastWeight : Nat → Int32) (pastMany : Nat → Int32) (undos : Int32) (fresh : Int32) (newValue : Nat → Int32) (newWeight : Nat → Int32) (newMany : Int32) (newBlock : Int32) (newTies : Int32) (newLines : Int32) (hasBlock : Int32) (hasTies : Int32) (size : Int32) (att : Int32) (place : Int32) (sort : Int32) (number : Int32) (fault : Int32) (faultPlace : Int32) (lastFault : Int32) (lastPlace : Int32) (toValue : Nat → Int32) (toWeight : Nat → Int32) (toMany : Int32) (often : Nat → Int32) (firstOf : Nat → Int32) (lastOf : Nat → Int32) (unlikes : Nat → Int32) (unlikeMany : Int32) (isCandidate : Nat → Int32) (modes : Nat → Int32) (fewest : Nat → Int32) (z21 : Int32 × (Nat → Int32) × (Nat → Int32) × (Nat → Int32) × (Nat → Int32) × Int32) (ls : Array Slot) (H : Heap) (locs : List Loc), lv_has ls 5 [(0, .ref (ad 0)), (1, .int x1), (2, .int x2), (3, .int x3), (4, .int x4)] → va_P D vwCl (wX6 cA ad thrown tape taped value weight many block ties lines pastValue pastWeight pastMany undos fresh newValue newWeight newMany newBlock newTies newLines hasBlock hasTies size att place sort number fault faultPlace lastFault lastPlace toValue toWeight toMany often firstOf lastOf unlikes unlikeMany isCandidate modes fewest) H → va_D A (wX6 cA ad thrown tape taped value weight many block ties lines pastValue pastWeight pastMany undos fresh newValue newWeight newMany newBlock newTies newLines hasBlock hasTies size att place sort number fault faultPlace lastFault lastPlace toValue toWeight toMany often firstOf lastOf unlikes unlikeMany isCandidate modes fewest) → va_S A s.heap H locs → mX6_part_L140 value ties fewest x2 n x4 often firstOf lastOf unlikes unlikeMany = some z21 → (∀ (ls : Array Slot) (H : Heap) (locs : List Loc), lv_has ls 5 [(0, .ref (ad 0)), (1, .int x1), (3, .int x3), (4, .int z21.1)] → va_P D vwCl (wX6 cA ad thrown tape taped value weight many block ties lines pastValue pastWeight pastMany undos fresh newValue newWeight newMany newBlock newTies newLines hasBlock hasTies size att place sort number fault faultPlace lastFault lastPlace toValue toWeight toMany z21.2.1 z21.2.2.1 z21.2.2.2.1 z21.2.2.2.2.1 z21.2.2.2.2.2 isCandidate modes fewest) H → va_D A (wX6 cA ad thrown tape taped value weight many block ties lines pastValue pastWeight pastMany undos fresh newValue newWeight newMany newBlock newTies newLines hasBlock hasTies size att place sort number fault faultPlace lastFault lastPlace toValue toWeight toMany z21.2.1 z21.2.2.1 z21.2.2.2.1 z21.2.2.2.2.1 z21.2.2.2.2.2 isCandidate modes fewest) → va_S A s.heap H locs → W p l e (headSpec wsX6_part { frames := 4, cells := 0, slots := 0, locals := 91 }).room s m args below meth c H locs 0 0 Q (F0 m 177 ls [])) → W p l e (headSpec wsX6_part { frames := 4, cells := 0, slots := 0, locals := 91 }).room s m args below meth c H locs 0 0 Q (F0 m 140 ls []) := by
                intro n
                induction n with
                | zero => intro x1 x2 x3 x4 thrown tape taped value weight many block ties lines pastValue pastWeight pastMany undos fresh newValue newWeight newMany newBlock newTies newLines hasBlock hasTies size att place sort number fault faultPlace lastFault lastPlace toValue toWeight toMany often firstOf lastOf unlikes unlikeMany isCandidate modes fewest z21 ls H locs hl hP hD hS h hk140; exact e_n h
                | succ n ih140 =>
                  intro x1 x2 x3 x4 thrown tape taped value weight many block ties lines pastValue pastWeight pastMany undos fresh newValue newWeight newMany newBlock newTies newLines hasBlock hasTies size att place sort number fault faultPlace lastFault lastPlace toValue toWeight toMany often firstOf lastOf unlikes unlikeMany isCandidate modes fewest z21 ls H locs hl hP hD hS h hk140
                  rw [mX6_part_L140.eq_2] at h
                  refine lv_aload_n hx hb dX6_part_140 rfl (lv_at hl 0 rfl) ?_
                  refine va_get (D := D) (ci := 6) (v := .ref (ad 17)) (C := RX6) (T := TX6) (N := 42) hx hb hts iX6 hown hK hP 0 rfl rfl 41 (Nat.le_of_ble_eq_true rfl) f66 (fun _ h9 => h9) rfl dX6_part_141 ?_
                  refine lv_iload hx hb dX6_part_144 (lv_at hl 4 rfl) ?_
                  refine lv_iconst (v := 1) hx hb dX6_part_146 (by decide) ?_
                  refine lv_iadd hx hb dX6_part_147 ?_
                  obtain ⟨v22, ev22, nv22, h⟩ := e_rd h
                  refine xa_iald hx hb hK hP 17 rfl nv22 ev22 dX6_part_148 ?_
                  refine lv_iconst (v := 1) hx hb dX6_part_149 (by decide) ?_
                  refine lv_iadd hx hb dX6_part_150 ?_
                  refine lv_aload_n hx hb dX6_part_151 rfl (lv_at hl 0 rfl) ?_
                  refine va_get (D := D) (ci := 6) (v := .ref (ad 17)) (C := RX6) (T := TX6) (N := 42) hx hb hts iX6 hown hK hP 0 rfl rfl 41 (Nat.le_of_ble_eq_true rfl) f66 (fun _ h9 => h9) rfl dX6_part_152 ?_
                  refine lv_iload_n hx hb dX6_part_155 rfl (lv_at hl 2 rfl) ?_
                  obtain ⟨v23, ev23, nv23, h⟩ := e_rd h
                  refine xa_iald hx hb hK hP 17 rfl nv23 ev23 dX6_part_156 ?_
                  refine lv_icmp_ne (tgt := 171) hx hb dX6_part_157 (by decide) (fun c24 => ?_) (fun c24 => ?_)
                  · have h := e_t c24 h
                    refine lv_iinc (v := (x4 + 1)) (lv' := [(4, .int (x4 + 1)), (0, .ref (ad 0)), (1, .int x1), (2, .int x2), (3, .int x3)]) hx hb dX6_part_171 hl (k := 4) rfl rfl (by decide) rfl (fun ls hl => ?_)
                    refine lv_goto (tgt := 140) hx hb dX6_part_174 (by decide) ?_
                    exact ih140 x1 x2 x3 (x4 + 1) thrown tape taped value weight many block ties lines pastValue pastWeight pastMany undos fresh newValue newWeight newMany newBlock newTies newLines hasBlock hasTies size att place sort number fault faultPlace lastFault lastPlace toValue toWeight toMany often firstOf lastOf unlikes unlikeMany isCandidate modes fewest z21 _ _ _ (lv_sub hl [1, 2, 3, 4, 0] rfl) hP hD hS h hk140
                  · have h := e_f (not_not_intro c24) h
                    refine lv_aload_n hx hb dX6_part_160 rfl (lv_at hl 0 rfl) ?_
                    refine lv_iload_n hx hb dX6_part_161 rfl (lv_at hl 2 rfl) ?_
                    refine lv_iload hx hb dX6_part_162 (lv_at hl 4 rfl) ?_
                    obtain ⟨q25, eq25, h⟩ := e_b h
                    refine xv_i0 (As := [.int x2, .int x4]) (rest := []) (ci := 6) (b := ad 0) ⟨hx, hb, hml, hown, hts⟩ hl.1 (kX6_majorityOf l D cA ad thrown tape taped value weight many block ties lines pastValue pastWeight pastMany undos fresh newValue newWeight newMany newBlock newTies newLines hasBlock hasTies size att place sort number fault faultPlace lastFault lastPlace toValue toWeight toMany often firstOf lastOf unlikes unlikeMany isCandidate modes fewest x2 x4  _ eq25) (cwV 2 hts gX6_part_X6_majorityOf rfl rfl rfl (by decide +kernel) ⟨Nat.le_of_ble_eq_true rfl, Nat.le_of_ble_eq_true rfl⟩) rfl hK hP hD hS hA 0 rfl rfl rfl rfl (Nat.le_of_ble_eq_true rfl) dX6_part_164 ⟨Nat.zero_le _, Nat.zero_le _⟩ (fun H locs hP hD hS hnq25 => ?_)
                    have hP : va_P D vwCl (wX6 cA ad thrown tape taped value weight many block ties lines pastValue pastWeight pastMany undos fresh newValue newWeight newMany newBlock newTies newLines hasBlock hasTies size att place sort number fault faultPlace lastFault lastPlace toValue toWeight toMany q25.2.1 q25.2.2.1 q25.2.2.2.1 q25.2.2.2.2.1 q25.2.2.2.2.2 isCandidate modes fewest) H := hP
                    have hD : va_D A (wX6 cA ad thrown tape taped value weight many block ties lines pastValue pastWeight pastMany undos fresh newValue newWeight newMany newBlock newTies newLines hasBlock hasTies size att place sort number fault faultPlace lastFault lastPlace toValue toWeight toMany q25.2.1 q25.2.2.1 q25.2.2.2.1 q25.2.2.2.2.1 q25.2.2.2.2.2 isCandidate modes fewest) := hD
                    refine lv_iconst (v := (-1)) hx hb dX6_part_167 (by decide) ?_
                    refine lv_icmp_ne (tgt := 177) hx hb dX6_part_168 (by decide) (fun c26 => ?_) (fun c26 => ?_)
                    · have h := e_t c26 h
                      obtain rfl := e_s h
                      exact hk140 _ _ _ (lv_sub hl [0, 1, 3, 4] rfl) hP hD hS
                    · have h := e_f (not_not_intro c26) h
                      refine lv_iinc (v := (x4 + 1)) (lv' := [(4, .int (x4 + 1)), (0, .ref (ad 0)), (1, .int x1), (2, .int x2), (3, .int x3)]) hx hb dX6_part_171 hl (k := 4) rfl rfl (by decide) rfl (fun ls hl => ?_)
                      refine lv_goto (tgt := 140) hx hb dX6_part_174 (by decide) ?_
                      exact ih140 x1 x2 x3 (x4 + 1) thrown tape taped value weight many block ties lines pastValue pastWeight pastMany undos fresh newValue newWeight newMany newBlock newTies newLines hasBlock hasTies size att place sort number fault faultPlace lastFault lastPlace toValue toWeight toMany q25.2.1 q25.2.2.1 q25.2.2.2.1 q25.2.2.2.2.1 q25.2.2.2.2.2 isCandidate modes fewest z21 _ _ _ (lv_sub hl [1, 2, 3, 4, 0] rfl) hP hD hS h hk140
              obtain ⟨z27, ez27, h⟩ := e_b h
              refine hL140 FU x1 x2 x3 x2 thrown tape taped value weight many block ties lines pastValue pastWeight pastMany undos fresh newValue newWeight newMany newBlock newTies newLines hasBlock hasTies size att place sort number fault faultPlace lastFault lastPlace toValue toWeight toMany often firstOf lastOf unlikes unlikeMany isCandidate modes fewest z27 _ _ _ (lv_sub hl [1, 2, 3, 4, 0] rfl) hP hD hS ez27 (fun ls H locs hl hP hD hS => ?_)
              refine lv_iload hx hb dX6_part_177 (lv_at hl 3 rfl) ?_
              refine lv_iconst (v := 1) hx hb dX6_part_179 (by decide) ?_
              refine lv_iadd hx hb dX6_part_180 ?_
              refine lv_istore_n (lv' := [(2, .int (z27.1 + 1)), (0, .ref (ad 0)), (1, .int x1), (3, .int x3), (4, .int z27.1)]) hx hb dX6_part_181 rfl hl (by decide) rfl (fun ls hl => ?_)
              refine lv_iinc (v := (x3 + 1)) (lv' := [(3, .int (x3 + 1)), (2, .int (z27.1 + 1)), (0, .ref (ad 0)), (1, .int x1), (4, .int z27.1)]) hx hb dX6_part_182 hl (k := 3) rfl rfl (by decide) rfl (fun ls hl => ?_)
              refine lv_goto (tgt := 124) hx hb dX6_part_185 (by decide) ?_
              exact ih124 x1 (z27.1 + 1) (x3 + 1) thrown tape taped value weight many block ties lines pastValue pastWeight pastMany undos fresh newValue newWeight newMany newBlock newTies newLines hasBlock hasTies size att place sort number fault faultPlace lastFault lastPlace toValue toWeight toMany z27.2.1 z27.2.2.1 z27.2.2.2.1 z27.2.2.2.2.1 z27.2.2.2.2.2 isCandidate modes fewest z18 _ _ _ (lv_sub hl [2, 3, 1, 0] rfl) hP hD hS h hk124
      obtain ⟨z28, ez28, h⟩ := e_b h
      refine hL124 FU x1 0 0 0 tape taped value weight many block ties lines pastValue pastWeight pastMany undos fresh newValue newWeight newMany newBlock newTies newLines hasBlock hasTies size att place sort number fault faultPlace lastFault lastPlace toValue toWeight toMany z16.1 z16.2.1 z16.2.2.1 z16.2.2.2.1 z16.2.2.2.2.1 isCandidate modes z16.2.2.2.2.2 z28 _ _ _ (lv_sub hl [2, 3, 1, 0] rfl) hP hD hS ez28 (fun ls H locs hl hP hD hS => ?_)
      refine lv_iload_n hx hb dX6_part_188 rfl (lv_at hl 1 rfl) ?_
      refine lv_aload_n hx hb dX6_part_189 rfl (lv_at hl 0 rfl) ?_
      refine va_get (D := D) (ci := 6) (v := .int many) (C := RX6) (T := TX6) (N := 42) hx hb hts iX6 hown hK hP 0 rfl rfl 5 (Nat.le_of_ble_eq_true rfl) f175 (fun _ h9 => h9) rfl dX6_part_190 ?_
      refine lv_icmp_ge (tgt := 200) hx hb dX6_part_193 (by decide) (fun c29 => ?_) (fun c29 => ?_)
      · have h := e_t c29 h
        refine lv_bipush (v := (-2)) hx hb dX6_part_200 (by decide) ?_
        obtain rfl := e_s h
        exact hret hP hS rfl dX6_part_202
      · have h := e_f c29 h
        refine lv_iload_n hx hb dX6_part_196 rfl (lv_at hl 1 rfl) ?_
        refine lv_goto (tgt := 202) hx hb dX6_part_197 (by decide) ?_
        obtain rfl := e_s h
        exact hret hP hS rfl dX6_part_202
    · have h := e_f (not_not_intro c17) h
      refine lv_aload_n hx hb dX6_part_113 rfl (lv_at hl 0 rfl) ?_
      refine va_get (D := D) (ci := 6) (v := .ref (ad 17)) (C := RX6) (T := TX6) (N := 42) hx hb hts iX6 hown hK hP 0 rfl rfl 41 (Nat.le_of_ble_eq_true rfl) f66 (fun _ h9 => h9) rfl dX6_part_114 ?_
      refine lv_iconst (v := 0) hx hb dX6_part_117 (by decide) ?_
      obtain ⟨v30, ev30, nv30, h⟩ := e_rd h
      refine xa_iald hx hb hK hP 17 rfl nv30 ev30 dX6_part_118 ?_
      obtain rfl := e_s h
      exact hret hP hS rfl dX6_part_119
  · have h := e_f c1 h
    refine lv_iconst (v := (-1)) hx hb dX6_part_10 (by decide) ?_
    obtain rfl := e_s h
    exact hret hP hS rfl dX6_part_11
set_option maxHeartbeats 4000000 in
set_option maxRecDepth 100000 in
theorem kX6_unlikeOf (l : Launch) (D : va_G) (cA : Nat → ClassId) (ad : Nat → Nat) (thrown : Int32) (tape : Nat → Int32) (taped : Int32) (value : Nat → Int32) (weight : Nat → Int32) (many : Int32) (block : Int32) (ties : Int32) (lines : Int32) (pastValue : Nat → Int32) (pastWeight : Nat → Int32) (pastMany : Nat → Int32) (undos : Int32) (fresh : Int32) (newValue : Nat → Int32) (newWeight : Nat → Int32) (newMany : Int32) (newBlock : Int32) (newTies : Int32) (newLines : Int32) (hasBlock : Int32) (hasTies : Int32) (size : Int32) (att : Int32) (place : Int32) (sort : Int32) (number : Int32) (fault : Int32) (faultPlace : Int32) (lastFault : Int32) (lastPlace : Int32) (toValue : Nat → Int32) (toWeight : Nat → Int32) (toMany : Int32) (often : Nat → Int32) (firstOf : Nat → Int32) (lastOf : Nat → Int32) (unlikes : Nat → Int32) (unlikeMany : Int32) (isCandidate : Nat → Int32) (modes : Nat → Int32) (fewest : Nat → Int32)  (q : Int32 × (Nat → Int32) × (Nat → Int32) × (Nat → Int32) × (Nat → Int32) × Int32) (h : mX6_unlikeOf value many often firstOf lastOf unlikes unlikeMany  = some q) : MI l yX6_unlikeOf wsX6_unlikeOf { frames := 1, cells := 0, slots := 0, locals := 25 } D cA .int [.ref (ad 0)] (wX6 cA ad thrown tape taped value weight many block ties lines pastValue pastWeight pastMany undos fresh newValue newWeight newMany newBlock newTies newLines hasBlock hasTies size att place sort number fault faultPlace lastFault lastPlace toValue toWeight toMany often firstOf lastOf unlikes unlikeMany isCandidate modes fewest) (wX6 cA ad thrown tape taped value weight many block ties lines pastValue pastWeight pastMany undos fresh newValue newWeight newMany newBlock newTies newLines hasBlock hasTies size att place sort number fault faultPlace lastFault lastPlace toValue toWeight toMany q.2.1 q.2.2.1 q.2.2.2.1 q.2.2.2.2.1 q.2.2.2.2.2 isCandidate modes fewest) q.1 := by
  refine MI.of (cc := cX6_unlikeOf) (maxL := 1) (by decide +kernel) rfl rfl rfl (Nat.le_of_ble_eq_true rfl) ?_
  intro p e s m args below meth c A ls Q hx hb hml hts hown hK hP hD hA hS hl hret
  have hl : lv_has ls 1 [(0, .ref (ad 0))] := hl
  have f175 := hts (.fieldLink RX6 175 "ModeDeskModel" "many" "I") (by decide +kernel)
  have f242 := hts (.fieldLink RX6 242 "ModeDeskModel" "unlikeMany" "I") (by decide +kernel)
  have iX6 : ∀ w ∈ wsX60, w ∈ wsX6_unlikeOf := by decide +kernel
  unfold mX6_unlikeOf at h
  refine lv_aload_n hx hb dX6_unlikeOf_0 rfl (lv_at hl 0 rfl) ?_
  refine lv_iconst (v := 0) hx hb dX6_unlikeOf_1 (by decide) ?_
  refine lv_aload_n hx hb dX6_unlikeOf_2 rfl (lv_at hl 0 rfl) ?_
  refine va_get (D := D) (ci := 6) (v := .int many) (C := RX6) (T := TX6) (N := 42) hx hb hts iX6 hown hK hP 0 rfl rfl 5 (Nat.le_of_ble_eq_true rfl) f175 (fun _ h9 => h9) rfl dX6_unlikeOf_3 ?_
  refine lv_iconst (v := 1) hx hb dX6_unlikeOf_6 (by decide) ?_
  refine lv_isub hx hb dX6_unlikeOf_7 ?_
  refine lv_iconst (v := (-1)) hx hb dX6_unlikeOf_8 (by decide) ?_
  obtain ⟨q1, eq1, h⟩ := e_b h
  refine xv_v0 (As := [.int 0, .int (many - 1), .int (-1)]) (rest := []) (ci := 6) (b := ad 0) ⟨hx, hb, hml, hown, hts⟩ hl.1 (kX6_counts l D cA ad thrown tape taped value weight many block ties lines pastValue pastWeight pastMany undos fresh newValue newWeight newMany newBlock newTies newLines hasBlock hasTies size att place sort number fault faultPlace lastFault lastPlace toValue toWeight toMany often firstOf lastOf unlikes unlikeMany isCandidate modes fewest 0 (many - 1) (-1)  _ eq1) (cwV 3 hts gX6_unlikeOf_X6_counts rfl rfl rfl (by decide +kernel) ⟨Nat.le_of_ble_eq_true rfl, Nat.le_of_ble_eq_true rfl⟩) rfl hK hP hD hS hA 0 rfl rfl rfl rfl (Nat.le_of_ble_eq_true rfl) dX6_unlikeOf_9 ⟨Nat.zero_le _, Nat.zero_le _⟩ (fun H locs hP hD hS => ?_)
  have hP : va_P D vwCl (wX6 cA ad thrown tape taped value weight many block ties lines pastValue pastWeight pastMany undos fresh newValue newWeight newMany newBlock newTies newLines hasBlock hasTies size att place sort number fault faultPlace lastFault lastPlace toValue toWeight toMany q1.1 q1.2.1 q1.2.2.1 q1.2.2.2.1 q1.2.2.2.2 isCandidate modes fewest) H := hP
  have hD : va_D A (wX6 cA ad thrown tape taped value weight many block ties lines pastValue pastWeight pastMany undos fresh newValue newWeight newMany newBlock newTies newLines hasBlock hasTies size att place sort number fault faultPlace lastFault lastPlace toValue toWeight toMany q1.1 q1.2.1 q1.2.2.1 q1.2.2.2.1 q1.2.2.2.2 isCandidate modes fewest) := hD
  refine lv_aload_n hx hb dX6_unlikeOf_12 rfl (lv_at hl 0 rfl) ?_
  refine va_get (D := D) (ci := 6) (v := .int q1.2.2.2.2) (C := RX6) (T := TX6) (N := 42) hx hb hts iX6 hown hK hP 0 rfl rfl 38 (Nat.le_of_ble_eq_true rfl) f242 (fun _ h9 => h9) rfl dX6_unlikeOf_13 ?_
  obtain rfl := e_s h
  exact hret hP hS rfl dX6_unlikeOf_16
set_option maxHeartbeats 4000000 in
set_option maxRecDepth 100000 in
theorem kX6_weightsIn (l : Launch) (D : va_G) (cA : Nat → ClassId) (ad : Nat → Nat) (thrown : Int32) (tape : Nat → Int32) (taped : Int32) (value : Nat → Int32) (weight : Nat → Int32) (many : Int32) (block : Int32) (ties : Int32) (lines : Int32) (pastValue : Nat → Int32) (pastWeight : Nat → Int32) (pastMany : Nat → Int32) (undos : Int32) (fresh : Int32) (newValue : Nat → Int32) (newWeight : Nat → Int32) (newMany : Int32) (newBlock : Int32) (newTies : Int32) (newLines : Int32) (hasBlock : Int32) (hasTies : Int32) (size : Int32) (att : Int32) (place : Int32) (sort : Int32) (number : Int32) (fault : Int32) (faultPlace : Int32) (lastFault : Int32) (lastPlace : Int32) (toValue : Nat → Int32) (toWeight : Nat → Int32) (toMany : Int32) (often : Nat → Int32) (firstOf : Nat → Int32) (lastOf : Nat → Int32) (unlikes : Nat → Int32) (unlikeMany : Int32) (isCandidate : Nat → Int32) (modes : Nat → Int32) (fewest : Nat → Int32)  (q : Int32) (h : mX6_weightsIn weight many  = some q) : MI l yX6_weightsIn wsX6_weightsIn { frames := 0, cells := 0, slots := 0, locals := 0 } D cA .int [.ref (ad 0)] (wX6 cA ad thrown tape taped value weight many block ties lines pastValue pastWeight pastMany undos fresh newValue newWeight newMany newBlock newTies newLines hasBlock hasTies size att place sort number fault faultPlace lastFault lastPlace toValue toWeight toMany often firstOf lastOf unlikes unlikeMany isCandidate modes fewest) (wX6 cA ad thrown tape taped value weight many block ties lines pastValue pastWeight pastMany undos fresh newValue newWeight newMany newBlock newTies newLines hasBlock hasTies size att place sort number fault faultPlace lastFault lastPlace toValue toWeight toMany often firstOf lastOf unlikes unlikeMany isCandidate modes fewest) q := by
  refine MI.of (cc := cX6_weightsIn) (maxL := 3) (by decide +kernel) rfl rfl rfl (Nat.le_of_ble_eq_true rfl) ?_
  intro p e s m args below meth c A ls Q hx hb hml hts hown hK hP hD hA hS hl hret
  have hl : lv_has ls 3 [(0, .ref (ad 0))] := hl
  have f16 := hts (.fieldLink RX6 16 "ModeDeskModel" "weight" "[I") (by decide +kernel)
  have f175 := hts (.fieldLink RX6 175 "ModeDeskModel" "many" "I") (by decide +kernel)
  have iX6 : ∀ w ∈ wsX60, w ∈ wsX6_weightsIn := by decide +kernel
  unfold mX6_weightsIn at h
  refine lv_iconst (v := 0) hx hb dX6_weightsIn_0 (by decide) ?_
  refine lv_istore_n (lv' := [(1, .int 0), (0, .ref (ad 0))]) hx hb dX6_weightsIn_1 rfl hl (by decide) rfl (fun ls hl => ?_)
  refine lv_iconst (v := 0) hx hb dX6_weightsIn_2 (by decide) ?_
  refine lv_istore_n (lv' := [(2, .int 0), (1, .int 0), (0, .ref (ad 0))]) hx hb dX6_weightsIn_3 rfl hl (by decide) rfl (fun ls hl => ?_)
  have hL4 : ∀ (n : Nat) (x1 : Int32) (x2 : Int32) (thrown : Int32) (tape : Nat → Int32) (taped : Int32) (value : Nat → Int32) (weight : Nat → Int32) (many : Int32) (block : Int32) (ties : Int32) (lines : Int32) (pastValue : Nat → Int32) (pastWeight : Nat → Int32) (pastMany : Nat → Int32) (undos : Int32) (fresh : Int32) (newValue : Nat → Int32) (newWeight : Nat → Int32) (newMany : Int32) (newBlock : Int32) (newTies : Int32) (newLines : Int32) (hasBlock : Int32) (hasTies : Int32) (size : Int32) (att : Int32) (place : Int32) (sort : Int32) (number : Int32) (fault : Int32) (faultPlace : Int32) (lastFault : Int32) (lastPlace : Int32) (toValue : Nat → Int32) (toWeight : Nat → Int32) (toMany : Int32) (often : Nat → Int32) (firstOf : Nat → Int32) (lastOf : Nat → Int32) (unlikes : Nat → Int32) (unlikeMany : Int32) (isCandidate : Nat → Int32) (modes : Nat → Int32) (fewest : Nat → Int32) (z1 : Int32) (ls : Array Slot) (H : Heap) (locs : List Loc), lv_has ls 3 [(0, .ref (ad 0)), (1, .int x1), (2, .int x2)] → va_P D vwCl (wX6 cA ad thrown tape taped value weight many block ties lines pastValue pastWeight pastMany undos fresh newValue newWeight newMany newBlock newTies newLines hasBlock hasTies size att place sort number fault faultPlace lastFault lastPlace toValue toWeight toMany often firstOf lastOf unlikes unlikeMany isCandidate modes fewest) H → va_D A (wX6 cA ad thrown tape taped value weight many block ties lines pastValue pastWeight pastMany undos fresh newValue newWeight newMany newBlock newTies newLines hasBlock hasTies size att place sort number fault faultPlace lastFault lastPlace toValue toWeight toMany often firstOf lastOf unlikes unlikeMany isCandidate modes fewest) → va_S A s.heap H locs → mX6_weightsIn_L4 weight many n x1 x2 = some z1 → (∀ (ls : Array Slot) (H : Heap) (locs : List Loc), lv_has ls 3 [(1, .int z1)] → va_P D vwCl (wX6 cA ad thrown tape taped value weight many block ties lines pastValue pastWeight pastMany undos fresh newValue newWeight newMany newBlock newTies newLines hasBlock hasTies size att place sort number fault faultPlace lastFault lastPlace toValue toWeight toMany often firstOf lastOf unlikes unlikeMany isCandidate modes fewest) H → va_D A (wX6 cA ad thrown tape taped value weight many block ties lines pastValue pastWeight pastMany undos fresh newValue newWeight newMany newBlock newTies newLines hasBlock hasTies size att place sort number fault faultPlace lastFault lastPlace toValue toWeight toMany often firstOf lastOf unlikes unlikeMany isCandidate modes fewest) → va_S A s.heap H locs → W p l e (headSpec wsX6_weightsIn { frames := 0, cells := 0, slots := 0, locals := 0 }).room s m args below meth c H locs 0 0 Q (F0 m 27 ls [])) → W p l e (headSpec wsX6_weightsIn { frames := 0, cells := 0, slots := 0, locals := 0 }).room s m args below meth c H locs 0 0 Q (F0 m 4 ls []) := by
    intro n
    induction n with
    | zero => intro x1 x2 thrown tape taped value weight many block ties lines pastValue pastWeight pastMany undos fresh newValue newWeight newMany newBlock newTies newLines hasBlock hasTies size att place sort number fault faultPlace lastFault lastPlace toValue toWeight toMany often firstOf lastOf unlikes unlikeMany isCandidate modes fewest z1 ls H locs hl hP hD hS h hk4; exact e_n h
    | succ n ih4 =>
      intro x1 x2 thrown tape taped value weight many block ties lines pastValue pastWeight pastMany undos fresh newValue newWeight newMany newBlock newTies newLines hasBlock hasTies size att place sort number fault faultPlace lastFault lastPlace toValue toWeight toMany often firstOf lastOf unlikes unlikeMany isCandidate modes fewest z1 ls H locs hl hP hD hS h hk4
      rw [mX6_weightsIn_L4.eq_2] at h
      refine lv_iload_n hx hb dX6_weightsIn_4 rfl (lv_at hl 2 rfl) ?_
      refine lv_aload_n hx hb dX6_weightsIn_5 rfl (lv_at hl 0 rfl) ?_
      refine va_get (D := D) (ci := 6) (v := .int many) (C := RX6) (T := TX6) (N := 42) hx hb hts iX6 hown hK hP 0 rfl rfl 5 (Nat.le_of_ble_eq_true rfl) f175 (fun _ h9 => h9) rfl dX6_weightsIn_6 ?_
      refine lv_icmp_ge (tgt := 27) hx hb dX6_weightsIn_9 (by decide) (fun c2 => ?_) (fun c2 => ?_)
      · have h := e_t c2 h
        obtain rfl := e_s h
        exact hk4 _ _ _ (lv_sub hl [1] rfl) hP hD hS
      · have h := e_f c2 h
        refine lv_iload_n hx hb dX6_weightsIn_12 rfl (lv_at hl 1 rfl) ?_
        refine lv_aload_n hx hb dX6_weightsIn_13 rfl (lv_at hl 0 rfl) ?_
        refine va_get (D := D) (ci := 6) (v := .ref (ad 3)) (C := RX6) (T := TX6) (N := 42) hx hb hts iX6 hown hK hP 0 rfl rfl 4 (Nat.le_of_ble_eq_true rfl) f16 (fun _ h9 => h9) rfl dX6_weightsIn_14 ?_
        refine lv_iload_n hx hb dX6_weightsIn_17 rfl (lv_at hl 2 rfl) ?_
        obtain ⟨v3, ev3, nv3, h⟩ := e_rd h
        refine xa_iald hx hb hK hP 3 rfl nv3 ev3 dX6_weightsIn_18 ?_
        refine lv_iadd hx hb dX6_weightsIn_19 ?_
        refine lv_istore_n (lv' := [(1, .int (x1 + v3)), (0, .ref (ad 0)), (2, .int x2)]) hx hb dX6_weightsIn_20 rfl hl (by decide) rfl (fun ls hl => ?_)
        refine lv_iinc (v := (x2 + 1)) (lv' := [(2, .int (x2 + 1)), (1, .int (x1 + v3)), (0, .ref (ad 0))]) hx hb dX6_weightsIn_21 hl (k := 2) rfl rfl (by decide) rfl (fun ls hl => ?_)
        refine lv_goto (tgt := 4) hx hb dX6_weightsIn_24 (by decide) ?_
        exact ih4 (x1 + v3) (x2 + 1) thrown tape taped value weight many block ties lines pastValue pastWeight pastMany undos fresh newValue newWeight newMany newBlock newTies newLines hasBlock hasTies size att place sort number fault faultPlace lastFault lastPlace toValue toWeight toMany often firstOf lastOf unlikes unlikeMany isCandidate modes fewest z1 _ _ _ (lv_sub hl [2, 1, 0] rfl) hP hD hS h hk4
  obtain ⟨z4, ez4, h⟩ := e_b h
  refine hL4 FU 0 0 thrown tape taped value weight many block ties lines pastValue pastWeight pastMany undos fresh newValue newWeight newMany newBlock newTies newLines hasBlock hasTies size att place sort number fault faultPlace lastFault lastPlace toValue toWeight toMany often firstOf lastOf unlikes unlikeMany isCandidate modes fewest z4 _ _ _ (lv_sub hl [2, 1, 0] rfl) hP hD hS ez4 (fun ls H locs hl hP hD hS => ?_)
  refine lv_iload_n hx hb dX6_weightsIn_27 rfl (lv_at hl 0 rfl) ?_
  obtain rfl := e_s h
  exact hret hP hS rfl dX6_weightsIn_28
set_option maxHeartbeats 4000000 in
set_option maxRecDepth 100000 in
theorem kX6_count (l : Launch) (D : va_G) (cA : Nat → ClassId) (ad : Nat → Nat) (thrown : Int32) (tape : Nat → Int32) (taped : Int32) (value : Nat → Int32) (weight : Nat → Int32) (many : Int32) (block : Int32) (ties : Int32) (lines : Int32) (pastValue : Nat → Int32) (pastWeight : Nat → Int32) (pastMany : Nat → Int32) (undos : Int32) (fresh : Int32) (newValue : Nat → Int32) (newWeight : Nat → Int32) (newMany : Int32) (newBlock : Int32) (newTies : Int32) (newLines : Int32) (hasBlock : Int32) (hasTies : Int32) (size : Int32) (att : Int32) (place : Int32) (sort : Int32) (number : Int32) (fault : Int32) (faultPlace : Int32) (lastFault : Int32) (lastPlace : Int32) (toValue : Nat → Int32) (toWeight : Nat → Int32) (toMany : Int32) (often : Nat → Int32) (firstOf : Nat → Int32) (lastOf : Nat → Int32) (unlikes : Nat → Int32) (unlikeMany : Int32) (isCandidate : Nat → Int32) (modes : Nat → Int32) (fewest : Nat → Int32) (x1 : Int32) (q : Int32 × Int32 × (Nat → Int32) × (Nat → Int32) × (Nat → Int32) × (Nat → Int32) × Int32) (h : mX6_count thrown taped value weight many block ties lines undos often firstOf lastOf unlikes unlikeMany x1 = some q) : MI l yX6_count wsX6_count { frames := 2, cells := 0, slots := 0, locals := 45 } D cA .int [.ref (ad 0), .int x1] (wX6 cA ad thrown tape taped value weight many block ties lines pastValue pastWeight pastMany undos fresh newValue newWeight newMany newBlock newTies newLines hasBlock hasTies size att place sort number fault faultPlace lastFault lastPlace toValue toWeight toMany often firstOf lastOf unlikes unlikeMany isCandidate modes fewest) (wX6 cA ad q.2.1 tape taped value weight many block ties lines pastValue pastWeight pastMany undos fresh newValue newWeight newMany newBlock newTies newLines hasBlock hasTies size att place sort number fault faultPlace lastFault lastPlace toValue toWeight toMany q.2.2.1 q.2.2.2.1 q.2.2.2.2.1 q.2.2.2.2.2.1 q.2.2.2.2.2.2 isCandidate modes fewest) q.1 := by
  refine MI.of (cc := cX6_count) (maxL := 2) (by decide +kernel) rfl rfl rfl (Nat.le_of_ble_eq_true rfl) ?_
  intro p e s m args below meth c A ls Q hx hb hml hts hown hK hP hD hA hS hl hret
  have hl : lv_has ls 2 [(0, .ref (ad 0)), (1, .int x1)] := hl
  have f175 := hts (.fieldLink RX6 175 "ModeDeskModel" "many" "I") (by decide +kernel)
  have f178 := hts (.fieldLink RX6 178 "ModeDeskModel" "ties" "I") (by decide +kernel)
  have f181 := hts (.fieldLink RX6 181 "ModeDeskModel" "lines" "I") (by decide +kernel)
  have f184 := hts (.fieldLink RX6 184 "ModeDeskModel" "undos" "I") (by decide +kernel)
  have f69 := hts (.fieldLink RX6 69 "ModeDeskModel" "block" "I") (by decide +kernel)
  have f72 := hts (.fieldLink RX6 72 "ModeDeskModel" "thrown" "I") (by decide +kernel)
  have f75 := hts (.fieldLink RX6 75 "ModeDeskModel" "taped" "I") (by decide +kernel)
  have iX6 : ∀ w ∈ wsX60, w ∈ wsX6_count := by decide +kernel
  unfold mX6_count at h
  refine lv_aload_n hx hb dX6_count_0 rfl (lv_at hl 0 rfl) ?_
  refine lv_iconst (v := 0) hx hb dX6_count_1 (by decide) ?_
  refine va_put (D := D) (ci := 6) (v := .int 0) (ty := .int) (C := RX6) (T := TX6) (N := 42) hx hb hts iX6 tyX6 tyX6_ok nmX6 hown hK hP hD hS 0 rfl rfl 0 (Nat.le_of_ble_eq_true rfl) f72 (fun _ h9 => h9) rfl (tyX6_ok 0 (Nat.le_of_ble_eq_true rfl)) rfl rfl (Nat.le_of_ble_eq_true rfl) dX6_count_2 (fun H locs hP hD hS => ?_)
  have hP : va_P D vwCl (wX6 cA ad 0 tape taped value weight many block ties lines pastValue pastWeight pastMany undos fresh newValue newWeight newMany newBlock newTies newLines hasBlock hasTies size att place sort number fault faultPlace lastFault lastPlace toValue toWeight toMany often firstOf lastOf unlikes unlikeMany isCandidate modes fewest) H := hP
  have hD : va_D A (wX6 cA ad 0 tape taped value weight many block ties lines pastValue pastWeight pastMany undos fresh newValue newWeight newMany newBlock newTies newLines hasBlock hasTies size att place sort number fault faultPlace lastFault lastPlace toValue toWeight toMany often firstOf lastOf unlikes unlikeMany isCandidate modes fewest) := hD
  refine lv_iload_n hx hb dX6_count_5 rfl (lv_at hl 1 rfl) ?_
  by_cases c1 : x1 = 0
  · have h := e_t c1 h
    refine lv_tableIn (off := 50) (tgt := 56) hx hb dX6_count_6 (by rw [c1]; decide) (by rw [c1]; decide) (by rw [c1]; rfl) (by decide) ?_
    refine lv_aload_n hx hb dX6_count_56 rfl (lv_at hl 0 rfl) ?_
    refine va_get (D := D) (ci := 6) (v := .int many) (C := RX6) (T := TX6) (N := 42) hx hb hts iX6 hown hK hP 0 rfl rfl 5 (Nat.le_of_ble_eq_true rfl) f175 (fun _ h9 => h9) rfl dX6_count_57 ?_
    obtain rfl := e_s h
    exact hret hP hS rfl dX6_count_60
  have h := e_f c1 h
  by_cases c2 : x1 = 1
  · have h := e_t c2 h
    refine lv_tableIn (off := 55) (tgt := 61) hx hb dX6_count_6 (by rw [c2]; decide) (by rw [c2]; decide) (by rw [c2]; rfl) (by decide) ?_
    refine lv_aload_n hx hb dX6_count_61 rfl (lv_at hl 0 rfl) ?_
    refine va_get (D := D) (ci := 6) (v := .int block) (C := RX6) (T := TX6) (N := 42) hx hb hts iX6 hown hK hP 0 rfl rfl 6 (Nat.le_of_ble_eq_true rfl) f69 (fun _ h9 => h9) rfl dX6_count_62 ?_
    obtain rfl := e_s h
    exact hret hP hS rfl dX6_count_65
  have h := e_f c2 h
  by_cases c4 : x1 = 2
  · have h := e_t c4 h
    refine lv_tableIn (off := 60) (tgt := 66) hx hb dX6_count_6 (by rw [c4]; decide) (by rw [c4]; decide) (by rw [c4]; rfl) (by decide) ?_
    refine lv_aload_n hx hb dX6_count_66 rfl (lv_at hl 0 rfl) ?_
    obtain ⟨q3, eq3, h⟩ := e_b h
    refine xv_i0 (As := []) (rest := []) (ci := 6) (b := ad 0) ⟨hx, hb, hml, hown, hts⟩ hl.1 (kX6_blocks l D cA ad 0 tape taped value weight many block ties lines pastValue pastWeight pastMany undos fresh newValue newWeight newMany newBlock newTies newLines hasBlock hasTies size att place sort number fault faultPlace lastFault lastPlace toValue toWeight toMany often firstOf lastOf unlikes unlikeMany isCandidate modes fewest   _ eq3) (cwV 0 hts gX6_count_X6_blocks rfl rfl rfl (by decide +kernel) ⟨Nat.le_of_ble_eq_true rfl, Nat.le_of_ble_eq_true rfl⟩) rfl hK hP hD hS hA 0 rfl rfl rfl rfl (Nat.le_of_ble_eq_true rfl) dX6_count_67 ⟨Nat.zero_le _, Nat.zero_le _⟩ (fun H locs hP hD hS hnq3 => ?_)
    have hP : va_P D vwCl (wX6 cA ad 0 tape taped value weight many block ties lines pastValue pastWeight pastMany undos fresh newValue newWeight newMany newBlock newTies newLines hasBlock hasTies size att place sort number fault faultPlace lastFault lastPlace toValue toWeight toMany often firstOf lastOf unlikes unlikeMany isCandidate modes fewest) H := hP
    have hD : va_D A (wX6 cA ad 0 tape taped value weight many block ties lines pastValue pastWeight pastMany undos fresh newValue newWeight newMany newBlock newTies newLines hasBlock hasTies size att place sort number fault faultPlace lastFault lastPlace toValue toWeight toMany often firstOf lastOf unlikes unlikeMany isCandidate modes fewest) := hD
    obtain rfl := e_s h
    exact hret hP hS rfl dX6_count_70
  have h := e_f c4 h
  by_cases c5 : x1 = 3
  · have h := e_t c5 h
    refine lv_tableIn (off := 65) (tgt := 71) hx hb dX6_count_6 (by rw [c5]; decide) (by rw [c5]; decide) (by rw [c5]; rfl) (by decide) ?_
    refine lv_aload_n hx hb dX6_count_71 rfl (lv_at hl 0 rfl) ?_
    refine va_get (D := D) (ci := 6) (v := .int ties) (C := RX6) (T := TX6) (N := 42) hx hb hts iX6 hown hK hP 0 rfl rfl 7 (Nat.le_of_ble_eq_true rfl) f178 (fun _ h9 => h9) rfl dX6_count_72 ?_
    obtain rfl := e_s h
    exact hret hP hS rfl dX6_count_75
  have h := e_f c5 h
  by_cases c6 : x1 = 4
  · have h := e_t c6 h
    refine lv_tableIn (off := 70) (tgt := 76) hx hb dX6_count_6 (by rw [c6]; decide) (by rw [c6]; decide) (by rw [c6]; rfl) (by decide) ?_
    refine lv_aload_n hx hb dX6_count_76 rfl (lv_at hl 0 rfl) ?_
    refine va_get (D := D) (ci := 6) (v := .int lines) (C := RX6) (T := TX6) (N := 42) hx hb hts iX6 hown hK hP 0 rfl rfl 8 (Nat.le_of_ble_eq_true rfl) f181 (fun _ h9 => h9) rfl dX6_count_77 ?_
    obtain rfl := e_s h
    exact hret hP hS rfl dX6_count_80
  have h := e_f c6 h
  by_cases c8 : x1 = 5
  · have h := e_t c8 h
    refine lv_tableIn (off := 75) (tgt := 81) hx hb dX6_count_6 (by rw [c8]; decide) (by rw [c8]; decide) (by rw [c8]; rfl) (by decide) ?_
    refine lv_aload_n hx hb dX6_count_81 rfl (lv_at hl 0 rfl) ?_
    obtain ⟨q7, eq7, h⟩ := e_b h
    refine xv_i0 (As := []) (rest := []) (ci := 6) (b := ad 0) ⟨hx, hb, hml, hown, hts⟩ hl.1 (kX6_unlikeOf l D cA ad 0 tape taped value weight many block ties lines pastValue pastWeight pastMany undos fresh newValue newWeight newMany newBlock newTies newLines hasBlock hasTies size att place sort number fault faultPlace lastFault lastPlace toValue toWeight toMany often firstOf lastOf unlikes unlikeMany isCandidate modes fewest   _ eq7) (cwV 0 hts gX6_count_X6_unlikeOf rfl rfl rfl (by decide +kernel) ⟨Nat.le_of_ble_eq_true rfl, Nat.le_of_ble_eq_true rfl⟩) rfl hK hP hD hS hA 0 rfl rfl rfl rfl (Nat.le_of_ble_eq_true rfl) dX6_count_82 ⟨Nat.zero_le _, Nat.zero_le _⟩ (fun H locs hP hD hS hnq7 => ?_)
    have hP : va_P D vwCl (wX6 cA ad 0 tape taped value weight many block ties lines pastValue pastWeight pastMany undos fresh newValue newWeight newMany newBlock newTies newLines hasBlock hasTies size att place sort number fault faultPlace lastFault lastPlace toValue toWeight toMany q7.2.1 q7.2.2.1 q7.2.2.2.1 q7.2.2.2.2.1 q7.2.2.2.2.2 isCandidate modes fewest) H := hP
    have hD : va_D A (wX6 cA ad 0 tape taped value weight many block ties lines pastValue pastWeight pastMany undos fresh newValue newWeight newMany newBlock newTies newLines hasBlock hasTies size att place sort number fault faultPlace lastFault lastPlace toValue toWeight toMany q7.2.1 q7.2.2.1 q7.2.2.2.1 q7.2.2.2.2.1 q7.2.2.2.2.2 isCandidate modes fewest) := hD
    obtain rfl := e_s h
    exact hret hP hS rfl dX6_count_85
  have h := e_f c8 h
  by_cases c9 : x1 = 6
  · have h := e_t c9 h
    refine lv_tableIn (off := 80) (tgt := 86) hx hb dX6_count_6 (by rw [c9]; decide) (by rw [c9]; decide) (by rw [c9]; rfl) (by decide) ?_
    refine lv_aload_n hx hb dX6_count_86 rfl (lv_at hl 0 rfl) ?_
    refine va_get (D := D) (ci := 6) (v := .int undos) (C := RX6) (T := TX6) (N := 42) hx hb hts iX6 hown hK hP 0 rfl rfl 12 (Nat.le_of_ble_eq_true rfl) f184 (fun _ h9 => h9) rfl dX6_count_87 ?_
    obtain rfl := e_s h
    exact hret hP hS rfl dX6_count_90
  have h := e_f c9 h
  by_cases c11 : x1 = 7
  · have h := e_t c11 h
    refine lv_tableIn (off := 85) (tgt := 91) hx hb dX6_count_6 (by rw [c11]; decide) (by rw [c11]; decide) (by rw [c11]; rfl) (by decide) ?_
    refine lv_aload_n hx hb dX6_count_91 rfl (lv_at hl 0 rfl) ?_
    obtain ⟨q10, eq10, h⟩ := e_b h
    refine xv_i0 (As := []) (rest := []) (ci := 6) (b := ad 0) ⟨hx, hb, hml, hown, hts⟩ hl.1 (kX6_weightsIn l D cA ad 0 tape taped value weight many block ties lines pastValue pastWeight pastMany undos fresh newValue newWeight newMany newBlock newTies newLines hasBlock hasTies size att place sort number fault faultPlace lastFault lastPlace toValue toWeight toMany often firstOf lastOf unlikes unlikeMany isCandidate modes fewest   _ eq10) (cwV 0 hts gX6_count_X6_weightsIn rfl rfl rfl (by decide +kernel) ⟨Nat.le_of_ble_eq_true rfl, Nat.le_of_ble_eq_true rfl⟩) rfl hK hP hD hS hA 0 rfl rfl rfl rfl (Nat.le_of_ble_eq_true rfl) dX6_count_92 ⟨Nat.zero_le _, Nat.zero_le _⟩ (fun H locs hP hD hS hnq10 => ?_)
    have hP : va_P D vwCl (wX6 cA ad 0 tape taped value weight many block ties lines pastValue pastWeight pastMany undos fresh newValue newWeight newMany newBlock newTies newLines hasBlock hasTies size att place sort number fault faultPlace lastFault lastPlace toValue toWeight toMany often firstOf lastOf unlikes unlikeMany isCandidate modes fewest) H := hP
    have hD : va_D A (wX6 cA ad 0 tape taped value weight many block ties lines pastValue pastWeight pastMany undos fresh newValue newWeight newMany newBlock newTies newLines hasBlock hasTies size att place sort number fault faultPlace lastFault lastPlace toValue toWeight toMany often firstOf lastOf unlikes unlikeMany isCandidate modes fewest) := hD
    obtain rfl := e_s h
    exact hret hP hS rfl dX6_count_95
  have h := e_f c11 h
  by_cases c12 : x1 = 8
  · have h := e_t c12 h
    refine lv_tableIn (off := 90) (tgt := 96) hx hb dX6_count_6 (by rw [c12]; decide) (by rw [c12]; decide) (by rw [c12]; rfl) (by decide) ?_
    refine lv_aload_n hx hb dX6_count_96 rfl (lv_at hl 0 rfl) ?_
    refine va_get (D := D) (ci := 6) (v := .int taped) (C := RX6) (T := TX6) (N := 42) hx hb hts iX6 hown hK hP 0 rfl rfl 2 (Nat.le_of_ble_eq_true rfl) f75 (fun _ h9 => h9) rfl dX6_count_97 ?_
    obtain rfl := e_s h
    exact hret hP hS rfl dX6_count_100
  have h := e_f c12 h
  refine lv_tableOut (tgt := 101) hx hb dX6_count_6 (sw_out 8 (fun k hk => by match k, hk with | 0, _ => exact c1 | 1, _ => exact c2 | 2, _ => exact c4 | 3, _ => exact c5 | 4, _ => exact c6 | 5, _ => exact c8 | 6, _ => exact c9 | 7, _ => exact c11 | 8, _ => exact c12 | (n + 9), hk => exact absurd hk (by omega)) (by decide)) (by decide) ?_
  refine lv_iconst (v := (-1)) hx hb dX6_count_101 (by decide) ?_
  obtain rfl := e_s h
  exact hret hP hS rfl dX6_count_102

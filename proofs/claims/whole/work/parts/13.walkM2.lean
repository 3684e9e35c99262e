set_option maxHeartbeats 4000000 in
set_option maxRecDepth 100000 in
theorem kX6_becomes (l : Launch) (D : va_G) (cA : Nat → ClassId) (ad : Nat → Nat) (thrown : Int32) (tape : Nat → Int32) (taped : Int32) (value : Nat → Int32) (weight : Nat → Int32) (many : Int32) (block : Int32) (ties : Int32) (lines : Int32) (pastValue : Nat → Int32) (pastWeight : Nat → Int32) (pastMany : Nat → Int32) (undos : Int32) (fresh : Int32) (newValue : Nat → Int32) (newWeight : Nat → Int32) (newMany : Int32) (newBlock : Int32) (newTies : Int32) (newLines : Int32) (hasBlock : Int32) (hasTies : Int32) (size : Int32) (att : Int32) (place : Int32) (sort : Int32) (number : Int32) (fault : Int32) (faultPlace : Int32) (lastFault : Int32) (lastPlace : Int32) (toValue : Nat → Int32) (toWeight : Nat → Int32) (toMany : Int32) (often : Nat → Int32) (firstOf : Nat → Int32) (lastOf : Nat → Int32) (unlikes : Nat → Int32) (unlikeMany : Int32) (isCandidate : Nat → Int32) (modes : Nat → Int32) (fewest : Nat → Int32)  (q : (Nat → Int32) × (Nat → Int32) × Int32 × Int32) (h : mX6_becomes value weight many block fresh toValue toWeight toMany  = some q) : MV l yX6_becomes wsX6_becomes { frames := 3, cells := 0, slots := 0, locals := 70 } D cA [.ref (ad 0)] (wX6 cA ad thrown tape taped value weight many block ties lines pastValue pastWeight pastMany undos fresh newValue newWeight newMany newBlock newTies newLines hasBlock hasTies size att place sort number fault faultPlace lastFault lastPlace toValue toWeight toMany often firstOf lastOf unlikes unlikeMany isCandidate modes fewest) (wX6 cA ad thrown tape taped q.1 q.2.1 q.2.2.1 block ties lines pastValue pastWeight pastMany undos q.2.2.2 newValue newWeight newMany newBlock newTies newLines hasBlock hasTies size att place sort number fault faultPlace lastFault lastPlace toValue toWeight toMany often firstOf lastOf unlikes unlikeMany isCandidate modes fewest) := by
  refine MV.of (cc := cX6_becomes) (maxL := 2) (by decide) rfl rfl rfl (Nat.le_of_ble_eq_true rfl) ?_
  intro p e s m args below meth c A ls Q hx hb hml hts hown hK hP hD hA hS hl hret
  have hl : lv_has ls 2 [(0, .ref (ad 0))] := hl
  have f13 := hts (.fieldLink RX6 13 "ModeDeskModel" "value" "[I") (by decide +kernel)
  have f16 := hts (.fieldLink RX6 16 "ModeDeskModel" "weight" "[I") (by decide +kernel)
  have f175 := hts (.fieldLink RX6 175 "ModeDeskModel" "many" "I") (by decide +kernel)
  have f197 := hts (.fieldLink RX6 197 "ModeDeskModel" "toMany" "I") (by decide +kernel)
  have f28 := hts (.fieldLink RX6 28 "ModeDeskModel" "fresh" "I") (by decide +kernel)
  have f41 := hts (.fieldLink RX6 41 "ModeDeskModel" "toValue" "[I") (by decide +kernel)
  have f44 := hts (.fieldLink RX6 44 "ModeDeskModel" "toWeight" "[I") (by decide +kernel)
  have iX6 : ∀ w ∈ wsX60, w ∈ wsX6_becomes := by decide +kernel
  unfold mX6_becomes at h
  refine lv_aload_n hx hb dX6_becomes_0 rfl (lv_at hl 0 rfl) ?_
  refine lv_aload_n hx hb dX6_becomes_1 rfl (lv_at hl 0 rfl) ?_
  obtain ⟨q1, eq1, h⟩ := e_b h
  refine xv_i0 (As := []) (rest := [.ref (ad 0)]) (ci := 6) (b := ad 0) ⟨hx, hb, hml, hown, hts⟩ hl.1 (kX6_freshPairs l D cA ad thrown tape taped value weight many block ties lines pastValue pastWeight pastMany undos fresh newValue newWeight newMany newBlock newTies newLines hasBlock hasTies size att place sort number fault faultPlace lastFault lastPlace toValue toWeight toMany often firstOf lastOf unlikes unlikeMany isCandidate modes fewest   _ eq1) (cwV 0 hts gX6_becomes_X6_freshPairs rfl rfl rfl (by decide +kernel) ⟨Nat.le_of_ble_eq_true rfl, Nat.le_of_ble_eq_true rfl⟩) rfl hK hP hD hS hA 0 rfl rfl rfl rfl (Nat.le_of_ble_eq_true rfl) dX6_becomes_2 ⟨Nat.zero_le _, Nat.zero_le _⟩ (fun H locs hP hD hS hnq1 => ?_)
  have hP : va_P D vwCl (wX6 cA ad thrown tape taped value weight many block ties lines pastValue pastWeight pastMany undos fresh newValue newWeight newMany newBlock newTies newLines hasBlock hasTies size att place sort number fault faultPlace lastFault lastPlace toValue toWeight toMany often firstOf lastOf unlikes unlikeMany isCandidate modes fewest) H := hP
  have hD : va_D A (wX6 cA ad thrown tape taped value weight many block ties lines pastValue pastWeight pastMany undos fresh newValue newWeight newMany newBlock newTies newLines hasBlock hasTies size att place sort number fault faultPlace lastFault lastPlace toValue toWeight toMany often firstOf lastOf unlikes unlikeMany isCandidate modes fewest) := hD
  refine va_put (D := D) (ci := 6) (v := .int q1) (ty := .int) (C := RX6) (T := TX6) (N := 42) hx hb hts iX6 tyX6 tyX6_ok nmX6 hown hK hP hD hS 0 rfl rfl 13 (Nat.le_of_ble_eq_true rfl) f28 (fun _ h9 => h9) rfl (tyX6_ok 13 (Nat.le_of_ble_eq_true rfl)) rfl rfl (Nat.le_of_ble_eq_true rfl) dX6_becomes_5 (fun H locs hP hD hS => ?_)
  have hP : va_P D vwCl (wX6 cA ad thrown tape taped value weight many block ties lines pastValue pastWeight pastMany undos q1 newValue newWeight newMany newBlock newTies newLines hasBlock hasTies size att place sort number fault faultPlace lastFault lastPlace toValue toWeight toMany often firstOf lastOf unlikes unlikeMany isCandidate modes fewest) H := hP
  have hD : va_D A (wX6 cA ad thrown tape taped value weight many block ties lines pastValue pastWeight pastMany undos q1 newValue newWeight newMany newBlock newTies newLines hasBlock hasTies size att place sort number fault faultPlace lastFault lastPlace toValue toWeight toMany often firstOf lastOf unlikes unlikeMany isCandidate modes fewest) := hD
  refine lv_aload_n hx hb dX6_becomes_8 rfl (lv_at hl 0 rfl) ?_
  refine lv_aload_n hx hb dX6_becomes_9 rfl (lv_at hl 0 rfl) ?_
  refine va_get (D := D) (ci := 6) (v := .int toMany) (C := RX6) (T := TX6) (N := 42) hx hb hts iX6 hown hK hP 0 rfl rfl 33 (Nat.le_of_ble_eq_true rfl) f197 (fun _ h9 => h9) rfl dX6_becomes_10 ?_
  refine va_put (D := D) (ci := 6) (v := .int toMany) (ty := .int) (C := RX6) (T := TX6) (N := 42) hx hb hts iX6 tyX6 tyX6_ok nmX6 hown hK hP hD hS 0 rfl rfl 5 (Nat.le_of_ble_eq_true rfl) f175 (fun _ h9 => h9) rfl (tyX6_ok 5 (Nat.le_of_ble_eq_true rfl)) rfl rfl (Nat.le_of_ble_eq_true rfl) dX6_becomes_13 (fun H locs hP hD hS => ?_)
  have hP : va_P D vwCl (wX6 cA ad thrown tape taped value weight toMany block ties lines pastValue pastWeight pastMany undos q1 newValue newWeight newMany newBlock newTies newLines hasBlock hasTies size att place sort number fault faultPlace lastFault lastPlace toValue toWeight toMany often firstOf lastOf unlikes unlikeMany isCandidate modes fewest) H := hP
  have hD : va_D A (wX6 cA ad thrown tape taped value weight toMany block ties lines pastValue pastWeight pastMany undos q1 newValue newWeight newMany newBlock newTies newLines hasBlock hasTies size att place sort number fault faultPlace lastFault lastPlace toValue toWeight toMany often firstOf lastOf unlikes unlikeMany isCandidate modes fewest) := hD
  refine lv_iconst (v := 0) hx hb dX6_becomes_16 (by decide) ?_
  refine lv_istore_n (lv' := [(1, .int 0), (0, .ref (ad 0))]) hx hb dX6_becomes_17 rfl hl (by decide) rfl (fun ls hl => ?_)
  have hL18 : ∀ (n : Nat) (x1 : Int32) (thrown : Int32) (tape : Nat → Int32) (taped : Int32) (value : Nat → Int32) (weight : Nat → Int32) (many : Int32) (block : Int32) (ties : Int32) (lines : Int32) (pastValue : Nat → Int32) (pastWeight : Nat → Int32) (pastMany : Nat → Int32) (undos : Int32) (fresh : Int32) (newValue : Nat → Int32) (newWeight : Nat → Int32) (newMany : Int32) (newBlock : Int32) (newTies : Int32) (newLines : Int32) (hasBlock : Int32) (hasTies : Int32) (size : Int32) (att : Int32) (place : Int32) (sort : Int32) (number : Int32) (fault : Int32) (faultPlace : Int32) (lastFault : Int32) (lastPlace : Int32) (toValue : Nat → Int32) (toWeight : Nat → Int32) (toMany : Int32) (often : Nat → Int32) (firstOf : Nat → Int32) (lastOf : Nat → Int32) (unlikes : Nat → Int32) (unlikeMany : Int32) (isCandidate : Nat → Int32) (modes : Nat → Int32) (fewest : Nat → Int32) (z2 : (Nat → Int32) × (Nat → Int32)) (ls : Array Slot) (H : Heap) (locs : List Loc), lv_has ls 2 [(0, .ref (ad 0)), (1, .int x1)] → va_P D vwCl (wX6 cA ad thrown tape taped value weight many block ties lines pastValue pastWeight pastMany undos fresh newValue newWeight newMany newBlock newTies newLines hasBlock hasTies size att place sort number fault faultPlace lastFault lastPlace toValue toWeight toMany often firstOf lastOf unlikes unlikeMany isCandidate modes fewest) H → va_D A (wX6 cA ad thrown tape taped value weight many block ties lines pastValue pastWeight pastMany undos fresh newValue newWeight newMany newBlock newTies newLines hasBlock hasTies size att place sort number fault faultPlace lastFault lastPlace toValue toWeight toMany often firstOf lastOf unlikes unlikeMany isCandidate modes fewest) → va_S A s.heap H locs → mX6_becomes_L18 many toValue toWeight n x1 value weight = some z2 → (∀ (ls : Array Slot) (H : Heap) (locs : List Loc), lv_has ls 2 [] → va_P D vwCl (wX6 cA ad thrown tape taped z2.1 z2.2 many block ties lines pastValue pastWeight pastMany undos fresh newValue newWeight newMany newBlock newTies newLines hasBlock hasTies size att place sort number fault faultPlace lastFault lastPlace toValue toWeight toMany often firstOf lastOf unlikes unlikeMany isCandidate modes fewest) H → va_D A (wX6 cA ad thrown tape taped z2.1 z2.2 many block ties lines pastValue pastWeight pastMany undos fresh newValue newWeight newMany newBlock newTies newLines hasBlock hasTies size att place sort number fault faultPlace lastFault lastPlace toValue toWeight toMany often firstOf lastOf unlikes unlikeMany isCandidate modes fewest) → va_S A s.heap H locs → W p l e (headSpec wsX6_becomes { frames := 3, cells := 0, slots := 0, locals := 70 }).room s m args below meth c H locs 0 0 Q (F0 m 56 ls [])) → W p l e (headSpec wsX6_becomes { frames := 3, cells := 0, slots := 0, locals := 70 }).room s m args below meth c H locs 0 0 Q (F0 m 18 ls []) := by
    intro n
    induction n with
    | zero => intro x1 thrown tape taped value weight many block ties lines pastValue pastWeight pastMany undos fresh newValue newWeight newMany newBlock newTies newLines hasBlock hasTies size att place sort number fault faultPlace lastFault lastPlace toValue toWeight toMany often firstOf lastOf unlikes unlikeMany isCandidate modes fewest z2 ls H locs hl hP hD hS h hk18; exact e_n h
    | succ n ih18 =>
      intro x1 thrown tape taped value weight many block ties lines pastValue pastWeight pastMany undos fresh newValue newWeight newMany newBlock newTies newLines hasBlock hasTies size att place sort number fault faultPlace lastFault lastPlace toValue toWeight toMany often firstOf lastOf unlikes unlikeMany isCandidate modes fewest z2 ls H locs hl hP hD hS h hk18
      rw [mX6_becomes_L18.eq_2] at h
      refine lv_iload_n hx hb dX6_becomes_18 rfl (lv_at hl 1 rfl) ?_
      refine lv_aload_n hx hb dX6_becomes_19 rfl (lv_at hl 0 rfl) ?_
      refine va_get (D := D) (ci := 6) (v := .int many) (C := RX6) (T := TX6) (N := 42) hx hb hts iX6 hown hK hP 0 rfl rfl 5 (Nat.le_of_ble_eq_true rfl) f175 (fun _ h9 => h9) rfl dX6_becomes_20 ?_
      refine lv_icmp_ge (tgt := 56) hx hb dX6_becomes_23 (by decide) (fun c3 => ?_) (fun c3 => ?_)
      · have h := e_t c3 h
        obtain rfl := e_s h
        exact hk18 _ _ _ (lv_sub hl [] rfl) hP hD hS
      · have h := e_f c3 h
        refine lv_aload_n hx hb dX6_becomes_26 rfl (lv_at hl 0 rfl) ?_
        refine va_get (D := D) (ci := 6) (v := .ref (ad 2)) (C := RX6) (T := TX6) (N := 42) hx hb hts iX6 hown hK hP 0 rfl rfl 3 (Nat.le_of_ble_eq_true rfl) f13 (fun _ h9 => h9) rfl dX6_becomes_27 ?_
        refine lv_iload_n hx hb dX6_becomes_30 rfl (lv_at hl 1 rfl) ?_
        refine lv_aload_n hx hb dX6_becomes_31 rfl (lv_at hl 0 rfl) ?_
        refine va_get (D := D) (ci := 6) (v := .ref (ad 9)) (C := RX6) (T := TX6) (N := 42) hx hb hts iX6 hown hK hP 0 rfl rfl 31 (Nat.le_of_ble_eq_true rfl) f41 (fun _ h9 => h9) rfl dX6_becomes_32 ?_
        refine lv_iload_n hx hb dX6_becomes_35 rfl (lv_at hl 1 rfl) ?_
        obtain ⟨v4, ev4, nv4, h⟩ := e_rd h
        refine xa_iald hx hb hK hP 9 rfl nv4 ev4 dX6_becomes_36 ?_
        obtain ⟨a5, ea5, na5, h⟩ := e_wr h
        refine xa_iast hx hb hK hP hD hS 2 rfl na5 ea5 dX6_becomes_37 (fun H locs hP hD hS => ?_)
        have hP : va_P D vwCl (wX6 cA ad thrown tape taped a5 weight many block ties lines pastValue pastWeight pastMany undos fresh newValue newWeight newMany newBlock newTies newLines hasBlock hasTies size att place sort number fault faultPlace lastFault lastPlace toValue toWeight toMany often firstOf lastOf unlikes unlikeMany isCandidate modes fewest) H := hP
        have hD : va_D A (wX6 cA ad thrown tape taped a5 weight many block ties lines pastValue pastWeight pastMany undos fresh newValue newWeight newMany newBlock newTies newLines hasBlock hasTies size att place sort number fault faultPlace lastFault lastPlace toValue toWeight toMany often firstOf lastOf unlikes unlikeMany isCandidate modes fewest) := hD
        refine lv_aload_n hx hb dX6_becomes_38 rfl (lv_at hl 0 rfl) ?_
        refine va_get (D := D) (ci := 6) (v := .ref (ad 3)) (C := RX6) (T := TX6) (N := 42) hx hb hts iX6 hown hK hP 0 rfl rfl 4 (Nat.le_of_ble_eq_true rfl) f16 (fun _ h9 => h9) rfl dX6_becomes_39 ?_
        refine lv_iload_n hx hb dX6_becomes_42 rfl (lv_at hl 1 rfl) ?_
        refine lv_aload_n hx hb dX6_becomes_43 rfl (lv_at hl 0 rfl) ?_
        refine va_get (D := D) (ci := 6) (v := .ref (ad 10)) (C := RX6) (T := TX6) (N := 42) hx hb hts iX6 hown hK hP 0 rfl rfl 32 (Nat.le_of_ble_eq_true rfl) f44 (fun _ h9 => h9) rfl dX6_becomes_44 ?_
        refine lv_iload_n hx hb dX6_becomes_47 rfl (lv_at hl 1 rfl) ?_
        obtain ⟨v6, ev6, nv6, h⟩ := e_rd h
        refine xa_iald hx hb hK hP 10 rfl nv6 ev6 dX6_becomes_48 ?_
        obtain ⟨a7, ea7, na7, h⟩ := e_wr h
        refine xa_iast hx hb hK hP hD hS 3 rfl na7 ea7 dX6_becomes_49 (fun H locs hP hD hS => ?_)
        have hP : va_P D vwCl (wX6 cA ad thrown tape taped a5 a7 many block ties lines pastValue pastWeight pastMany undos fresh newValue newWeight newMany newBlock newTies newLines hasBlock hasTies size att place sort number fault faultPlace lastFault lastPlace toValue toWeight toMany often firstOf lastOf unlikes unlikeMany isCandidate modes fewest) H := hP
        have hD : va_D A (wX6 cA ad thrown tape taped a5 a7 many block ties lines pastValue pastWeight pastMany undos fresh newValue newWeight newMany newBlock newTies newLines hasBlock hasTies size att place sort number fault faultPlace lastFault lastPlace toValue toWeight toMany often firstOf lastOf unlikes unlikeMany isCandidate modes fewest) := hD
        refine lv_iinc (v := (x1 + 1)) (lv' := [(1, .int (x1 + 1)), (0, .ref (ad 0))]) hx hb dX6_becomes_50 hl (k := 1) rfl rfl (by decide) rfl (fun ls hl => ?_)
        refine lv_goto (tgt := 18) hx hb dX6_becomes_53 (by decide) ?_
        exact ih18 (x1 + 1) thrown tape taped a5 a7 many block ties lines pastValue pastWeight pastMany undos fresh newValue newWeight newMany newBlock newTies newLines hasBlock hasTies size att place sort number fault faultPlace lastFault lastPlace toValue toWeight toMany often firstOf lastOf unlikes unlikeMany isCandidate modes fewest z2 _ _ _ (lv_sub hl [1, 0] rfl) hP hD hS h hk18
  obtain ⟨z8, ez8, h⟩ := e_b h
  refine hL18 FU 0 thrown tape taped value weight toMany block ties lines pastValue pastWeight pastMany undos q1 newValue newWeight newMany newBlock newTies newLines hasBlock hasTies size att place sort number fault faultPlace lastFault lastPlace toValue toWeight toMany often firstOf lastOf unlikes unlikeMany isCandidate modes fewest z8 _ _ _ (lv_sub hl [1, 0] rfl) hP hD hS ez8 (fun ls H locs hl hP hD hS => ?_)
  obtain rfl := e_s h
  exact hret hP hS dX6_becomes_56
set_option maxHeartbeats 4000000 in
set_option maxRecDepth 100000 in
theorem kX6_copies (l : Launch) (D : va_G) (cA : Nat → ClassId) (ad : Nat → Nat) (thrown : Int32) (tape : Nat → Int32) (taped : Int32) (value : Nat → Int32) (weight : Nat → Int32) (many : Int32) (block : Int32) (ties : Int32) (lines : Int32) (pastValue : Nat → Int32) (pastWeight : Nat → Int32) (pastMany : Nat → Int32) (undos : Int32) (fresh : Int32) (newValue : Nat → Int32) (newWeight : Nat → Int32) (newMany : Int32) (newBlock : Int32) (newTies : Int32) (newLines : Int32) (hasBlock : Int32) (hasTies : Int32) (size : Int32) (att : Int32) (place : Int32) (sort : Int32) (number : Int32) (fault : Int32) (faultPlace : Int32) (lastFault : Int32) (lastPlace : Int32) (toValue : Nat → Int32) (toWeight : Nat → Int32) (toMany : Int32) (often : Nat → Int32) (firstOf : Nat → Int32) (lastOf : Nat → Int32) (unlikes : Nat → Int32) (unlikeMany : Int32) (isCandidate : Nat → Int32) (modes : Nat → Int32) (fewest : Nat → Int32) (x1 : Int32) (x2 : Int32) (q : (Nat → Int32) × (Nat → Int32) × (Nat → Int32)) (h : mX6_copies pastValue pastWeight pastMany x1 x2 = some q) : MV l yX6_copies wsX6_copies { frames := 0, cells := 0, slots := 0, locals := 0 } D cA [.ref (ad 0), .int x1, .int x2] (wX6 cA ad thrown tape taped value weight many block ties lines pastValue pastWeight pastMany undos fresh newValue newWeight newMany newBlock newTies newLines hasBlock hasTies size att place sort number fault faultPlace lastFault lastPlace toValue toWeight toMany often firstOf lastOf unlikes unlikeMany isCandidate modes fewest) (wX6 cA ad thrown tape taped value weight many block ties lines q.1 q.2.1 q.2.2 undos fresh newValue newWeight newMany newBlock newTies newLines hasBlock hasTies size att place sort number fault faultPlace lastFault lastPlace toValue toWeight toMany often firstOf lastOf unlikes unlikeMany isCandidate modes fewest) := by
  refine MV.of (cc := cX6_copies) (maxL := 4) (by decide) rfl rfl rfl (Nat.le_of_ble_eq_true rfl) ?_
  intro p e s m args below meth c A ls Q hx hb hml hts hown hK hP hD hA hS hl hret
  have hl : lv_has ls 4 [(0, .ref (ad 0)), (1, .int x1), (2, .int x2)] := hl
  have f19 := hts (.fieldLink RX6 19 "ModeDeskModel" "pastValue" "[I") (by decide +kernel)
  have f22 := hts (.fieldLink RX6 22 "ModeDeskModel" "pastWeight" "[I") (by decide +kernel)
  have f25 := hts (.fieldLink RX6 25 "ModeDeskModel" "pastMany" "[I") (by decide +kernel)
  have iX6 : ∀ w ∈ wsX60, w ∈ wsX6_copies := by decide +kernel
  unfold mX6_copies at h
  refine lv_iconst (v := 0) hx hb dX6_copies_0 (by decide) ?_
  refine lv_istore_n (lv' := [(3, .int 0), (0, .ref (ad 0)), (1, .int x1), (2, .int x2)]) hx hb dX6_copies_1 rfl hl (by decide) rfl (fun ls hl => ?_)
  have hL2 : ∀ (n : Nat) (x1 : Int32) (x2 : Int32) (x3 : Int32) (thrown : Int32) (tape : Nat → Int32) (taped : Int32) (value : Nat → Int32) (weight : Nat → Int32) (many : Int32) (block : Int32) (ties : Int32) (lines : Int32) (pastValue : Nat → Int32) (pastWeight : Nat → Int32) (pastMany : Nat → Int32) (undos : Int32) (fresh : Int32) (newValue : Nat → Int32) (newWeight : Nat → Int32) (newMany : Int32) (newBlock : Int32) (newTies : Int32) (newLines : Int32) (hasBlock : Int32) (hasTies : Int32) (size : Int32) (att : Int32) (place : Int32) (sort : Int32) (number : Int32) (fault : Int32) (faultPlace : Int32) (lastFault : Int32) (lastPlace : Int32) (toValue : Nat → Int32) (toWeight : Nat → Int32) (toMany : Int32) (often : Nat → Int32) (firstOf : Nat → Int32) (lastOf : Nat → Int32) (unlikes : Nat → Int32) (unlikeMany : Int32) (isCandidate : Nat → Int32) (modes : Nat → Int32) (fewest : Nat → Int32) (z1 : (Nat → Int32) × (Nat → Int32)) (ls : Array Slot) (H : Heap) (locs : List Loc), lv_has ls 4 [(0, .ref (ad 0)), (1, .int x1), (2, .int x2), (3, .int x3)] → va_P D vwCl (wX6 cA ad thrown tape taped value weight many block ties lines pastValue pastWeight pastMany undos fresh newValue newWeight newMany newBlock newTies newLines hasBlock hasTies size att place sort number fault faultPlace lastFault lastPlace toValue toWeight toMany often firstOf lastOf unlikes unlikeMany isCandidate modes fewest) H → va_D A (wX6 cA ad thrown tape taped value weight many block ties lines pastValue pastWeight pastMany undos fresh newValue newWeight newMany newBlock newTies newLines hasBlock hasTies size att place sort number fault faultPlace lastFault lastPlace toValue toWeight toMany often firstOf lastOf unlikes unlikeMany isCandidate modes fewest) → va_S A s.heap H locs → mX6_copies_L2 x1 x2 n x3 pastValue pastWeight = some z1 → (∀ (ls : Array Slot) (H : Heap) (locs : List Loc), lv_has ls 4 [(0, .ref (ad 0)), (1, .int x1), (2, .int x2)] → va_P D vwCl (wX6 cA ad thrown tape taped value weight many block ties lines z1.1 z1.2 pastMany undos fresh newValue newWeight newMany newBlock newTies newLines hasBlock hasTies size att place sort number fault faultPlace lastFault lastPlace toValue toWeight toMany often firstOf lastOf unlikes unlikeMany isCandidate modes fewest) H → va_D A (wX6 cA ad thrown tape taped value weight many block ties lines z1.1 z1.2 pastMany undos fresh newValue newWeight newMany newBlock newTies newLines hasBlock hasTies size att place sort number fault faultPlace lastFault lastPlace toValue toWeight toMany often firstOf lastOf unlikes unlikeMany isCandidate modes fewest) → va_S A s.heap H locs → W p l e (headSpec wsX6_copies { frames := 0, cells := 0, slots := 0, locals := 0 }).room s m args below meth c H locs 0 0 Q (F0 m 58 ls [])) → W p l e (headSpec wsX6_copies { frames := 0, cells := 0, slots := 0, locals := 0 }).room s m args below meth c H locs 0 0 Q (F0 m 2 ls []) := by
    intro n
    induction n with
    | zero => intro x1 x2 x3 thrown tape taped value weight many block ties lines pastValue pastWeight pastMany undos fresh newValue newWeight newMany newBlock newTies newLines hasBlock hasTies size att place sort number fault faultPlace lastFault lastPlace toValue toWeight toMany often firstOf lastOf unlikes unlikeMany isCandidate modes fewest z1 ls H locs hl hP hD hS h hk2; exact e_n h
    | succ n ih2 =>
      intro x1 x2 x3 thrown tape taped value weight many block ties lines pastValue pastWeight pastMany undos fresh newValue newWeight newMany newBlock newTies newLines hasBlock hasTies size att place sort number fault faultPlace lastFault lastPlace toValue toWeight toMany often firstOf lastOf unlikes unlikeMany isCandidate modes fewest z1 ls H locs hl hP hD hS h hk2
      rw [mX6_copies_L2.eq_2] at h
      refine lv_iload_n hx hb dX6_copies_2 rfl (lv_at hl 3 rfl) ?_
      refine lv_bipush (v := 120) hx hb dX6_copies_3 (by decide) ?_
      refine lv_icmp_ge (tgt := 58) hx hb dX6_copies_5 (by decide) (fun c2 => ?_) (fun c2 => ?_)
      · have h := e_t c2 h
        obtain rfl := e_s h
        exact hk2 _ _ _ (lv_sub hl [0, 1, 2] rfl) hP hD hS
      · have h := e_f c2 h
        refine lv_aload_n hx hb dX6_copies_8 rfl (lv_at hl 0 rfl) ?_
        refine va_get (D := D) (ci := 6) (v := .ref (ad 4)) (C := RX6) (T := TX6) (N := 42) hx hb hts iX6 hown hK hP 0 rfl rfl 9 (Nat.le_of_ble_eq_true rfl) f19 (fun _ h9 => h9) rfl dX6_copies_9 ?_
        refine lv_bipush (v := 120) hx hb dX6_copies_12 (by decide) ?_
        refine lv_iload_n hx hb dX6_copies_14 rfl (lv_at hl 2 rfl) ?_
        refine lv_imul hx hb dX6_copies_15 ?_
        refine lv_iload_n hx hb dX6_copies_16 rfl (lv_at hl 3 rfl) ?_
        refine lv_iadd hx hb dX6_copies_17 ?_
        refine lv_aload_n hx hb dX6_copies_18 rfl (lv_at hl 0 rfl) ?_
        refine va_get (D := D) (ci := 6) (v := .ref (ad 4)) (C := RX6) (T := TX6) (N := 42) hx hb hts iX6 hown hK hP 0 rfl rfl 9 (Nat.le_of_ble_eq_true rfl) f19 (fun _ h9 => h9) rfl dX6_copies_19 ?_
        refine lv_bipush (v := 120) hx hb dX6_copies_22 (by decide) ?_
        refine lv_iload_n hx hb dX6_copies_24 rfl (lv_at hl 1 rfl) ?_
        refine lv_imul hx hb dX6_copies_25 ?_
        refine lv_iload_n hx hb dX6_copies_26 rfl (lv_at hl 3 rfl) ?_
        refine lv_iadd hx hb dX6_copies_27 ?_
        obtain ⟨v3, ev3, nv3, h⟩ := e_rd h
        refine xa_iald hx hb hK hP 4 rfl nv3 ev3 dX6_copies_28 ?_
        obtain ⟨a4, ea4, na4, h⟩ := e_wr h
        refine xa_iast hx hb hK hP hD hS 4 rfl na4 ea4 dX6_copies_29 (fun H locs hP hD hS => ?_)
        have hP : va_P D vwCl (wX6 cA ad thrown tape taped value weight many block ties lines a4 pastWeight pastMany undos fresh newValue newWeight newMany newBlock newTies newLines hasBlock hasTies size att place sort number fault faultPlace lastFault lastPlace toValue toWeight toMany often firstOf lastOf unlikes unlikeMany isCandidate modes fewest) H := hP
        have hD : va_D A (wX6 cA ad thrown tape taped value weight many block ties lines a4 pastWeight pastMany undos fresh newValue newWeight newMany newBlock newTies newLines hasBlock hasTies size att place sort number fault faultPlace lastFault lastPlace toValue toWeight toMany often firstOf lastOf unlikes unlikeMany isCandidate modes fewest) := hD
        refine lv_aload_n hx hb dX6_copies_30 rfl (lv_at hl 0 rfl) ?_
        refine va_get (D := D) (ci := 6) (v := .ref (ad 5)) (C := RX6) (T := TX6) (N := 42) hx hb hts iX6 hown hK hP 0 rfl rfl 10 (Nat.le_of_ble_eq_true rfl) f22 (fun _ h9 => h9) rfl dX6_copies_31 ?_
        refine lv_bipush (v := 120) hx hb dX6_copies_34 (by decide) ?_
        refine lv_iload_n hx hb dX6_copies_36 rfl (lv_at hl 2 rfl) ?_
        refine lv_imul hx hb dX6_copies_37 ?_
        refine lv_iload_n hx hb dX6_copies_38 rfl (lv_at hl 3 rfl) ?_
        refine lv_iadd hx hb dX6_copies_39 ?_
        refine lv_aload_n hx hb dX6_copies_40 rfl (lv_at hl 0 rfl) ?_
        refine va_get (D := D) (ci := 6) (v := .ref (ad 5)) (C := RX6) (T := TX6) (N := 42) hx hb hts iX6 hown hK hP 0 rfl rfl 10 (Nat.le_of_ble_eq_true rfl) f22 (fun _ h9 => h9) rfl dX6_copies_41 ?_
        refine lv_bipush (v := 120) hx hb dX6_copies_44 (by decide) ?_
        refine lv_iload_n hx hb dX6_copies_46 rfl (lv_at hl 1 rfl) ?_
        refine lv_imul hx hb dX6_copies_47 ?_
        refine lv_iload_n hx hb dX6_copies_48 rfl (lv_at hl 3 rfl) ?_
        refine lv_iadd hx hb dX6_copies_49 ?_
        obtain ⟨v5, ev5, nv5, h⟩ := e_rd h
        refine xa_iald hx hb hK hP 5 rfl nv5 ev5 dX6_copies_50 ?_
        obtain ⟨a6, ea6, na6, h⟩ := e_wr h
        refine xa_iast hx hb hK hP hD hS 5 rfl na6 ea6 dX6_copies_51 (fun H locs hP hD hS => ?_)
        have hP : va_P D vwCl (wX6 cA ad thrown tape taped value weight many block ties lines a4 a6 pastMany undos fresh newValue newWeight newMany newBlock newTies newLines hasBlock hasTies size att place sort number fault faultPlace lastFault lastPlace toValue toWeight toMany often firstOf lastOf unlikes unlikeMany isCandidate modes fewest) H := hP
        have hD : va_D A (wX6 cA ad thrown tape taped value weight many block ties lines a4 a6 pastMany undos fresh newValue newWeight newMany newBlock newTies newLines hasBlock hasTies size att place sort number fault faultPlace lastFault lastPlace toValue toWeight toMany often firstOf lastOf unlikes unlikeMany isCandidate modes fewest) := hD
        refine lv_iinc (v := (x3 + 1)) (lv' := [(3, .int (x3 + 1)), (0, .ref (ad 0)), (1, .int x1), (2, .int x2)]) hx hb dX6_copies_52 hl (k := 3) rfl rfl (by decide) rfl (fun ls hl => ?_)
        refine lv_goto (tgt := 2) hx hb dX6_copies_55 (by decide) ?_
        exact ih2 x1 x2 (x3 + 1) thrown tape taped value weight many block ties lines a4 a6 pastMany undos fresh newValue newWeight newMany newBlock newTies newLines hasBlock hasTies size att place sort number fault faultPlace lastFault lastPlace toValue toWeight toMany often firstOf lastOf unlikes unlikeMany isCandidate modes fewest z1 _ _ _ (lv_sub hl [1, 2, 3, 0] rfl) hP hD hS h hk2
  obtain ⟨z7, ez7, h⟩ := e_b h
  refine hL2 FU x1 x2 0 thrown tape taped value weight many block ties lines pastValue pastWeight pastMany undos fresh newValue newWeight newMany newBlock newTies newLines hasBlock hasTies size att place sort number fault faultPlace lastFault lastPlace toValue toWeight toMany often firstOf lastOf unlikes unlikeMany isCandidate modes fewest z7 _ _ _ (lv_sub hl [1, 2, 3, 0] rfl) hP hD hS ez7 (fun ls H locs hl hP hD hS => ?_)
  refine lv_aload_n hx hb dX6_copies_58 rfl (lv_at hl 0 rfl) ?_
  refine va_get (D := D) (ci := 6) (v := .ref (ad 6)) (C := RX6) (T := TX6) (N := 42) hx hb hts iX6 hown hK hP 0 rfl rfl 11 (Nat.le_of_ble_eq_true rfl) f25 (fun _ h9 => h9) rfl dX6_copies_59 ?_
  refine lv_iload_n hx hb dX6_copies_62 rfl (lv_at hl 2 rfl) ?_
  refine lv_aload_n hx hb dX6_copies_63 rfl (lv_at hl 0 rfl) ?_
  refine va_get (D := D) (ci := 6) (v := .ref (ad 6)) (C := RX6) (T := TX6) (N := 42) hx hb hts iX6 hown hK hP 0 rfl rfl 11 (Nat.le_of_ble_eq_true rfl) f25 (fun _ h9 => h9) rfl dX6_copies_64 ?_
  refine lv_iload_n hx hb dX6_copies_67 rfl (lv_at hl 1 rfl) ?_
  obtain ⟨v8, ev8, nv8, h⟩ := e_rd h
  refine xa_iald hx hb hK hP 6 rfl nv8 ev8 dX6_copies_68 ?_
  obtain ⟨a9, ea9, na9, h⟩ := e_wr h
  refine xa_iast hx hb hK hP hD hS 6 rfl na9 ea9 dX6_copies_69 (fun H locs hP hD hS => ?_)
  have hP : va_P D vwCl (wX6 cA ad thrown tape taped value weight many block ties lines z7.1 z7.2 a9 undos fresh newValue newWeight newMany newBlock newTies newLines hasBlock hasTies size att place sort number fault faultPlace lastFault lastPlace toValue toWeight toMany often firstOf lastOf unlikes unlikeMany isCandidate modes fewest) H := hP
  have hD : va_D A (wX6 cA ad thrown tape taped value weight many block ties lines z7.1 z7.2 a9 undos fresh newValue newWeight newMany newBlock newTies newLines hasBlock hasTies size att place sort number fault faultPlace lastFault lastPlace toValue toWeight toMany often firstOf lastOf unlikes unlikeMany isCandidate modes fewest) := hD
  obtain rfl := e_s h
  exact hret hP hS dX6_copies_70
set_option maxHeartbeats 4000000 in
set_option maxRecDepth 100000 in
theorem kX6_edits (l : Launch) (D : va_G) (cA : Nat → ClassId) (ad : Nat → Nat) (thrown : Int32) (tape : Nat → Int32) (taped : Int32) (value : Nat → Int32) (weight : Nat → Int32) (many : Int32) (block : Int32) (ties : Int32) (lines : Int32) (pastValue : Nat → Int32) (pastWeight : Nat → Int32) (pastMany : Nat → Int32) (undos : Int32) (fresh : Int32) (newValue : Nat → Int32) (newWeight : Nat → Int32) (newMany : Int32) (newBlock : Int32) (newTies : Int32) (newLines : Int32) (hasBlock : Int32) (hasTies : Int32) (size : Int32) (att : Int32) (place : Int32) (sort : Int32) (number : Int32) (fault : Int32) (faultPlace : Int32) (lastFault : Int32) (lastPlace : Int32) (toValue : Nat → Int32) (toWeight : Nat → Int32) (toMany : Int32) (often : Nat → Int32) (firstOf : Nat → Int32) (lastOf : Nat → Int32) (unlikes : Nat → Int32) (unlikeMany : Int32) (isCandidate : Nat → Int32) (modes : Nat → Int32) (fewest : Nat → Int32)  (q : (Nat → Int32) × (Nat → Int32) × Int32 × (Nat → Int32) × (Nat → Int32) × (Nat → Int32) × Int32 × Int32) (h : mX6_edits value weight many block pastValue pastWeight pastMany undos fresh toValue toWeight toMany  = some q) : MV l yX6_edits wsX6_edits { frames := 4, cells := 0, slots := 0, locals := 91 } D cA [.ref (ad 0)] (wX6 cA ad thrown tape taped value weight many block ties lines pastValue pastWeight pastMany undos fresh newValue newWeight newMany newBlock newTies newLines hasBlock hasTies size att place sort number fault faultPlace lastFault lastPlace toValue toWeight toMany often firstOf lastOf unlikes unlikeMany isCandidate modes fewest) (wX6 cA ad thrown tape taped q.1 q.2.1 q.2.2.1 block ties lines q.2.2.2.1 q.2.2.2.2.1 q.2.2.2.2.2.1 q.2.2.2.2.2.2.1 q.2.2.2.2.2.2.2 newValue newWeight newMany newBlock newTies newLines hasBlock hasTies size att place sort number fault faultPlace lastFault lastPlace toValue toWeight toMany often firstOf lastOf unlikes unlikeMany isCandidate modes fewest) := by
  refine MV.of (cc := cX6_edits) (maxL := 2) (by decide) rfl rfl rfl (Nat.le_of_ble_eq_true rfl) ?_
  intro p e s m args below meth c A ls Q hx hb hml hts hown hK hP hD hA hS hl hret
  have hl : lv_has ls 2 [(0, .ref (ad 0))] := hl
  have f13 := hts (.fieldLink RX6 13 "ModeDeskModel" "value" "[I") (by decide +kernel)
  have f16 := hts (.fieldLink RX6 16 "ModeDeskModel" "weight" "[I") (by decide +kernel)
  have f175 := hts (.fieldLink RX6 175 "ModeDeskModel" "many" "I") (by decide +kernel)
  have f184 := hts (.fieldLink RX6 184 "ModeDeskModel" "undos" "I") (by decide +kernel)
  have f19 := hts (.fieldLink RX6 19 "ModeDeskModel" "pastValue" "[I") (by decide +kernel)
  have f22 := hts (.fieldLink RX6 22 "ModeDeskModel" "pastWeight" "[I") (by decide +kernel)
  have f25 := hts (.fieldLink RX6 25 "ModeDeskModel" "pastMany" "[I") (by decide +kernel)
  have iX6 : ∀ w ∈ wsX60, w ∈ wsX6_edits := by decide +kernel
  unfold mX6_edits at h
  refine lv_aload_n hx hb dX6_edits_0 rfl (lv_at hl 0 rfl) ?_
  obtain ⟨q1, eq1, h⟩ := e_b h
  refine xv_i0 (As := []) (rest := []) (ci := 6) (b := ad 0) ⟨hx, hb, hml, hown, hts⟩ hl.1 (kX6_isOther l D cA ad thrown tape taped value weight many block ties lines pastValue pastWeight pastMany undos fresh newValue newWeight newMany newBlock newTies newLines hasBlock hasTies size att place sort number fault faultPlace lastFault lastPlace toValue toWeight toMany often firstOf lastOf unlikes unlikeMany isCandidate modes fewest   _ eq1) (cwV 0 hts gX6_edits_X6_isOther rfl rfl rfl (by decide +kernel) ⟨Nat.le_of_ble_eq_true rfl, Nat.le_of_ble_eq_true rfl⟩) rfl hK hP hD hS hA 0 rfl rfl rfl rfl (Nat.le_of_ble_eq_true rfl) dX6_edits_1 ⟨Nat.zero_le _, Nat.zero_le _⟩ (fun H locs hP hD hS hnq1 => ?_)
  have hP : va_P D vwCl (wX6 cA ad thrown tape taped value weight many block ties lines pastValue pastWeight pastMany undos fresh newValue newWeight newMany newBlock newTies newLines hasBlock hasTies size att place sort number fault faultPlace lastFault lastPlace toValue toWeight toMany often firstOf lastOf unlikes unlikeMany isCandidate modes fewest) H := hP
  have hD : va_D A (wX6 cA ad thrown tape taped value weight many block ties lines pastValue pastWeight pastMany undos fresh newValue newWeight newMany newBlock newTies newLines hasBlock hasTies size att place sort number fault faultPlace lastFault lastPlace toValue toWeight toMany often firstOf lastOf unlikes unlikeMany isCandidate modes fewest) := hD
  refine lv_if_ne (tgt := 8) hx hb dX6_edits_4 (by decide) (fun c2 => ?_) (fun c2 => ?_)
  · have h := e_t c2 h
    refine lv_aload_n hx hb dX6_edits_8 rfl (lv_at hl 0 rfl) ?_
    refine va_get (D := D) (ci := 6) (v := .int undos) (C := RX6) (T := TX6) (N := 42) hx hb hts iX6 hown hK hP 0 rfl rfl 12 (Nat.le_of_ble_eq_true rfl) f184 (fun _ h9 => h9) rfl dX6_edits_9 ?_
    refine lv_bipush (v := 12) hx hb dX6_edits_12 (by decide) ?_
    refine lv_icmp_ne (tgt := 49) hx hb dX6_edits_14 (by decide) (fun c3 => ?_) (fun c3 => ?_)
    · have h := e_t c3 h
      refine lv_iconst (v := 0) hx hb dX6_edits_49 (by decide) ?_
      refine lv_istore_n (lv' := [(1, .int 0), (0, .ref (ad 0))]) hx hb dX6_edits_50 rfl hl (by decide) rfl (fun ls hl => ?_)
      have hL51 : ∀ (n : Nat) (x1 : Int32) (thrown : Int32) (tape : Nat → Int32) (taped : Int32) (value : Nat → Int32) (weight : Nat → Int32) (many : Int32) (block : Int32) (ties : Int32) (lines : Int32) (pastValue : Nat → Int32) (pastWeight : Nat → Int32) (pastMany : Nat → Int32) (undos : Int32) (fresh : Int32) (newValue : Nat → Int32) (newWeight : Nat → Int32) (newMany : Int32) (newBlock : Int32) (newTies : Int32) (newLines : Int32) (hasBlock : Int32) (hasTies : Int32) (size : Int32) (att : Int32) (place : Int32) (sort : Int32) (number : Int32) (fault : Int32) (faultPlace : Int32) (lastFault : Int32) (lastPlace : Int32) (toValue : Nat → Int32) (toWeight : Nat → Int32) (toMany : Int32) (often : Nat → Int32) (firstOf : Nat → Int32) (lastOf : Nat → Int32) (unlikes : Nat → Int32) (unlikeMany : Int32) (isCandidate : Nat → Int32) (modes : Nat → Int32) (fewest : Nat → Int32) (z4 : (Nat → Int32) × (Nat → Int32)) (ls : Array Slot) (H : Heap) (locs : List Loc), lv_has ls 2 [(0, .ref (ad 0)), (1, .int x1)] → va_P D vwCl (wX6 cA ad thrown tape taped value weight many block ties lines pastValue pastWeight pastMany undos fresh newValue newWeight newMany newBlock newTies newLines hasBlock hasTies size att place sort number fault faultPlace lastFault lastPlace toValue toWeight toMany often firstOf lastOf unlikes unlikeMany isCandidate modes fewest) H → va_D A (wX6 cA ad thrown tape taped value weight many block ties lines pastValue pastWeight pastMany undos fresh newValue newWeight newMany newBlock newTies newLines hasBlock hasTies size att place sort number fault faultPlace lastFault lastPlace toValue toWeight toMany often firstOf lastOf unlikes unlikeMany isCandidate modes fewest) → va_S A s.heap H locs → mX6_edits_L51 value weight many undos n x1 pastValue pastWeight = some z4 → (∀ (ls : Array Slot) (H : Heap) (locs : List Loc), lv_has ls 2 [(0, .ref (ad 0))] → va_P D vwCl (wX6 cA ad thrown tape taped value weight many block ties lines z4.1 z4.2 pastMany undos fresh newValue newWeight newMany newBlock newTies newLines hasBlock hasTies size att place sort number fault faultPlace lastFault lastPlace toValue toWeight toMany often firstOf lastOf unlikes unlikeMany isCandidate modes fewest) H → va_D A (wX6 cA ad thrown tape taped value weight many block ties lines z4.1 z4.2 pastMany undos fresh newValue newWeight newMany newBlock newTies newLines hasBlock hasTies size att place sort number fault faultPlace lastFault lastPlace toValue toWeight toMany often firstOf lastOf unlikes unlikeMany isCandidate modes fewest) → va_S A s.heap H locs → W p l e (headSpec wsX6_edits { frames := 4, cells := 0, slots := 0, locals := 91 }).room s m args below meth c H locs 0 0 Q (F0 m 105 ls [])) → W p l e (headSpec wsX6_edits { frames := 4, cells := 0, slots := 0, locals := 91 }).room s m args below meth c H locs 0 0 Q (F0 m 51 ls []) := by
        intro n
        induction n with
        | zero => intro x1 thrown tape taped value weight many block ties lines pastValue pastWeight pastMany undos fresh newValue newWeight newMany newBlock newTies newLines hasBlock hasTies size att place sort number fault faultPlace lastFault lastPlace toValue toWeight toMany often firstOf lastOf unlikes unlikeMany isCandidate modes fewest z4 ls H locs hl hP hD hS h hk51; exact e_n h
        | succ n ih51 =>
          intro x1 thrown tape taped value weight many block ties lines pastValue pastWeight pastMany undos fresh newValue newWeight newMany newBlock newTies newLines hasBlock hasTies size att place sort number fault faultPlace lastFault lastPlace toValue toWeight toMany often firstOf lastOf unlikes unlikeMany isCandidate modes fewest z4 ls H locs hl hP hD hS h hk51
          rw [mX6_edits_L51.eq_2] at h
          refine lv_iload_n hx hb dX6_edits_51 rfl (lv_at hl 1 rfl) ?_
          refine lv_aload_n hx hb dX6_edits_52 rfl (lv_at hl 0 rfl) ?_
          refine va_get (D := D) (ci := 6) (v := .int many) (C := RX6) (T := TX6) (N := 42) hx hb hts iX6 hown hK hP 0 rfl rfl 5 (Nat.le_of_ble_eq_true rfl) f175 (fun _ h9 => h9) rfl dX6_edits_53 ?_
          refine lv_icmp_ge (tgt := 105) hx hb dX6_edits_56 (by decide) (fun c5 => ?_) (fun c5 => ?_)
          · have h := e_t c5 h
            obtain rfl := e_s h
            exact hk51 _ _ _ (lv_sub hl [0] rfl) hP hD hS
          · have h := e_f c5 h
            refine lv_aload_n hx hb dX6_edits_59 rfl (lv_at hl 0 rfl) ?_
            refine va_get (D := D) (ci := 6) (v := .ref (ad 4)) (C := RX6) (T := TX6) (N := 42) hx hb hts iX6 hown hK hP 0 rfl rfl 9 (Nat.le_of_ble_eq_true rfl) f19 (fun _ h9 => h9) rfl dX6_edits_60 ?_
            refine lv_bipush (v := 120) hx hb dX6_edits_63 (by decide) ?_
            refine lv_aload_n hx hb dX6_edits_65 rfl (lv_at hl 0 rfl) ?_
            refine va_get (D := D) (ci := 6) (v := .int undos) (C := RX6) (T := TX6) (N := 42) hx hb hts iX6 hown hK hP 0 rfl rfl 12 (Nat.le_of_ble_eq_true rfl) f184 (fun _ h9 => h9) rfl dX6_edits_66 ?_
            refine lv_imul hx hb dX6_edits_69 ?_
            refine lv_iload_n hx hb dX6_edits_70 rfl (lv_at hl 1 rfl) ?_
            refine lv_iadd hx hb dX6_edits_71 ?_
            refine lv_aload_n hx hb dX6_edits_72 rfl (lv_at hl 0 rfl) ?_
            refine va_get (D := D) (ci := 6) (v := .ref (ad 2)) (C := RX6) (T := TX6) (N := 42) hx hb hts iX6 hown hK hP 0 rfl rfl 3 (Nat.le_of_ble_eq_true rfl) f13 (fun _ h9 => h9) rfl dX6_edits_73 ?_
            refine lv_iload_n hx hb dX6_edits_76 rfl (lv_at hl 1 rfl) ?_
            obtain ⟨v6, ev6, nv6, h⟩ := e_rd h
            refine xa_iald hx hb hK hP 2 rfl nv6 ev6 dX6_edits_77 ?_
            obtain ⟨a7, ea7, na7, h⟩ := e_wr h
            refine xa_iast hx hb hK hP hD hS 4 rfl na7 ea7 dX6_edits_78 (fun H locs hP hD hS => ?_)
            have hP : va_P D vwCl (wX6 cA ad thrown tape taped value weight many block ties lines a7 pastWeight pastMany undos fresh newValue newWeight newMany newBlock newTies newLines hasBlock hasTies size att place sort number fault faultPlace lastFault lastPlace toValue toWeight toMany often firstOf lastOf unlikes unlikeMany isCandidate modes fewest) H := hP
            have hD : va_D A (wX6 cA ad thrown tape taped value weight many block ties lines a7 pastWeight pastMany undos fresh newValue newWeight newMany newBlock newTies newLines hasBlock hasTies size att place sort number fault faultPlace lastFault lastPlace toValue toWeight toMany often firstOf lastOf unlikes unlikeMany isCandidate modes fewest) := hD
            refine lv_aload_n hx hb dX6_edits_79 rfl (lv_at hl 0 rfl) ?_
            refine va_get (D := D) (ci := 6) (v := .ref (ad 5)) (C := RX6) (T := TX6) (N := 42) hx hb hts iX6 hown hK hP 0 rfl rfl 10 (Nat.le_of_ble_eq_true rfl) f22 (fun _ h9 => h9) rfl dX6_edits_80 ?_
            refine lv_bipush (v := 120) hx hb dX6_edits_83 (by decide) ?_
            refine lv_aload_n hx hb dX6_edits_85 rfl (lv_at hl 0 rfl) ?_
            refine va_get (D := D) (ci := 6) (v := .int undos) (C := RX6) (T := TX6) (N := 42) hx hb hts iX6 hown hK hP 0 rfl rfl 12 (Nat.le_of_ble_eq_true rfl) f184 (fun _ h9 => h9) rfl dX6_edits_86 ?_
            refine lv_imul hx hb dX6_edits_89 ?_
            refine lv_iload_n hx hb dX6_edits_90 rfl (lv_at hl 1 rfl) ?_
            refine lv_iadd hx hb dX6_edits_91 ?_
            refine lv_aload_n hx hb dX6_edits_92 rfl (lv_at hl 0 rfl) ?_
            refine va_get (D := D) (ci := 6) (v := .ref (ad 3)) (C := RX6) (T := TX6) (N := 42) hx hb hts iX6 hown hK hP 0 rfl rfl 4 (Nat.le_of_ble_eq_true rfl) f16 (fun _ h9 => h9) rfl dX6_edits_93 ?_
            refine lv_iload_n hx hb dX6_edits_96 rfl (lv_at hl 1 rfl) ?_
            obtain ⟨v8, ev8, nv8, h⟩ := e_rd h
            refine xa_iald hx hb hK hP 3 rfl nv8 ev8 dX6_edits_97 ?_
            obtain ⟨a9, ea9, na9, h⟩ := e_wr h
            refine xa_iast hx hb hK hP hD hS 5 rfl na9 ea9 dX6_edits_98 (fun H locs hP hD hS => ?_)
            have hP : va_P D vwCl (wX6 cA ad thrown tape taped value weight many block ties lines a7 a9 pastMany undos fresh newValue newWeight newMany newBlock newTies newLines hasBlock hasTies size att place sort number fault faultPlace lastFault lastPlace toValue toWeight toMany often firstOf lastOf unlikes unlikeMany isCandidate modes fewest) H := hP
            have hD : va_D A (wX6 cA ad thrown tape taped value weight many block ties lines a7 a9 pastMany undos fresh newValue newWeight newMany newBlock newTies newLines hasBlock hasTies size att place sort number fault faultPlace lastFault lastPlace toValue toWeight toMany often firstOf lastOf unlikes unlikeMany isCandidate modes fewest) := hD
            refine lv_iinc (v := (x1 + 1)) (lv' := [(1, .int (x1 + 1)), (0, .ref (ad 0))]) hx hb dX6_edits_99 hl (k := 1) rfl rfl (by decide) rfl (fun ls hl => ?_)
            refine lv_goto (tgt := 51) hx hb dX6_edits_102 (by decide) ?_
            exact ih51 (x1 + 1) thrown tape taped value weight many block ties lines a7 a9 pastMany undos fresh newValue newWeight newMany newBlock newTies newLines hasBlock hasTies size att place sort number fault faultPlace lastFault lastPlace toValue toWeight toMany often firstOf lastOf unlikes unlikeMany isCandidate modes fewest z4 _ _ _ (lv_sub hl [1, 0] rfl) hP hD hS h hk51
      obtain ⟨z10, ez10, h⟩ := e_b h
      refine hL51 FU 0 thrown tape taped value weight many block ties lines pastValue pastWeight pastMany undos fresh newValue newWeight newMany newBlock newTies newLines hasBlock hasTies size att place sort number fault faultPlace lastFault lastPlace toValue toWeight toMany often firstOf lastOf unlikes unlikeMany isCandidate modes fewest z10 _ _ _ (lv_sub hl [1, 0] rfl) hP hD hS ez10 (fun ls H locs hl hP hD hS => ?_)
      refine lv_aload_n hx hb dX6_edits_105 rfl (lv_at hl 0 rfl) ?_
      refine va_get (D := D) (ci := 6) (v := .ref (ad 6)) (C := RX6) (T := TX6) (N := 42) hx hb hts iX6 hown hK hP 0 rfl rfl 11 (Nat.le_of_ble_eq_true rfl) f25 (fun _ h9 => h9) rfl dX6_edits_106 ?_
      refine lv_aload_n hx hb dX6_edits_109 rfl (lv_at hl 0 rfl) ?_
      refine va_get (D := D) (ci := 6) (v := .int undos) (C := RX6) (T := TX6) (N := 42) hx hb hts iX6 hown hK hP 0 rfl rfl 12 (Nat.le_of_ble_eq_true rfl) f184 (fun _ h9 => h9) rfl dX6_edits_110 ?_
      refine lv_aload_n hx hb dX6_edits_113 rfl (lv_at hl 0 rfl) ?_
      refine va_get (D := D) (ci := 6) (v := .int many) (C := RX6) (T := TX6) (N := 42) hx hb hts iX6 hown hK hP 0 rfl rfl 5 (Nat.le_of_ble_eq_true rfl) f175 (fun _ h9 => h9) rfl dX6_edits_114 ?_
      obtain ⟨a11, ea11, na11, h⟩ := e_wr h
      refine xa_iast hx hb hK hP hD hS 6 rfl na11 ea11 dX6_edits_117 (fun H locs hP hD hS => ?_)
      have hP : va_P D vwCl (wX6 cA ad thrown tape taped value weight many block ties lines z10.1 z10.2 a11 undos fresh newValue newWeight newMany newBlock newTies newLines hasBlock hasTies size att place sort number fault faultPlace lastFault lastPlace toValue toWeight toMany often firstOf lastOf unlikes unlikeMany isCandidate modes fewest) H := hP
      have hD : va_D A (wX6 cA ad thrown tape taped value weight many block ties lines z10.1 z10.2 a11 undos fresh newValue newWeight newMany newBlock newTies newLines hasBlock hasTies size att place sort number fault faultPlace lastFault lastPlace toValue toWeight toMany often firstOf lastOf unlikes unlikeMany isCandidate modes fewest) := hD
      refine lv_aload_n hx hb dX6_edits_118 rfl (lv_at hl 0 rfl) ?_
      refine lv_dup hx hb dX6_edits_119 rfl ?_
      refine va_get (D := D) (ci := 6) (v := .int undos) (C := RX6) (T := TX6) (N := 42) hx hb hts iX6 hown hK hP 0 rfl rfl 12 (Nat.le_of_ble_eq_true rfl) f184 (fun _ h9 => h9) rfl dX6_edits_120 ?_
      refine lv_iconst (v := 1) hx hb dX6_edits_123 (by decide) ?_
      refine lv_iadd hx hb dX6_edits_124 ?_
      refine va_put (D := D) (ci := 6) (v := .int (undos + 1)) (ty := .int) (C := RX6) (T := TX6) (N := 42) hx hb hts iX6 tyX6 tyX6_ok nmX6 hown hK hP hD hS 0 rfl rfl 12 (Nat.le_of_ble_eq_true rfl) f184 (fun _ h9 => h9) rfl (tyX6_ok 12 (Nat.le_of_ble_eq_true rfl)) rfl rfl (Nat.le_of_ble_eq_true rfl) dX6_edits_125 (fun H locs hP hD hS => ?_)
      have hP : va_P D vwCl (wX6 cA ad thrown tape taped value weight many block ties lines z10.1 z10.2 a11 (undos + 1) fresh newValue newWeight newMany newBlock newTies newLines hasBlock hasTies size att place sort number fault faultPlace lastFault lastPlace toValue toWeight toMany often firstOf lastOf unlikes unlikeMany isCandidate modes fewest) H := hP
      have hD : va_D A (wX6 cA ad thrown tape taped value weight many block ties lines z10.1 z10.2 a11 (undos + 1) fresh newValue newWeight newMany newBlock newTies newLines hasBlock hasTies size att place sort number fault faultPlace lastFault lastPlace toValue toWeight toMany often firstOf lastOf unlikes unlikeMany isCandidate modes fewest) := hD
      refine lv_aload_n hx hb dX6_edits_128 rfl (lv_at hl 0 rfl) ?_
      obtain ⟨q12, eq12, h⟩ := e_b h
      refine xv_v0 (As := []) (rest := []) (ci := 6) (b := ad 0) ⟨hx, hb, hml, hown, hts⟩ hl.1 (kX6_becomes l D cA ad thrown tape taped value weight many block ties lines z10.1 z10.2 a11 (undos + 1) fresh newValue newWeight newMany newBlock newTies newLines hasBlock hasTies size att place sort number fault faultPlace lastFault lastPlace toValue toWeight toMany often firstOf lastOf unlikes unlikeMany isCandidate modes fewest   _ eq12) (cwV 0 hts gX6_edits_X6_becomes rfl rfl rfl (by decide +kernel) ⟨Nat.le_of_ble_eq_true rfl, Nat.le_of_ble_eq_true rfl⟩) rfl hK hP hD hS hA 0 rfl rfl rfl rfl (Nat.le_of_ble_eq_true rfl) dX6_edits_129 ⟨Nat.zero_le _, Nat.zero_le _⟩ (fun H locs hP hD hS => ?_)
      have hP : va_P D vwCl (wX6 cA ad thrown tape taped q12.1 q12.2.1 q12.2.2.1 block ties lines z10.1 z10.2 a11 (undos + 1) q12.2.2.2 newValue newWeight newMany newBlock newTies newLines hasBlock hasTies size att place sort number fault faultPlace lastFault lastPlace toValue toWeight toMany often firstOf lastOf unlikes unlikeMany isCandidate modes fewest) H := hP
      have hD : va_D A (wX6 cA ad thrown tape taped q12.1 q12.2.1 q12.2.2.1 block ties lines z10.1 z10.2 a11 (undos + 1) q12.2.2.2 newValue newWeight newMany newBlock newTies newLines hasBlock hasTies size att place sort number fault faultPlace lastFault lastPlace toValue toWeight toMany often firstOf lastOf unlikes unlikeMany isCandidate modes fewest) := hD
      obtain rfl := e_s h
      exact hret hP hS dX6_edits_132
    · have h := e_f (not_not_intro c3) h
      refine lv_iconst (v := 1) hx hb dX6_edits_17 (by decide) ?_
      refine lv_istore_n (lv' := [(1, .int 1), (0, .ref (ad 0))]) hx hb dX6_edits_18 rfl hl (by decide) rfl (fun ls hl => ?_)
      have hL19 : ∀ (n : Nat) (x1 : Int32) (thrown : Int32) (tape : Nat → Int32) (taped : Int32) (value : Nat → Int32) (weight : Nat → Int32) (many : Int32) (block : Int32) (ties : Int32) (lines : Int32) (pastValue : Nat → Int32) (pastWeight : Nat → Int32) (pastMany : Nat → Int32) (undos : Int32) (fresh : Int32) (newValue : Nat → Int32) (newWeight : Nat → Int32) (newMany : Int32) (newBlock : Int32) (newTies : Int32) (newLines : Int32) (hasBlock : Int32) (hasTies : Int32) (size : Int32) (att : Int32) (place : Int32) (sort : Int32) (number : Int32) (fault : Int32) (faultPlace : Int32) (lastFault : Int32) (lastPlace : Int32) (toValue : Nat → Int32) (toWeight : Nat → Int32) (toMany : Int32) (often : Nat → Int32) (firstOf : Nat → Int32) (lastOf : Nat → Int32) (unlikes : Nat → Int32) (unlikeMany : Int32) (isCandidate : Nat → Int32) (modes : Nat → Int32) (fewest : Nat → Int32) (z13 : (Nat → Int32) × (Nat → Int32) × (Nat → Int32)) (ls : Array Slot) (H : Heap) (locs : List Loc), lv_has ls 2 [(0, .ref (ad 0)), (1, .int x1)] → va_P D vwCl (wX6 cA ad thrown tape taped value weight many block ties lines pastValue pastWeight pastMany undos fresh newValue newWeight newMany newBlock newTies newLines hasBlock hasTies size att place sort number fault faultPlace lastFault lastPlace toValue toWeight toMany often firstOf lastOf unlikes unlikeMany isCandidate modes fewest) H → va_D A (wX6 cA ad thrown tape taped value weight many block ties lines pastValue pastWeight pastMany undos fresh newValue newWeight newMany newBlock newTies newLines hasBlock hasTies size att place sort number fault faultPlace lastFault lastPlace toValue toWeight toMany often firstOf lastOf unlikes unlikeMany isCandidate modes fewest) → va_S A s.heap H locs → mX6_edits_L19  n x1 pastValue pastWeight pastMany = some z13 → (∀ (ls : Array Slot) (H : Heap) (locs : List Loc), lv_has ls 2 [(0, .ref (ad 0))] → va_P D vwCl (wX6 cA ad thrown tape taped value weight many block ties lines z13.1 z13.2.1 z13.2.2 undos fresh newValue newWeight newMany newBlock newTies newLines hasBlock hasTies size att place sort number fault faultPlace lastFault lastPlace toValue toWeight toMany often firstOf lastOf unlikes unlikeMany isCandidate modes fewest) H → va_D A (wX6 cA ad thrown tape taped value weight many block ties lines z13.1 z13.2.1 z13.2.2 undos fresh newValue newWeight newMany newBlock newTies newLines hasBlock hasTies size att place sort number fault faultPlace lastFault lastPlace toValue toWeight toMany often firstOf lastOf unlikes unlikeMany isCandidate modes fewest) → va_S A s.heap H locs → W p l e (headSpec wsX6_edits { frames := 4, cells := 0, slots := 0, locals := 91 }).room s m args below meth c H locs 0 0 Q (F0 m 39 ls [])) → W p l e (headSpec wsX6_edits { frames := 4, cells := 0, slots := 0, locals := 91 }).room s m args below meth c H locs 0 0 Q (F0 m 19 ls []) := by
        intro n
        induction n with
        | zero => intro x1 thrown tape taped value weight many block ties lines pastValue pastWeight pastMany undos fresh newValue newWeight newMany newBlock newTies newLines hasBlock hasTies size att place sort number fault faultPlace lastFault lastPlace toValue toWeight toMany often firstOf lastOf unlikes unlikeMany isCandidate modes fewest z13 ls H locs hl hP hD hS h hk19; exact e_n h
        | succ n ih19 =>
          intro x1 thrown tape taped value weight many block ties lines pastValue pastWeight pastMany undos fresh newValue newWeight newMany newBlock newTies newLines hasBlock hasTies size att place sort number fault faultPlace lastFault lastPlace toValue toWeight toMany often firstOf lastOf unlikes unlikeMany isCandidate modes fewest z13 ls H locs hl hP hD hS h hk19
          rw [mX6_edits_L19.eq_2] at h
          refine lv_iload_n hx hb dX6_edits_19 rfl (lv_at hl 1 rfl) ?_
          refine lv_bipush (v := 12) hx hb dX6_edits_20 (by decide) ?_
          refine lv_icmp_ge (tgt := 39) hx hb dX6_edits_22 (by decide) (fun c14 => ?_) (fun c14 => ?_)
          · have h := e_t c14 h
            obtain rfl := e_s h
            exact hk19 _ _ _ (lv_sub hl [0] rfl) hP hD hS
          · have h := e_f c14 h
            refine lv_aload_n hx hb dX6_edits_25 rfl (lv_at hl 0 rfl) ?_
            refine lv_iload_n hx hb dX6_edits_26 rfl (lv_at hl 1 rfl) ?_
            refine lv_iload_n hx hb dX6_edits_27 rfl (lv_at hl 1 rfl) ?_
            refine lv_iconst (v := 1) hx hb dX6_edits_28 (by decide) ?_
            refine lv_isub hx hb dX6_edits_29 ?_
            obtain ⟨q15, eq15, h⟩ := e_b h
            refine xv_v0 (As := [.int x1, .int (x1 - 1)]) (rest := []) (ci := 6) (b := ad 0) ⟨hx, hb, hml, hown, hts⟩ hl.1 (kX6_copies l D cA ad thrown tape taped value weight many block ties lines pastValue pastWeight pastMany undos fresh newValue newWeight newMany newBlock newTies newLines hasBlock hasTies size att place sort number fault faultPlace lastFault lastPlace toValue toWeight toMany often firstOf lastOf unlikes unlikeMany isCandidate modes fewest x1 (x1 - 1)  _ eq15) (cwV 2 hts gX6_edits_X6_copies rfl rfl rfl (by decide +kernel) ⟨Nat.le_of_ble_eq_true rfl, Nat.le_of_ble_eq_true rfl⟩) rfl hK hP hD hS hA 0 rfl rfl rfl rfl (Nat.le_of_ble_eq_true rfl) dX6_edits_30 ⟨Nat.zero_le _, Nat.zero_le _⟩ (fun H locs hP hD hS => ?_)
            have hP : va_P D vwCl (wX6 cA ad thrown tape taped value weight many block ties lines q15.1 q15.2.1 q15.2.2 undos fresh newValue newWeight newMany newBlock newTies newLines hasBlock hasTies size att place sort number fault faultPlace lastFault lastPlace toValue toWeight toMany often firstOf lastOf unlikes unlikeMany isCandidate modes fewest) H := hP
            have hD : va_D A (wX6 cA ad thrown tape taped value weight many block ties lines q15.1 q15.2.1 q15.2.2 undos fresh newValue newWeight newMany newBlock newTies newLines hasBlock hasTies size att place sort number fault faultPlace lastFault lastPlace toValue toWeight toMany often firstOf lastOf unlikes unlikeMany isCandidate modes fewest) := hD
            refine lv_iinc (v := (x1 + 1)) (lv' := [(1, .int (x1 + 1)), (0, .ref (ad 0))]) hx hb dX6_edits_33 hl (k := 1) rfl rfl (by decide) rfl (fun ls hl => ?_)
            refine lv_goto (tgt := 19) hx hb dX6_edits_36 (by decide) ?_
            exact ih19 (x1 + 1) thrown tape taped value weight many block ties lines q15.1 q15.2.1 q15.2.2 undos fresh newValue newWeight newMany newBlock newTies newLines hasBlock hasTies size att place sort number fault faultPlace lastFault lastPlace toValue toWeight toMany often firstOf lastOf unlikes unlikeMany isCandidate modes fewest z13 _ _ _ (lv_sub hl [1, 0] rfl) hP hD hS h hk19
      obtain ⟨z16, ez16, h⟩ := e_b h
      refine hL19 FU 1 thrown tape taped value weight many block ties lines pastValue pastWeight pastMany undos fresh newValue newWeight newMany newBlock newTies newLines hasBlock hasTies size att place sort number fault faultPlace lastFault lastPlace toValue toWeight toMany often firstOf lastOf unlikes unlikeMany isCandidate modes fewest z16 _ _ _ (lv_sub hl [1, 0] rfl) hP hD hS ez16 (fun ls H locs hl hP hD hS => ?_)
      refine lv_aload_n hx hb dX6_edits_39 rfl (lv_at hl 0 rfl) ?_
      refine lv_dup hx hb dX6_edits_40 rfl ?_
      refine va_get (D := D) (ci := 6) (v := .int undos) (C := RX6) (T := TX6) (N := 42) hx hb hts iX6 hown hK hP 0 rfl rfl 12 (Nat.le_of_ble_eq_true rfl) f184 (fun _ h9 => h9) rfl dX6_edits_41 ?_
      refine lv_iconst (v := 1) hx hb dX6_edits_44 (by decide) ?_
      refine lv_isub hx hb dX6_edits_45 ?_
      refine va_put (D := D) (ci := 6) (v := .int (undos - 1)) (ty := .int) (C := RX6) (T := TX6) (N := 42) hx hb hts iX6 tyX6 tyX6_ok nmX6 hown hK hP hD hS 0 rfl rfl 12 (Nat.le_of_ble_eq_true rfl) f184 (fun _ h9 => h9) rfl (tyX6_ok 12 (Nat.le_of_ble_eq_true rfl)) rfl rfl (Nat.le_of_ble_eq_true rfl) dX6_edits_46 (fun H locs hP hD hS => ?_)
      have hP : va_P D vwCl (wX6 cA ad thrown tape taped value weight many block ties lines z16.1 z16.2.1 z16.2.2 (undos - 1) fresh newValue newWeight newMany newBlock newTies newLines hasBlock hasTies size att place sort number fault faultPlace lastFault lastPlace toValue toWeight toMany often firstOf lastOf unlikes unlikeMany isCandidate modes fewest) H := hP
      have hD : va_D A (wX6 cA ad thrown tape taped value weight many block ties lines z16.1 z16.2.1 z16.2.2 (undos - 1) fresh newValue newWeight newMany newBlock newTies newLines hasBlock hasTies size att place sort number fault faultPlace lastFault lastPlace toValue toWeight toMany often firstOf lastOf unlikes unlikeMany isCandidate modes fewest) := hD
      refine lv_iconst (v := 0) hx hb dX6_edits_49 (by decide) ?_
      refine lv_istore_n (lv' := [(1, .int 0), (0, .ref (ad 0))]) hx hb dX6_edits_50 rfl hl (by decide) rfl (fun ls hl => ?_)
      have hL51 : ∀ (n : Nat) (x1 : Int32) (thrown : Int32) (tape : Nat → Int32) (taped : Int32) (value : Nat → Int32) (weight : Nat → Int32) (many : Int32) (block : Int32) (ties : Int32) (lines : Int32) (pastValue : Nat → Int32) (pastWeight : Nat → Int32) (pastMany : Nat → Int32) (undos : Int32) (fresh : Int32) (newValue : Nat → Int32) (newWeight : Nat → Int32) (newMany : Int32) (newBlock : Int32) (newTies : Int32) (newLines : Int32) (hasBlock : Int32) (hasTies : Int32) (size : Int32) (att : Int32) (place : Int32) (sort : Int32) (number : Int32) (fault : Int32) (faultPlace : Int32) (lastFault : Int32) (lastPlace : Int32) (toValue : Nat → Int32) (toWeight : Nat → Int32) (toMany : Int32) (often : Nat → Int32) (firstOf : Nat → Int32) (lastOf : Nat → Int32) (unlikes : Nat → Int32) (unlikeMany : Int32) (isCandidate : Nat → Int32) (modes : Nat → Int32) (fewest : Nat → Int32) (z17 : (Nat → Int32) × (Nat → Int32)) (ls : Array Slot) (H : Heap) (locs : List Loc), lv_has ls 2 [(0, .ref (ad 0)), (1, .int x1)] → va_P D vwCl (wX6 cA ad thrown tape taped value weight many block ties lines pastValue pastWeight pastMany undos fresh newValue newWeight newMany newBlock newTies newLines hasBlock hasTies size att place sort number fault faultPlace lastFault lastPlace toValue toWeight toMany often firstOf lastOf unlikes unlikeMany isCandidate modes fewest) H → va_D A (wX6 cA ad thrown tape taped value weight many block ties lines pastValue pastWeight pastMany undos fresh newValue newWeight newMany newBlock newTies newLines hasBlock hasTies size att place sort number fault faultPlace lastFault lastPlace toValue toWeight toMany often firstOf lastOf unlikes unlikeMany isCandidate modes fewest) → va_S A s.heap H locs → mX6_edits_L51 value weight many undos n x1 pastValue pastWeight = some z17 → (∀ (ls : Array Slot) (H : Heap) (locs : List Loc), lv_has ls 2 [(0, .ref (ad 0))] → va_P D vwCl (wX6 cA ad thrown tape taped value weight many block ties lines z17.1 z17.2 pastMany undos fresh newValue newWeight newMany newBlock newTies newLines hasBlock hasTies size att place sort number fault faultPlace lastFault lastPlace toValue toWeight toMany often firstOf lastOf unlikes unlikeMany isCandidate modes fewest) H → va_D A (wX6 cA ad thrown tape taped value weight many block ties lines z17.1 z17.2 pastMany undos fresh newValue newWeight newMany newBlock newTies newLines hasBlock hasTies size att place sort number fault faultPlace lastFault lastPlace toValue toWeight toMany often firstOf lastOf unlikes unlikeMany isCandidate modes fewest) → va_S A s.heap H locs → W p l e (headSpec wsX6_edits { frames := 4, cells := 0, slots := 0, locals := 91 }).room s m args below meth c H locs 0 0 Q (F0 m 105 ls [])) → W p l e (headSpec wsX6_edits { frames := 4, cells := 0, slots := 0, locals := 91 }).room s m args below meth c H locs 0 0 Q (F0 m 51 ls []) := by
        intro n
        induction n with
        | zero => intro x1 thrown tape taped value weight many block ties lines pastValue pastWeight pastMany undos fresh newValue newWeight newMany newBlock newTies newLines hasBlock hasTies size att place sort number fault faultPlace lastFault lastPlace toValue toWeight toMany often firstOf lastOf unlikes unlikeMany isCandidate modes fewest z17 ls H locs hl hP hD hS h hk51; exact e_n h
        | succ n ih51 =>
          intro x1 thrown tape taped value weight many block ties lines pastValue pastWeight pastMany undos fresh newValue newWeight newMany newBlock newTies newLines hasBlock hasTies size att place sort number fault faultPlace lastFault lastPlace toValue toWeight toMany often firstOf lastOf unlikes unlikeMany isCandidate modes fewest z17 ls H locs hl hP hD hS h hk51
          rw [mX6_edits_L51.eq_2] at h
          refine lv_iload_n hx hb dX6_edits_51 rfl (lv_at hl 1 rfl) ?_
          refine lv_aload_n hx hb dX6_edits_52 rfl (lv_at hl 0 rfl) ?_
          refine va_get (D := D) (ci := 6) (v := .int many) (C := RX6) (T := TX6) (N := 42) hx hb hts iX6 hown hK hP 0 rfl rfl 5 (Nat.le_of_ble_eq_true rfl) f175 (fun _ h9 => h9) rfl dX6_edits_53 ?_
          refine lv_icmp_ge (tgt := 105) hx hb dX6_edits_56 (by decide) (fun c18 => ?_) (fun c18 => ?_)
          · have h := e_t c18 h
            obtain rfl := e_s h
            exact hk51 _ _ _ (lv_sub hl [0] rfl) hP hD hS
          · have h := e_f c18 h
            refine lv_aload_n hx hb dX6_edits_59 rfl (lv_at hl 0 rfl) ?_
            refine va_get (D := D) (ci := 6) (v := .ref (ad 4)) (C := RX6) (T := TX6) (N := 42) hx hb hts iX6 hown hK hP 0 rfl rfl 9 (Nat.le_of_ble_eq_true rfl) f19 (fun _ h9 => h9) rfl dX6_edits_60 ?_
            refine lv_bipush (v := 120) hx hb dX6_edits_63 (by decide) ?_
            refine lv_aload_n hx hb dX6_edits_65 rfl (lv_at hl 0 rfl) ?_
            refine va_get (D := D) (ci := 6) (v := .int undos) (C := RX6) (T := TX6) (N := 42) hx hb hts iX6 hown hK hP 0 rfl rfl 12 (Nat.le_of_ble_eq_true rfl) f184 (fun _ h9 => h9) rfl dX6_edits_66 ?_
            refine lv_imul hx hb dX6_edits_69 ?_
            refine lv_iload_n hx hb dX6_edits_70 rfl (lv_at hl 1 rfl) ?_
            refine lv_iadd hx hb dX6_edits_71 ?_
            refine lv_aload_n hx hb dX6_edits_72 rfl (lv_at hl 0 rfl) ?_
            refine va_get (D := D) (ci := 6) (v := .ref (ad 2)) (C := RX6) (T := TX6) (N := 42) hx hb hts iX6 hown hK hP 0 rfl rfl 3 (Nat.le_of_ble_eq_true rfl) f13 (fun _ h9 => h9) rfl dX6_edits_73 ?_
            refine lv_iload_n hx hb dX6_edits_76 rfl (lv_at hl 1 rfl) ?_
            obtain ⟨v19, ev19, nv19, h⟩ := e_rd h
            refine xa_iald hx hb hK hP 2 rfl nv19 ev19 dX6_edits_77 ?_
            obtain ⟨a20, ea20, na20, h⟩ := e_wr h
            refine xa_iast hx hb hK hP hD hS 4 rfl na20 ea20 dX6_edits_78 (fun H locs hP hD hS => ?_)
            have hP : va_P D vwCl (wX6 cA ad thrown tape taped value weight many block ties lines a20 pastWeight pastMany undos fresh newValue newWeight newMany newBlock newTies newLines hasBlock hasTies size att place sort number fault faultPlace lastFault lastPlace toValue toWeight toMany often firstOf lastOf unlikes unlikeMany isCandidate modes fewest) H := hP
            have hD : va_D A (wX6 cA ad thrown tape taped value weight many block ties lines a20 pastWeight pastMany undos fresh newValue newWeight newMany newBlock newTies newLines hasBlock hasTies size att place sort number fault faultPlace lastFault lastPlace toValue toWeight toMany often firstOf lastOf unlikes unlikeMany isCandidate modes fewest) := hD
            refine lv_aload_n hx hb dX6_edits_79 rfl (lv_at hl 0 rfl) ?_
            refine va_get (D := D) (ci := 6) (v := .ref (ad 5)) (C := RX6) (T := TX6) (N := 42) hx hb hts iX6 hown hK hP 0 rfl rfl 10 (Nat.le_of_ble_eq_true rfl) f22 (fun _ h9 => h9) rfl dX6_edits_80 ?_
            refine lv_bipush (v := 120) hx hb dX6_edits_83 (by decide) ?_
            refine lv_aload_n hx hb dX6_edits_85 rfl (lv_at hl 0 rfl) ?_
            refine va_get (D := D) (ci := 6) (v := .int undos) (C := RX6) (T := TX6) (N := 42) hx hb hts iX6 hown hK hP 0 rfl rfl 12 (Nat.le_of_ble_eq_true rfl) f184 (fun _ h9 => h9) rfl dX6_edits_86 ?_
            refine lv_imul hx hb dX6_edits_89 ?_
            refine lv_iload_n hx hb dX6_edits_90 rfl (lv_at hl 1 rfl) ?_
            refine lv_iadd hx hb dX6_edits_91 ?_
            refine lv_aload_n hx hb dX6_edits_92 rfl (lv_at hl 0 rfl) ?_
            refine va_get (D := D) (ci := 6) (v := .ref (ad 3)) (C := RX6) (T := TX6) (N := 42) hx hb hts iX6 hown hK hP 0 rfl rfl 4 (Nat.le_of_ble_eq_true rfl) f16 (fun _ h9 => h9) rfl dX6_edits_93 ?_
            refine lv_iload_n hx hb dX6_edits_96 rfl (lv_at hl 1 rfl) ?_
            obtain ⟨v21, ev21, nv21, h⟩ := e_rd h
            refine xa_iald hx hb hK hP 3 rfl nv21 ev21 dX6_edits_97 ?_
            obtain ⟨a22, ea22, na22, h⟩ := e_wr h
            refine xa_iast hx hb hK hP hD hS 5 rfl na22 ea22 dX6_edits_98 (fun H locs hP hD hS => ?_)
            have hP : va_P D vwCl (wX6 cA ad thrown tape taped value weight many block ties lines a20 a22 pastMany undos fresh newValue newWeight newMany newBlock newTies newLines hasBlock hasTies size att place sort number fault faultPlace lastFault lastPlace toValue toWeight toMany often firstOf lastOf unlikes unlikeMany isCandidate modes fewest) H := hP
            have hD : va_D A (wX6 cA ad thrown tape taped value weight many block ties lines a20 a22 pastMany undos fresh newValue newWeight newMany newBlock newTies newLines hasBlock hasTies size att place sort number fault faultPlace lastFault lastPlace toValue toWeight toMany often firstOf lastOf unlikes unlikeMany isCandidate modes fewest) := hD
            refine lv_iinc (v := (x1 + 1)) (lv' := [(1, .int (x1 + 1)), (0, .ref (ad 0))]) hx hb dX6_edits_99 hl (k := 1) rfl rfl (by decide) rfl (fun ls hl => ?_)
            refine lv_goto (tgt := 51) hx hb dX6_edits_102 (by decide) ?_
            exact ih51 (x1 + 1) thrown tape taped value weight many block ties lines a20 a22 pastMany undos fresh newValue newWeight newMany newBlock newTies newLines hasBlock hasTies size att place sort number fault faultPlace lastFault lastPlace toValue toWeight toMany often firstOf lastOf unlikes unlikeMany isCandidate modes fewest z17 _ _ _ (lv_sub hl [1, 0] rfl) hP hD hS h hk51
      obtain ⟨z23, ez23, h⟩ := e_b h
      refine hL51 FU 0 thrown tape taped value weight many block ties lines z16.1 z16.2.1 z16.2.2 (undos - 1) fresh newValue newWeight newMany newBlock newTies newLines hasBlock hasTies size att place sort number fault faultPlace lastFault lastPlace toValue toWeight toMany often firstOf lastOf unlikes unlikeMany isCandidate modes fewest z23 _ _ _ (lv_sub hl [1, 0] rfl) hP hD hS ez23 (fun ls H locs hl hP hD hS => ?_)
      refine lv_aload_n hx hb dX6_edits_105 rfl (lv_at hl 0 rfl) ?_
      refine va_get (D := D) (ci := 6) (v := .ref (ad 6)) (C := RX6) (T := TX6) (N := 42) hx hb hts iX6 hown hK hP 0 rfl rfl 11 (Nat.le_of_ble_eq_true rfl) f25 (fun _ h9 => h9) rfl dX6_edits_106 ?_
      refine lv_aload_n hx hb dX6_edits_109 rfl (lv_at hl 0 rfl) ?_
      refine va_get (D := D) (ci := 6) (v := .int (undos - 1)) (C := RX6) (T := TX6) (N := 42) hx hb hts iX6 hown hK hP 0 rfl rfl 12 (Nat.le_of_ble_eq_true rfl) f184 (fun _ h9 => h9) rfl dX6_edits_110 ?_
      refine lv_aload_n hx hb dX6_edits_113 rfl (lv_at hl 0 rfl) ?_
      refine va_get (D := D) (ci := 6) (v := .int many) (C := RX6) (T := TX6) (N := 42) hx hb hts iX6 hown hK hP 0 rfl rfl 5 (Nat.le_of_ble_eq_true rfl) f175 (fun _ h9 => h9) rfl dX6_edits_114 ?_
      obtain ⟨a24, ea24, na24, h⟩ := e_wr h
      refine xa_iast hx hb hK hP hD hS 6 rfl na24 ea24 dX6_edits_117 (fun H locs hP hD hS => ?_)
      have hP : va_P D vwCl (wX6 cA ad thrown tape taped value weight many block ties lines z23.1 z23.2 a24 (undos - 1) fresh newValue newWeight newMany newBlock newTies newLines hasBlock hasTies size att place sort number fault faultPlace lastFault lastPlace toValue toWeight toMany often firstOf lastOf unlikes unlikeMany isCandidate modes fewest) H := hP
      have hD : va_D A (wX6 cA ad thrown tape taped value weight many block ties lines z23.1 z23.2 a24 (undos - 1) fresh newValue newWeight newMany newBlock newTies newLines hasBlock hasTies size att place sort number fault faultPlace lastFault lastPlace toValue toWeight toMany often firstOf lastOf unlikes unlikeMany isCandidate modes fewest) := hD
      refine lv_aload_n hx hb dX6_edits_118 rfl (lv_at hl 0 rfl) ?_
      refine lv_dup hx hb dX6_edits_119 rfl ?_
      refine va_get (D := D) (ci := 6) (v := .int (undos - 1)) (C := RX6) (T := TX6) (N := 42) hx hb hts iX6 hown hK hP 0 rfl rfl 12 (Nat.le_of_ble_eq_true rfl) f184 (fun _ h9 => h9) rfl dX6_edits_120 ?_
      refine lv_iconst (v := 1) hx hb dX6_edits_123 (by decide) ?_
      refine lv_iadd hx hb dX6_edits_124 ?_
      refine va_put (D := D) (ci := 6) (v := .int ((undos - 1) + 1)) (ty := .int) (C := RX6) (T := TX6) (N := 42) hx hb hts iX6 tyX6 tyX6_ok nmX6 hown hK hP hD hS 0 rfl rfl 12 (Nat.le_of_ble_eq_true rfl) f184 (fun _ h9 => h9) rfl (tyX6_ok 12 (Nat.le_of_ble_eq_true rfl)) rfl rfl (Nat.le_of_ble_eq_true rfl) dX6_edits_125 (fun H locs hP hD hS => ?_)
      have hP : va_P D vwCl (wX6 cA ad thrown tape taped value weight many block ties lines z23.1 z23.2 a24 ((undos - 1) + 1) fresh newValue newWeight newMany newBlock newTies newLines hasBlock hasTies size att place sort number fault faultPlace lastFault lastPlace toValue toWeight toMany often firstOf lastOf unlikes unlikeMany isCandidate modes fewest) H := hP
      have hD : va_D A (wX6 cA ad thrown tape taped value weight many block ties lines z23.1 z23.2 a24 ((undos - 1) + 1) fresh newValue newWeight newMany newBlock newTies newLines hasBlock hasTies size att place sort number fault faultPlace lastFault lastPlace toValue toWeight toMany often firstOf lastOf unlikes unlikeMany isCandidate modes fewest) := hD
      refine lv_aload_n hx hb dX6_edits_128 rfl (lv_at hl 0 rfl) ?_
      obtain ⟨q25, eq25, h⟩ := e_b h
      refine xv_v0 (As := []) (rest := []) (ci := 6) (b := ad 0) ⟨hx, hb, hml, hown, hts⟩ hl.1 (kX6_becomes l D cA ad thrown tape taped value weight many block ties lines z23.1 z23.2 a24 ((undos - 1) + 1) fresh newValue newWeight newMany newBlock newTies newLines hasBlock hasTies size att place sort number fault faultPlace lastFault lastPlace toValue toWeight toMany often firstOf lastOf unlikes unlikeMany isCandidate modes fewest   _ eq25) (cwV 0 hts gX6_edits_X6_becomes rfl rfl rfl (by decide +kernel) ⟨Nat.le_of_ble_eq_true rfl, Nat.le_of_ble_eq_true rfl⟩) rfl hK hP hD hS hA 0 rfl rfl rfl rfl (Nat.le_of_ble_eq_true rfl) dX6_edits_129 ⟨Nat.zero_le _, Nat.zero_le _⟩ (fun H locs hP hD hS => ?_)
      have hP : va_P D vwCl (wX6 cA ad thrown tape taped q25.1 q25.2.1 q25.2.2.1 block ties lines z23.1 z23.2 a24 ((undos - 1) + 1) q25.2.2.2 newValue newWeight newMany newBlock newTies newLines hasBlock hasTies size att place sort number fault faultPlace lastFault lastPlace toValue toWeight toMany often firstOf lastOf unlikes unlikeMany isCandidate modes fewest) H := hP
      have hD : va_D A (wX6 cA ad thrown tape taped q25.1 q25.2.1 q25.2.2.1 block ties lines z23.1 z23.2 a24 ((undos - 1) + 1) q25.2.2.2 newValue newWeight newMany newBlock newTies newLines hasBlock hasTies size att place sort number fault faultPlace lastFault lastPlace toValue toWeight toMany often firstOf lastOf unlikes unlikeMany isCandidate modes fewest) := hD
      obtain rfl := e_s h
      exact hret hP hS dX6_edits_132
  · have h := e_f (not_not_intro c2) h
    obtain rfl := e_s h
    exact hret hP hS dX6_edits_7
set_option maxHeartbeats 4000000 in
set_option maxRecDepth 100000 in
theorem kX6_undo (l : Launch) (D : va_G) (cA : Nat → ClassId) (ad : Nat → Nat) (thrown : Int32) (tape : Nat → Int32) (taped : Int32) (value : Nat → Int32) (weight : Nat → Int32) (many : Int32) (block : Int32) (ties : Int32) (lines : Int32) (pastValue : Nat → Int32) (pastWeight : Nat → Int32) (pastMany : Nat → Int32) (undos : Int32) (fresh : Int32) (newValue : Nat → Int32) (newWeight : Nat → Int32) (newMany : Int32) (newBlock : Int32) (newTies : Int32) (newLines : Int32) (hasBlock : Int32) (hasTies : Int32) (size : Int32) (att : Int32) (place : Int32) (sort : Int32) (number : Int32) (fault : Int32) (faultPlace : Int32) (lastFault : Int32) (lastPlace : Int32) (toValue : Nat → Int32) (toWeight : Nat → Int32) (toMany : Int32) (often : Nat → Int32) (firstOf : Nat → Int32) (lastOf : Nat → Int32) (unlikes : Nat → Int32) (unlikeMany : Int32) (isCandidate : Nat → Int32) (modes : Nat → Int32) (fewest : Nat → Int32)  (q : Int32 × Int32 × (Nat → Int32) × (Nat → Int32) × Int32 × Int32 × Int32 × (Nat → Int32) × (Nat → Int32) × Int32) (h : mX6_undo thrown value weight many block pastValue pastWeight pastMany undos fresh toValue toWeight toMany  = some q) : MI l yX6_undo wsX6_undo { frames := 4, cells := 0, slots := 0, locals := 91 } D cA .int [.ref (ad 0)] (wX6 cA ad thrown tape taped value weight many block ties lines pastValue pastWeight pastMany undos fresh newValue newWeight newMany newBlock newTies newLines hasBlock hasTies size att place sort number fault faultPlace lastFault lastPlace toValue toWeight toMany often firstOf lastOf unlikes unlikeMany isCandidate modes fewest) (wX6 cA ad q.2.1 tape taped q.2.2.1 q.2.2.2.1 q.2.2.2.2.1 block ties lines pastValue pastWeight pastMany q.2.2.2.2.2.1 q.2.2.2.2.2.2.1 newValue newWeight newMany newBlock newTies newLines hasBlock hasTies size att place sort number fault faultPlace lastFault lastPlace q.2.2.2.2.2.2.2.1 q.2.2.2.2.2.2.2.2.1 q.2.2.2.2.2.2.2.2.2 often firstOf lastOf unlikes unlikeMany isCandidate modes fewest) q.1 := by
  refine MI.of (cc := cX6_undo) (maxL := 2) (by decide +kernel) rfl rfl rfl (Nat.le_of_ble_eq_true rfl) ?_
  intro p e s m args below meth c A ls Q hx hb hml hts hown hK hP hD hA hS hl hret
  have hl : lv_has ls 2 [(0, .ref (ad 0))] := hl
  have f184 := hts (.fieldLink RX6 184 "ModeDeskModel" "undos" "I") (by decide +kernel)
  have f19 := hts (.fieldLink RX6 19 "ModeDeskModel" "pastValue" "[I") (by decide +kernel)
  have f197 := hts (.fieldLink RX6 197 "ModeDeskModel" "toMany" "I") (by decide +kernel)
  have f22 := hts (.fieldLink RX6 22 "ModeDeskModel" "pastWeight" "[I") (by decide +kernel)
  have f25 := hts (.fieldLink RX6 25 "ModeDeskModel" "pastMany" "[I") (by decide +kernel)
  have f41 := hts (.fieldLink RX6 41 "ModeDeskModel" "toValue" "[I") (by decide +kernel)
  have f44 := hts (.fieldLink RX6 44 "ModeDeskModel" "toWeight" "[I") (by decide +kernel)
  have f72 := hts (.fieldLink RX6 72 "ModeDeskModel" "thrown" "I") (by decide +kernel)
  have iX6 : ∀ w ∈ wsX60, w ∈ wsX6_undo := by decide +kernel
  unfold mX6_undo at h
  refine lv_aload_n hx hb dX6_undo_0 rfl (lv_at hl 0 rfl) ?_
  refine lv_iconst (v := 0) hx hb dX6_undo_1 (by decide) ?_
  refine va_put (D := D) (ci := 6) (v := .int 0) (ty := .int) (C := RX6) (T := TX6) (N := 42) hx hb hts iX6 tyX6 tyX6_ok nmX6 hown hK hP hD hS 0 rfl rfl 0 (Nat.le_of_ble_eq_true rfl) f72 (fun _ h9 => h9) rfl (tyX6_ok 0 (Nat.le_of_ble_eq_true rfl)) rfl rfl (Nat.le_of_ble_eq_true rfl) dX6_undo_2 (fun H locs hP hD hS => ?_)
  have hP : va_P D vwCl (wX6 cA ad 0 tape taped value weight many block ties lines pastValue pastWeight pastMany undos fresh newValue newWeight newMany newBlock newTies newLines hasBlock hasTies size att place sort number fault faultPlace lastFault lastPlace toValue toWeight toMany often firstOf lastOf unlikes unlikeMany isCandidate modes fewest) H := hP
  have hD : va_D A (wX6 cA ad 0 tape taped value weight many block ties lines pastValue pastWeight pastMany undos fresh newValue newWeight newMany newBlock newTies newLines hasBlock hasTies size att place sort number fault faultPlace lastFault lastPlace toValue toWeight toMany often firstOf lastOf unlikes unlikeMany isCandidate modes fewest) := hD
  refine lv_aload_n hx hb dX6_undo_5 rfl (lv_at hl 0 rfl) ?_
  refine va_get (D := D) (ci := 6) (v := .int undos) (C := RX6) (T := TX6) (N := 42) hx hb hts iX6 hown hK hP 0 rfl rfl 12 (Nat.le_of_ble_eq_true rfl) f184 (fun _ h9 => h9) rfl dX6_undo_6 ?_
  refine lv_if_ne (tgt := 14) hx hb dX6_undo_9 (by decide) (fun c1 => ?_) (fun c1 => ?_)
  · have h := e_t c1 h
    refine lv_aload_n hx hb dX6_undo_14 rfl (lv_at hl 0 rfl) ?_
    refine lv_dup hx hb dX6_undo_15 rfl ?_
    refine va_get (D := D) (ci := 6) (v := .int undos) (C := RX6) (T := TX6) (N := 42) hx hb hts iX6 hown hK hP 0 rfl rfl 12 (Nat.le_of_ble_eq_true rfl) f184 (fun _ h9 => h9) rfl dX6_undo_16 ?_
    refine lv_iconst (v := 1) hx hb dX6_undo_19 (by decide) ?_
    refine lv_isub hx hb dX6_undo_20 ?_
    refine va_put (D := D) (ci := 6) (v := .int (undos - 1)) (ty := .int) (C := RX6) (T := TX6) (N := 42) hx hb hts iX6 tyX6 tyX6_ok nmX6 hown hK hP hD hS 0 rfl rfl 12 (Nat.le_of_ble_eq_true rfl) f184 (fun _ h9 => h9) rfl (tyX6_ok 12 (Nat.le_of_ble_eq_true rfl)) rfl rfl (Nat.le_of_ble_eq_true rfl) dX6_undo_21 (fun H locs hP hD hS => ?_)
    have hP : va_P D vwCl (wX6 cA ad 0 tape taped value weight many block ties lines pastValue pastWeight pastMany (undos - 1) fresh newValue newWeight newMany newBlock newTies newLines hasBlock hasTies size att place sort number fault faultPlace lastFault lastPlace toValue toWeight toMany often firstOf lastOf unlikes unlikeMany isCandidate modes fewest) H := hP
    have hD : va_D A (wX6 cA ad 0 tape taped value weight many block ties lines pastValue pastWeight pastMany (undos - 1) fresh newValue newWeight newMany newBlock newTies newLines hasBlock hasTies size att place sort number fault faultPlace lastFault lastPlace toValue toWeight toMany often firstOf lastOf unlikes unlikeMany isCandidate modes fewest) := hD
    refine lv_aload_n hx hb dX6_undo_24 rfl (lv_at hl 0 rfl) ?_
    refine lv_aload_n hx hb dX6_undo_25 rfl (lv_at hl 0 rfl) ?_
    refine va_get (D := D) (ci := 6) (v := .ref (ad 6)) (C := RX6) (T := TX6) (N := 42) hx hb hts iX6 hown hK hP 0 rfl rfl 11 (Nat.le_of_ble_eq_true rfl) f25 (fun _ h9 => h9) rfl dX6_undo_26 ?_
    refine lv_aload_n hx hb dX6_undo_29 rfl (lv_at hl 0 rfl) ?_
    refine va_get (D := D) (ci := 6) (v := .int (undos - 1)) (C := RX6) (T := TX6) (N := 42) hx hb hts iX6 hown hK hP 0 rfl rfl 12 (Nat.le_of_ble_eq_true rfl) f184 (fun _ h9 => h9) rfl dX6_undo_30 ?_
    obtain ⟨v2, ev2, nv2, h⟩ := e_rd h
    refine xa_iald hx hb hK hP 6 rfl nv2 ev2 dX6_undo_33 ?_
    refine va_put (D := D) (ci := 6) (v := .int v2) (ty := .int) (C := RX6) (T := TX6) (N := 42) hx hb hts iX6 tyX6 tyX6_ok nmX6 hown hK hP hD hS 0 rfl rfl 33 (Nat.le_of_ble_eq_true rfl) f197 (fun _ h9 => h9) rfl (tyX6_ok 33 (Nat.le_of_ble_eq_true rfl)) rfl rfl (Nat.le_of_ble_eq_true rfl) dX6_undo_34 (fun H locs hP hD hS => ?_)
    have hP : va_P D vwCl (wX6 cA ad 0 tape taped value weight many block ties lines pastValue pastWeight pastMany (undos - 1) fresh newValue newWeight newMany newBlock newTies newLines hasBlock hasTies size att place sort number fault faultPlace lastFault lastPlace toValue toWeight v2 often firstOf lastOf unlikes unlikeMany isCandidate modes fewest) H := hP
    have hD : va_D A (wX6 cA ad 0 tape taped value weight many block ties lines pastValue pastWeight pastMany (undos - 1) fresh newValue newWeight newMany newBlock newTies newLines hasBlock hasTies size att place sort number fault faultPlace lastFault lastPlace toValue toWeight v2 often firstOf lastOf unlikes unlikeMany isCandidate modes fewest) := hD
    refine lv_iconst (v := 0) hx hb dX6_undo_37 (by decide) ?_
    refine lv_istore_n (lv' := [(1, .int 0), (0, .ref (ad 0))]) hx hb dX6_undo_38 rfl hl (by decide) rfl (fun ls hl => ?_)
    have hL39 : ∀ (n : Nat) (x1 : Int32) (thrown : Int32) (tape : Nat → Int32) (taped : Int32) (value : Nat → Int32) (weight : Nat → Int32) (many : Int32) (block : Int32) (ties : Int32) (lines : Int32) (pastValue : Nat → Int32) (pastWeight : Nat → Int32) (pastMany : Nat → Int32) (undos : Int32) (fresh : Int32) (newValue : Nat → Int32) (newWeight : Nat → Int32) (newMany : Int32) (newBlock : Int32) (newTies : Int32) (newLines : Int32) (hasBlock : Int32) (hasTies : Int32) (size : Int32) (att : Int32) (place : Int32) (sort : Int32) (number : Int32) (fault : Int32) (faultPlace : Int32) (lastFault : Int32) (lastPlace : Int32) (toValue : Nat → Int32) (toWeight : Nat → Int32) (toMany : Int32) (often : Nat → Int32) (firstOf : Nat → Int32) (lastOf : Nat → Int32) (unlikes : Nat → Int32) (unlikeMany : Int32) (isCandidate : Nat → Int32) (modes : Nat → Int32) (fewest : Nat → Int32) (z3 : (Nat → Int32) × (Nat → Int32)) (ls : Array Slot) (H : Heap) (locs : List Loc), lv_has ls 2 [(0, .ref (ad 0)), (1, .int x1)] → va_P D vwCl (wX6 cA ad thrown tape taped value weight many block ties lines pastValue pastWeight pastMany undos fresh newValue newWeight newMany newBlock newTies newLines hasBlock hasTies size att place sort number fault faultPlace lastFault lastPlace toValue toWeight toMany often firstOf lastOf unlikes unlikeMany isCandidate modes fewest) H → va_D A (wX6 cA ad thrown tape taped value weight many block ties lines pastValue pastWeight pastMany undos fresh newValue newWeight newMany newBlock newTies newLines hasBlock hasTies size att place sort number fault faultPlace lastFault lastPlace toValue toWeight toMany often firstOf lastOf unlikes unlikeMany isCandidate modes fewest) → va_S A s.heap H locs → mX6_undo_L39 pastValue pastWeight undos toMany n x1 toValue toWeight = some z3 → (∀ (ls : Array Slot) (H : Heap) (locs : List Loc), lv_has ls 2 [(0, .ref (ad 0))] → va_P D vwCl (wX6 cA ad thrown tape taped value weight many block ties lines pastValue pastWeight pastMany undos fresh newValue newWeight newMany newBlock newTies newLines hasBlock hasTies size att place sort number fault faultPlace lastFault lastPlace z3.1 z3.2 toMany often firstOf lastOf unlikes unlikeMany isCandidate modes fewest) H → va_D A (wX6 cA ad thrown tape taped value weight many block ties lines pastValue pastWeight pastMany undos fresh newValue newWeight newMany newBlock newTies newLines hasBlock hasTies size att place sort number fault faultPlace lastFault lastPlace z3.1 z3.2 toMany often firstOf lastOf unlikes unlikeMany isCandidate modes fewest) → va_S A s.heap H locs → W p l e (headSpec wsX6_undo { frames := 4, cells := 0, slots := 0, locals := 91 }).room s m args below meth c H locs 0 0 Q (F0 m 93 ls [])) → W p l e (headSpec wsX6_undo { frames := 4, cells := 0, slots := 0, locals := 91 }).room s m args below meth c H locs 0 0 Q (F0 m 39 ls []) := by
      intro n
      induction n with
      | zero => intro x1 thrown tape taped value weight many block ties lines pastValue pastWeight pastMany undos fresh newValue newWeight newMany newBlock newTies newLines hasBlock hasTies size att place sort number fault faultPlace lastFault lastPlace toValue toWeight toMany often firstOf lastOf unlikes unlikeMany isCandidate modes fewest z3 ls H locs hl hP hD hS h hk39; exact e_n h
      | succ n ih39 =>
        intro x1 thrown tape taped value weight many block ties lines pastValue pastWeight pastMany undos fresh newValue newWeight newMany newBlock newTies newLines hasBlock hasTies size att place sort number fault faultPlace lastFault lastPlace toValue toWeight toMany often firstOf lastOf unlikes unlikeMany isCandidate modes fewest z3 ls H locs hl hP hD hS h hk39
        rw [mX6_undo_L39.eq_2] at h
        refine lv_iload_n hx hb dX6_undo_39 rfl (lv_at hl 1 rfl) ?_
        refine lv_aload_n hx hb dX6_undo_40 rfl (lv_at hl 0 rfl) ?_
        refine va_get (D := D) (ci := 6) (v := .int toMany) (C := RX6) (T := TX6) (N := 42) hx hb hts iX6 hown hK hP 0 rfl rfl 33 (Nat.le_of_ble_eq_true rfl) f197 (fun _ h9 => h9) rfl dX6_undo_41 ?_
        refine lv_icmp_ge (tgt := 93) hx hb dX6_undo_44 (by decide) (fun c4 => ?_) (fun c4 => ?_)
        · have h := e_t c4 h
          obtain rfl := e_s h
          exact hk39 _ _ _ (lv_sub hl [0] rfl) hP hD hS
        · have h := e_f c4 h
          refine lv_aload_n hx hb dX6_undo_47 rfl (lv_at hl 0 rfl) ?_
          refine va_get (D := D) (ci := 6) (v := .ref (ad 9)) (C := RX6) (T := TX6) (N := 42) hx hb hts iX6 hown hK hP 0 rfl rfl 31 (Nat.le_of_ble_eq_true rfl) f41 (fun _ h9 => h9) rfl dX6_undo_48 ?_
          refine lv_iload_n hx hb dX6_undo_51 rfl (lv_at hl 1 rfl) ?_
          refine lv_aload_n hx hb dX6_undo_52 rfl (lv_at hl 0 rfl) ?_
          refine va_get (D := D) (ci := 6) (v := .ref (ad 4)) (C := RX6) (T := TX6) (N := 42) hx hb hts iX6 hown hK hP 0 rfl rfl 9 (Nat.le_of_ble_eq_true rfl) f19 (fun _ h9 => h9) rfl dX6_undo_53 ?_
          refine lv_bipush (v := 120) hx hb dX6_undo_56 (by decide) ?_
          refine lv_aload_n hx hb dX6_undo_58 rfl (lv_at hl 0 rfl) ?_
          refine va_get (D := D) (ci := 6) (v := .int undos) (C := RX6) (T := TX6) (N := 42) hx hb hts iX6 hown hK hP 0 rfl rfl 12 (Nat.le_of_ble_eq_true rfl) f184 (fun _ h9 => h9) rfl dX6_undo_59 ?_
          refine lv_imul hx hb dX6_undo_62 ?_
          refine lv_iload_n hx hb dX6_undo_63 rfl (lv_at hl 1 rfl) ?_
          refine lv_iadd hx hb dX6_undo_64 ?_
          obtain ⟨v5, ev5, nv5, h⟩ := e_rd h
          refine xa_iald hx hb hK hP 4 rfl nv5 ev5 dX6_undo_65 ?_
          obtain ⟨a6, ea6, na6, h⟩ := e_wr h
          refine xa_iast hx hb hK hP hD hS 9 rfl na6 ea6 dX6_undo_66 (fun H locs hP hD hS => ?_)
          have hP : va_P D vwCl (wX6 cA ad thrown tape taped value weight many block ties lines pastValue pastWeight pastMany undos fresh newValue newWeight newMany newBlock newTies newLines hasBlock hasTies size att place sort number fault faultPlace lastFault lastPlace a6 toWeight toMany often firstOf lastOf unlikes unlikeMany isCandidate modes fewest) H := hP
          have hD : va_D A (wX6 cA ad thrown tape taped value weight many block ties lines pastValue pastWeight pastMany undos fresh newValue newWeight newMany newBlock newTies newLines hasBlock hasTies size att place sort number fault faultPlace lastFault lastPlace a6 toWeight toMany often firstOf lastOf unlikes unlikeMany isCandidate modes fewest) := hD
          refine lv_aload_n hx hb dX6_undo_67 rfl (lv_at hl 0 rfl) ?_
          refine va_get (D := D) (ci := 6) (v := .ref (ad 10)) (C := RX6) (T := TX6) (N := 42) hx hb hts iX6 hown hK hP 0 rfl rfl 32 (Nat.le_of_ble_eq_true rfl) f44 (fun _ h9 => h9) rfl dX6_undo_68 ?_
          refine lv_iload_n hx hb dX6_undo_71 rfl (lv_at hl 1 rfl) ?_
          refine lv_aload_n hx hb dX6_undo_72 rfl (lv_at hl 0 rfl) ?_
          refine va_get (D := D) (ci := 6) (v := .ref (ad 5)) (C := RX6) (T := TX6) (N := 42) hx hb hts iX6 hown hK hP 0 rfl rfl 10 (Nat.le_of_ble_eq_true rfl) f22 (fun _ h9 => h9) rfl dX6_undo_73 ?_
          refine lv_bipush (v := 120) hx hb dX6_undo_76 (by decide) ?_
          refine lv_aload_n hx hb dX6_undo_78 rfl (lv_at hl 0 rfl) ?_
          refine va_get (D := D) (ci := 6) (v := .int undos) (C := RX6) (T := TX6) (N := 42) hx hb hts iX6 hown hK hP 0 rfl rfl 12 (Nat.le_of_ble_eq_true rfl) f184 (fun _ h9 => h9) rfl dX6_undo_79 ?_
          refine lv_imul hx hb dX6_undo_82 ?_
          refine lv_iload_n hx hb dX6_undo_83 rfl (lv_at hl 1 rfl) ?_
          refine lv_iadd hx hb dX6_undo_84 ?_
          obtain ⟨v7, ev7, nv7, h⟩ := e_rd h
          refine xa_iald hx hb hK hP 5 rfl nv7 ev7 dX6_undo_85 ?_
          obtain ⟨a8, ea8, na8, h⟩ := e_wr h
          refine xa_iast hx hb hK hP hD hS 10 rfl na8 ea8 dX6_undo_86 (fun H locs hP hD hS => ?_)
          have hP : va_P D vwCl (wX6 cA ad thrown tape taped value weight many block ties lines pastValue pastWeight pastMany undos fresh newValue newWeight newMany newBlock newTies newLines hasBlock hasTies size att place sort number fault faultPlace lastFault lastPlace a6 a8 toMany often firstOf lastOf unlikes unlikeMany isCandidate modes fewest) H := hP
          have hD : va_D A (wX6 cA ad thrown tape taped value weight many block ties lines pastValue pastWeight pastMany undos fresh newValue newWeight newMany newBlock newTies newLines hasBlock hasTies size att place sort number fault faultPlace lastFault lastPlace a6 a8 toMany often firstOf lastOf unlikes unlikeMany isCandidate modes fewest) := hD
          refine lv_iinc (v := (x1 + 1)) (lv' := [(1, .int (x1 + 1)), (0, .ref (ad 0))]) hx hb dX6_undo_87 hl (k := 1) rfl rfl (by decide) rfl (fun ls hl => ?_)
          refine lv_goto (tgt := 39) hx hb dX6_undo_90 (by decide) ?_
          exact ih39 (x1 + 1) thrown tape taped value weight many block ties lines pastValue pastWeight pastMany undos fresh newValue newWeight newMany newBlock newTies newLines hasBlock hasTies size att place sort number fault faultPlace lastFault lastPlace a6 a8 toMany often firstOf lastOf unlikes unlikeMany isCandidate modes fewest z3 _ _ _ (lv_sub hl [1, 0] rfl) hP hD hS h hk39
    obtain ⟨z9, ez9, h⟩ := e_b h
    refine hL39 FU 0 0 tape taped value weight many block ties lines pastValue pastWeight pastMany (undos - 1) fresh newValue newWeight newMany newBlock newTies newLines hasBlock hasTies size att place sort number fault faultPlace lastFault lastPlace toValue toWeight v2 often firstOf lastOf unlikes unlikeMany isCandidate modes fewest z9 _ _ _ (lv_sub hl [1, 0] rfl) hP hD hS ez9 (fun ls H locs hl hP hD hS => ?_)
    refine lv_aload_n hx hb dX6_undo_93 rfl (lv_at hl 0 rfl) ?_
    obtain ⟨q10, eq10, h⟩ := e_b h
    refine xv_v0 (As := []) (rest := []) (ci := 6) (b := ad 0) ⟨hx, hb, hml, hown, hts⟩ hl.1 (kX6_becomes l D cA ad 0 tape taped value weight many block ties lines pastValue pastWeight pastMany (undos - 1) fresh newValue newWeight newMany newBlock newTies newLines hasBlock hasTies size att place sort number fault faultPlace lastFault lastPlace z9.1 z9.2 v2 often firstOf lastOf unlikes unlikeMany isCandidate modes fewest   _ eq10) (cwV 0 hts gX6_undo_X6_becomes rfl rfl rfl (by decide +kernel) ⟨Nat.le_of_ble_eq_true rfl, Nat.le_of_ble_eq_true rfl⟩) rfl hK hP hD hS hA 0 rfl rfl rfl rfl (Nat.le_of_ble_eq_true rfl) dX6_undo_94 ⟨Nat.zero_le _, Nat.zero_le _⟩ (fun H locs hP hD hS => ?_)
    have hP : va_P D vwCl (wX6 cA ad 0 tape taped q10.1 q10.2.1 q10.2.2.1 block ties lines pastValue pastWeight pastMany (undos - 1) q10.2.2.2 newValue newWeight newMany newBlock newTies newLines hasBlock hasTies size att place sort number fault faultPlace lastFault lastPlace z9.1 z9.2 v2 often firstOf lastOf unlikes unlikeMany isCandidate modes fewest) H := hP
    have hD : va_D A (wX6 cA ad 0 tape taped q10.1 q10.2.1 q10.2.2.1 block ties lines pastValue pastWeight pastMany (undos - 1) q10.2.2.2 newValue newWeight newMany newBlock newTies newLines hasBlock hasTies size att place sort number fault faultPlace lastFault lastPlace z9.1 z9.2 v2 often firstOf lastOf unlikes unlikeMany isCandidate modes fewest) := hD
    refine lv_aload_n hx hb dX6_undo_97 rfl (lv_at hl 0 rfl) ?_
    refine va_get (D := D) (ci := 6) (v := .int (undos - 1)) (C := RX6) (T := TX6) (N := 42) hx hb hts iX6 hown hK hP 0 rfl rfl 12 (Nat.le_of_ble_eq_true rfl) f184 (fun _ h9 => h9) rfl dX6_undo_98 ?_
    obtain rfl := e_s h
    exact hret hP hS rfl dX6_undo_101
  · have h := e_f (not_not_intro c1) h
    refine lv_iconst (v := (-1)) hx hb dX6_undo_12 (by decide) ?_
    obtain rfl := e_s h
    exact hret hP hS rfl dX6_undo_13
set_option maxHeartbeats 4000000 in
set_option maxRecDepth 100000 in
theorem kX6_set (l : Launch) (D : va_G) (cA : Nat → ClassId) (ad : Nat → Nat) (thrown : Int32) (tape : Nat → Int32) (taped : Int32) (value : Nat → Int32) (weight : Nat → Int32) (many : Int32) (block : Int32) (ties : Int32) (lines : Int32) (pastValue : Nat → Int32) (pastWeight : Nat → Int32) (pastMany : Nat → Int32) (undos : Int32) (fresh : Int32) (newValue : Nat → Int32) (newWeight : Nat → Int32) (newMany : Int32) (newBlock : Int32) (newTies : Int32) (newLines : Int32) (hasBlock : Int32) (hasTies : Int32) (size : Int32) (att : Int32) (place : Int32) (sort : Int32) (number : Int32) (fault : Int32) (faultPlace : Int32) (lastFault : Int32) (lastPlace : Int32) (toValue : Nat → Int32) (toWeight : Nat → Int32) (toMany : Int32) (often : Nat → Int32) (firstOf : Nat → Int32) (lastOf : Nat → Int32) (unlikes : Nat → Int32) (unlikeMany : Int32) (isCandidate : Nat → Int32) (modes : Nat → Int32) (fewest : Nat → Int32) (x1 : Int32) (x2 : Int32) (q : Int32 × Int32 × (Nat → Int32) × (Nat → Int32) × Int32 × (Nat → Int32) × (Nat → Int32) × (Nat → Int32) × Int32 × Int32 × (Nat → Int32) × (Nat → Int32) × Int32) (h : mX6_set thrown value weight many block pastValue pastWeight pastMany undos fresh toValue toWeight toMany x1 x2 = some q) : MI l yX6_set wsX6_set { frames := 5, cells := 0, slots := 0, locals := 112 } D cA .int [.ref (ad 0), .int x1, .int x2] (wX6 cA ad thrown tape taped value weight many block ties lines pastValue pastWeight pastMany undos fresh newValue newWeight newMany newBlock newTies newLines hasBlock hasTies size att place sort number fault faultPlace lastFault lastPlace toValue toWeight toMany often firstOf lastOf unlikes unlikeMany isCandidate modes fewest) (wX6 cA ad q.2.1 tape taped q.2.2.1 q.2.2.2.1 q.2.2.2.2.1 block ties lines q.2.2.2.2.2.1 q.2.2.2.2.2.2.1 q.2.2.2.2.2.2.2.1 q.2.2.2.2.2.2.2.2.1 q.2.2.2.2.2.2.2.2.2.1 newValue newWeight newMany newBlock newTies newLines hasBlock hasTies size att place sort number fault faultPlace lastFault lastPlace q.2.2.2.2.2.2.2.2.2.2.1 q.2.2.2.2.2.2.2.2.2.2.2.1 q.2.2.2.2.2.2.2.2.2.2.2.2 often firstOf lastOf unlikes unlikeMany isCandidate modes fewest) q.1 := by
  refine MI.of (cc := cX6_set) (maxL := 4) (by decide +kernel) rfl rfl rfl (Nat.le_of_ble_eq_true rfl) ?_
  intro p e s m args below meth c A ls Q hx hb hml hts hown hK hP hD hA hS hl hret
  have hl : lv_has ls 4 [(0, .ref (ad 0)), (1, .int x1), (2, .int x2)] := hl
  have f13 := hts (.fieldLink RX6 13 "ModeDeskModel" "value" "[I") (by decide +kernel)
  have f41 := hts (.fieldLink RX6 41 "ModeDeskModel" "toValue" "[I") (by decide +kernel)
  have f72 := hts (.fieldLink RX6 72 "ModeDeskModel" "thrown" "I") (by decide +kernel)
  have iX6 : ∀ w ∈ wsX60, w ∈ wsX6_set := by decide +kernel
  unfold mX6_set at h
  refine lv_aload_n hx hb dX6_set_0 rfl (lv_at hl 0 rfl) ?_
  refine lv_iconst (v := 0) hx hb dX6_set_1 (by decide) ?_
  refine va_put (D := D) (ci := 6) (v := .int 0) (ty := .int) (C := RX6) (T := TX6) (N := 42) hx hb hts iX6 tyX6 tyX6_ok nmX6 hown hK hP hD hS 0 rfl rfl 0 (Nat.le_of_ble_eq_true rfl) f72 (fun _ h9 => h9) rfl (tyX6_ok 0 (Nat.le_of_ble_eq_true rfl)) rfl rfl (Nat.le_of_ble_eq_true rfl) dX6_set_2 (fun H locs hP hD hS => ?_)
  have hP : va_P D vwCl (wX6 cA ad 0 tape taped value weight many block ties lines pastValue pastWeight pastMany undos fresh newValue newWeight newMany newBlock newTies newLines hasBlock hasTies size att place sort number fault faultPlace lastFault lastPlace toValue toWeight toMany often firstOf lastOf unlikes unlikeMany isCandidate modes fewest) H := hP
  have hD : va_D A (wX6 cA ad 0 tape taped value weight many block ties lines pastValue pastWeight pastMany undos fresh newValue newWeight newMany newBlock newTies newLines hasBlock hasTies size att place sort number fault faultPlace lastFault lastPlace toValue toWeight toMany often firstOf lastOf unlikes unlikeMany isCandidate modes fewest) := hD
  refine lv_aload_n hx hb dX6_set_5 rfl (lv_at hl 0 rfl) ?_
  refine lv_iload_n hx hb dX6_set_6 rfl (lv_at hl 1 rfl) ?_
  obtain ⟨q1, eq1, h⟩ := e_b h
  refine xv_i0 (As := [.int x1]) (rest := []) (ci := 6) (b := ad 0) ⟨hx, hb, hml, hown, hts⟩ hl.1 (kX6_isPlace l D cA ad 0 tape taped value weight many block ties lines pastValue pastWeight pastMany undos fresh newValue newWeight newMany newBlock newTies newLines hasBlock hasTies size att place sort number fault faultPlace lastFault lastPlace toValue toWeight toMany often firstOf lastOf unlikes unlikeMany isCandidate modes fewest x1  _ eq1) (cwV 1 hts gX6_set_X6_isPlace rfl rfl rfl (by decide +kernel) ⟨Nat.le_of_ble_eq_true rfl, Nat.le_of_ble_eq_true rfl⟩) rfl hK hP hD hS hA 0 rfl rfl rfl rfl (Nat.le_of_ble_eq_true rfl) dX6_set_7 ⟨Nat.zero_le _, Nat.zero_le _⟩ (fun H locs hP hD hS hnq1 => ?_)
  have hP : va_P D vwCl (wX6 cA ad 0 tape taped value weight many block ties lines pastValue pastWeight pastMany undos fresh newValue newWeight newMany newBlock newTies newLines hasBlock hasTies size att place sort number fault faultPlace lastFault lastPlace toValue toWeight toMany often firstOf lastOf unlikes unlikeMany isCandidate modes fewest) H := hP
  have hD : va_D A (wX6 cA ad 0 tape taped value weight many block ties lines pastValue pastWeight pastMany undos fresh newValue newWeight newMany newBlock newTies newLines hasBlock hasTies size att place sort number fault faultPlace lastFault lastPlace toValue toWeight toMany often firstOf lastOf unlikes unlikeMany isCandidate modes fewest) := hD
  refine lv_if_eq (tgt := 20) hx hb dX6_set_10 (by decide) (fun c2 => ?_) (fun c2 => ?_)
  · have h := e_t c2 h
    refine lv_iconst (v := (-1)) hx hb dX6_set_20 (by decide) ?_
    obtain rfl := e_s h
    exact hret hP hS rfl dX6_set_21
  · have h := e_f c2 h
    refine lv_iload_n hx hb dX6_set_13 rfl (lv_at hl 2 rfl) ?_
    obtain ⟨q3, eq3, h⟩ := e_b h
    refine xs_i (As := [.int x2]) (rest := []) ⟨hx, hb, hml, hown, hts⟩ hl.1 (kX6_isValue l D cA   x2  _ eq3) (va_cwS 1 hts gX6_set_X6_isValue rfl rfl rfl (by decide +kernel) ⟨Nat.le_of_ble_eq_true rfl, Nat.le_of_ble_eq_true rfl⟩) rfl hK hP hD hS hA [] rfl (by decide +kernel) rfl (Nat.le_of_ble_eq_true rfl) dX6_set_14 ⟨Nat.zero_le _, Nat.zero_le _⟩ (fun H locs hP hD hS hnq3 => ?_)
    have hP : va_P D vwCl (wX6 cA ad 0 tape taped value weight many block ties lines pastValue pastWeight pastMany undos fresh newValue newWeight newMany newBlock newTies newLines hasBlock hasTies size att place sort number fault faultPlace lastFault lastPlace toValue toWeight toMany often firstOf lastOf unlikes unlikeMany isCandidate modes fewest) H := hP
    have hD : va_D A (wX6 cA ad 0 tape taped value weight many block ties lines pastValue pastWeight pastMany undos fresh newValue newWeight newMany newBlock newTies newLines hasBlock hasTies size att place sort number fault faultPlace lastFault lastPlace toValue toWeight toMany often firstOf lastOf unlikes unlikeMany isCandidate modes fewest) := hD
    refine lv_if_ne (tgt := 22) hx hb dX6_set_17 (by decide) (fun c4 => ?_) (fun c4 => ?_)
    · have h := e_t c4 h
      refine lv_aload_n hx hb dX6_set_22 rfl (lv_at hl 0 rfl) ?_
      refine va_get (D := D) (ci := 6) (v := .ref (ad 2)) (C := RX6) (T := TX6) (N := 42) hx hb hts iX6 hown hK hP 0 rfl rfl 3 (Nat.le_of_ble_eq_true rfl) f13 (fun _ h9 => h9) rfl dX6_set_23 ?_
      refine lv_iload_n hx hb dX6_set_26 rfl (lv_at hl 1 rfl) ?_
      obtain ⟨v5, ev5, nv5, h⟩ := e_rd h
      refine xa_iald hx hb hK hP 2 rfl nv5 ev5 dX6_set_27 ?_
      refine lv_istore_n (lv' := [(3, .int v5), (0, .ref (ad 0)), (1, .int x1), (2, .int x2)]) hx hb dX6_set_28 rfl hl (by decide) rfl (fun ls hl => ?_)
      refine lv_aload_n hx hb dX6_set_29 rfl (lv_at hl 1 rfl) ?_
      obtain ⟨q6, eq6, h⟩ := e_b h
      refine xv_v0 (As := []) (rest := []) (ci := 6) (b := ad 0) ⟨hx, hb, hml, hown, hts⟩ hl.1 (kX6_begins l D cA ad 0 tape taped value weight many block ties lines pastValue pastWeight pastMany undos fresh newValue newWeight newMany newBlock newTies newLines hasBlock hasTies size att place sort number fault faultPlace lastFault lastPlace toValue toWeight toMany often firstOf lastOf unlikes unlikeMany isCandidate modes fewest   _ eq6) (cwV 0 hts gX6_set_X6_begins rfl rfl rfl (by decide +kernel) ⟨Nat.le_of_ble_eq_true rfl, Nat.le_of_ble_eq_true rfl⟩) rfl hK hP hD hS hA 0 rfl rfl rfl rfl (Nat.le_of_ble_eq_true rfl) dX6_set_30 ⟨Nat.zero_le _, Nat.zero_le _⟩ (fun H locs hP hD hS => ?_)
      have hP : va_P D vwCl (wX6 cA ad 0 tape taped value weight many block ties lines pastValue pastWeight pastMany undos fresh newValue newWeight newMany newBlock newTies newLines hasBlock hasTies size att place sort number fault faultPlace lastFault lastPlace q6.1 q6.2.1 q6.2.2 often firstOf lastOf unlikes unlikeMany isCandidate modes fewest) H := hP
      have hD : va_D A (wX6 cA ad 0 tape taped value weight many block ties lines pastValue pastWeight pastMany undos fresh newValue newWeight newMany newBlock newTies newLines hasBlock hasTies size att place sort number fault faultPlace lastFault lastPlace q6.1 q6.2.1 q6.2.2 often firstOf lastOf unlikes unlikeMany isCandidate modes fewest) := hD
      refine lv_aload_n hx hb dX6_set_33 rfl (lv_at hl 1 rfl) ?_
      refine va_get (D := D) (ci := 6) (v := .ref (ad 9)) (C := RX6) (T := TX6) (N := 42) hx hb hts iX6 hown hK hP 0 rfl rfl 31 (Nat.le_of_ble_eq_true rfl) f41 (fun _ h9 => h9) rfl dX6_set_34 ?_
      refine lv_iload_n hx hb dX6_set_37 rfl (lv_at hl 2 rfl) ?_
      refine lv_iload_n hx hb dX6_set_38 rfl (lv_at hl 3 rfl) ?_
      obtain ⟨a7, ea7, na7, h⟩ := e_wr h
      refine xa_iast hx hb hK hP hD hS 9 rfl na7 ea7 dX6_set_39 (fun H locs hP hD hS => ?_)
      have hP : va_P D vwCl (wX6 cA ad 0 tape taped value weight many block ties lines pastValue pastWeight pastMany undos fresh newValue newWeight newMany newBlock newTies newLines hasBlock hasTies size att place sort number fault faultPlace lastFault lastPlace a7 q6.2.1 q6.2.2 often firstOf lastOf unlikes unlikeMany isCandidate modes fewest) H := hP
      have hD : va_D A (wX6 cA ad 0 tape taped value weight many block ties lines pastValue pastWeight pastMany undos fresh newValue newWeight newMany newBlock newTies newLines hasBlock hasTies size att place sort number fault faultPlace lastFault lastPlace a7 q6.2.1 q6.2.2 often firstOf lastOf unlikes unlikeMany isCandidate modes fewest) := hD
      refine lv_aload_n hx hb dX6_set_40 rfl (lv_at hl 1 rfl) ?_
      obtain ⟨q8, eq8, h⟩ := e_b h
      refine xv_v0 (As := []) (rest := []) (ci := 6) (b := ad 0) ⟨hx, hb, hml, hown, hts⟩ hl.1 (kX6_edits l D cA ad 0 tape taped value weight many block ties lines pastValue pastWeight pastMany undos fresh newValue newWeight newMany newBlock newTies newLines hasBlock hasTies size att place sort number fault faultPlace lastFault lastPlace a7 q6.2.1 q6.2.2 often firstOf lastOf unlikes unlikeMany isCandidate modes fewest   _ eq8) (cwV 0 hts gX6_set_X6_edits rfl rfl rfl (by decide +kernel) ⟨Nat.le_of_ble_eq_true rfl, Nat.le_of_ble_eq_true rfl⟩) rfl hK hP hD hS hA 0 rfl rfl rfl rfl (Nat.le_of_ble_eq_true rfl) dX6_set_41 ⟨Nat.zero_le _, Nat.zero_le _⟩ (fun H locs hP hD hS => ?_)
      have hP : va_P D vwCl (wX6 cA ad 0 tape taped q8.1 q8.2.1 q8.2.2.1 block ties lines q8.2.2.2.1 q8.2.2.2.2.1 q8.2.2.2.2.2.1 q8.2.2.2.2.2.2.1 q8.2.2.2.2.2.2.2 newValue newWeight newMany newBlock newTies newLines hasBlock hasTies size att place sort number fault faultPlace lastFault lastPlace a7 q6.2.1 q6.2.2 often firstOf lastOf unlikes unlikeMany isCandidate modes fewest) H := hP
      have hD : va_D A (wX6 cA ad 0 tape taped q8.1 q8.2.1 q8.2.2.1 block ties lines q8.2.2.2.1 q8.2.2.2.2.1 q8.2.2.2.2.2.1 q8.2.2.2.2.2.2.1 q8.2.2.2.2.2.2.2 newValue newWeight newMany newBlock newTies newLines hasBlock hasTies size att place sort number fault faultPlace lastFault lastPlace a7 q6.2.1 q6.2.2 often firstOf lastOf unlikes unlikeMany isCandidate modes fewest) := hD
      refine lv_iload_n hx hb dX6_set_44 rfl (lv_at hl 0 rfl) ?_
      obtain rfl := e_s h
      exact hret hP hS rfl dX6_set_45
    · have h := e_f (not_not_intro c4) h
      refine lv_iconst (v := (-1)) hx hb dX6_set_20 (by decide) ?_
      obtain rfl := e_s h
      exact hret hP hS rfl dX6_set_21
set_option maxHeartbeats 4000000 in
set_option maxRecDepth 100000 in
theorem kX6_weigh (l : Launch) (D : va_G) (cA : Nat → ClassId) (ad : Nat → Nat) (thrown : Int32) (tape : Nat → Int32) (taped : Int32) (value : Nat → Int32) (weight : Nat → Int32) (many : Int32) (block : Int32) (ties : Int32) (lines : Int32) (pastValue : Nat → Int32) (pastWeight : Nat → Int32) (pastMany : Nat → Int32) (undos : Int32) (fresh : Int32) (newValue : Nat → Int32) (newWeight : Nat → Int32) (newMany : Int32) (newBlock : Int32) (newTies : Int32) (newLines : Int32) (hasBlock : Int32) (hasTies : Int32) (size : Int32) (att : Int32) (place : Int32) (sort : Int32) (number : Int32) (fault : Int32) (faultPlace : Int32) (lastFault : Int32) (lastPlace : Int32) (toValue : Nat → Int32) (toWeight : Nat → Int32) (toMany : Int32) (often : Nat → Int32) (firstOf : Nat → Int32) (lastOf : Nat → Int32) (unlikes : Nat → Int32) (unlikeMany : Int32) (isCandidate : Nat → Int32) (modes : Nat → Int32) (fewest : Nat → Int32) (x1 : Int32) (x2 : Int32) (q : Int32 × Int32 × (Nat → Int32) × (Nat → Int32) × Int32 × (Nat → Int32) × (Nat → Int32) × (Nat → Int32) × Int32 × Int32 × (Nat → Int32) × (Nat → Int32) × Int32) (h : mX6_weigh thrown value weight many block pastValue pastWeight pastMany undos fresh toValue toWeight toMany x1 x2 = some q) : MI l yX6_weigh wsX6_weigh { frames := 5, cells := 0, slots := 0, locals := 112 } D cA .int [.ref (ad 0), .int x1, .int x2] (wX6 cA ad thrown tape taped value weight many block ties lines pastValue pastWeight pastMany undos fresh newValue newWeight newMany newBlock newTies newLines hasBlock hasTies size att place sort number fault faultPlace lastFault lastPlace toValue toWeight toMany often firstOf lastOf unlikes unlikeMany isCandidate modes fewest) (wX6 cA ad q.2.1 tape taped q.2.2.1 q.2.2.2.1 q.2.2.2.2.1 block ties lines q.2.2.2.2.2.1 q.2.2.2.2.2.2.1 q.2.2.2.2.2.2.2.1 q.2.2.2.2.2.2.2.2.1 q.2.2.2.2.2.2.2.2.2.1 newValue newWeight newMany newBlock newTies newLines hasBlock hasTies size att place sort number fault faultPlace lastFault lastPlace q.2.2.2.2.2.2.2.2.2.2.1 q.2.2.2.2.2.2.2.2.2.2.2.1 q.2.2.2.2.2.2.2.2.2.2.2.2 often firstOf lastOf unlikes unlikeMany isCandidate modes fewest) q.1 := by
  refine MI.of (cc := cX6_weigh) (maxL := 4) (by decide +kernel) rfl rfl rfl (Nat.le_of_ble_eq_true rfl) ?_
  intro p e s m args below meth c A ls Q hx hb hml hts hown hK hP hD hA hS hl hret
  have hl : lv_has ls 4 [(0, .ref (ad 0)), (1, .int x1), (2, .int x2)] := hl
  have f16 := hts (.fieldLink RX6 16 "ModeDeskModel" "weight" "[I") (by decide +kernel)
  have f44 := hts (.fieldLink RX6 44 "ModeDeskModel" "toWeight" "[I") (by decide +kernel)
  have f72 := hts (.fieldLink RX6 72 "ModeDeskModel" "thrown" "I") (by decide +kernel)
  have iX6 : ∀ w ∈ wsX60, w ∈ wsX6_weigh := by decide +kernel
  unfold mX6_weigh at h
  refine lv_aload_n hx hb dX6_weigh_0 rfl (lv_at hl 0 rfl) ?_
  refine lv_iconst (v := 0) hx hb dX6_weigh_1 (by decide) ?_
  refine va_put (D := D) (ci := 6) (v := .int 0) (ty := .int) (C := RX6) (T := TX6) (N := 42) hx hb hts iX6 tyX6 tyX6_ok nmX6 hown hK hP hD hS 0 rfl rfl 0 (Nat.le_of_ble_eq_true rfl) f72 (fun _ h9 => h9) rfl (tyX6_ok 0 (Nat.le_of_ble_eq_true rfl)) rfl rfl (Nat.le_of_ble_eq_true rfl) dX6_weigh_2 (fun H locs hP hD hS => ?_)
  have hP : va_P D vwCl (wX6 cA ad 0 tape taped value weight many block ties lines pastValue pastWeight pastMany undos fresh newValue newWeight newMany newBlock newTies newLines hasBlock hasTies size att place sort number fault faultPlace lastFault lastPlace toValue toWeight toMany often firstOf lastOf unlikes unlikeMany isCandidate modes fewest) H := hP
  have hD : va_D A (wX6 cA ad 0 tape taped value weight many block ties lines pastValue pastWeight pastMany undos fresh newValue newWeight newMany newBlock newTies newLines hasBlock hasTies size att place sort number fault faultPlace lastFault lastPlace toValue toWeight toMany often firstOf lastOf unlikes unlikeMany isCandidate modes fewest) := hD
  refine lv_aload_n hx hb dX6_weigh_5 rfl (lv_at hl 0 rfl) ?_
  refine lv_iload_n hx hb dX6_weigh_6 rfl (lv_at hl 1 rfl) ?_
  obtain ⟨q1, eq1, h⟩ := e_b h
  refine xv_i0 (As := [.int x1]) (rest := []) (ci := 6) (b := ad 0) ⟨hx, hb, hml, hown, hts⟩ hl.1 (kX6_isPlace l D cA ad 0 tape taped value weight many block ties lines pastValue pastWeight pastMany undos fresh newValue newWeight newMany newBlock newTies newLines hasBlock hasTies size att place sort number fault faultPlace lastFault lastPlace toValue toWeight toMany often firstOf lastOf unlikes unlikeMany isCandidate modes fewest x1  _ eq1) (cwV 1 hts gX6_weigh_X6_isPlace rfl rfl rfl (by decide +kernel) ⟨Nat.le_of_ble_eq_true rfl, Nat.le_of_ble_eq_true rfl⟩) rfl hK hP hD hS hA 0 rfl rfl rfl rfl (Nat.le_of_ble_eq_true rfl) dX6_weigh_7 ⟨Nat.zero_le _, Nat.zero_le _⟩ (fun H locs hP hD hS hnq1 => ?_)
  have hP : va_P D vwCl (wX6 cA ad 0 tape taped value weight many block ties lines pastValue pastWeight pastMany undos fresh newValue newWeight newMany newBlock newTies newLines hasBlock hasTies size att place sort number fault faultPlace lastFault lastPlace toValue toWeight toMany often firstOf lastOf unlikes unlikeMany isCandidate modes fewest) H := hP
  have hD : va_D A (wX6 cA ad 0 tape taped value weight many block ties lines pastValue pastWeight pastMany undos fresh newValue newWeight newMany newBlock newTies newLines hasBlock hasTies size att place sort number fault faultPlace lastFault lastPlace toValue toWeight toMany often firstOf lastOf unlikes unlikeMany isCandidate modes fewest) := hD
  refine lv_if_eq (tgt := 24) hx hb dX6_weigh_10 (by decide) (fun c2 => ?_) (fun c2 => ?_)
  · have h := e_t c2 h
    refine lv_iconst (v := (-1)) hx hb dX6_weigh_24 (by decide) ?_
    obtain rfl := e_s h
    exact hret hP hS rfl dX6_weigh_25
  · have h := e_f c2 h
    refine lv_iload_n hx hb dX6_weigh_13 rfl (lv_at hl 2 rfl) ?_
    refine lv_iconst (v := 1) hx hb dX6_weigh_14 (by decide) ?_
    refine lv_icmp_lt (tgt := 24) hx hb dX6_weigh_15 (by decide) (fun c3 => ?_) (fun c3 => ?_)
    · have h := e_t c3 h
      refine lv_iconst (v := (-1)) hx hb dX6_weigh_24 (by decide) ?_
      obtain rfl := e_s h
      exact hret hP hS rfl dX6_weigh_25
    · have h := e_f c3 h
      refine lv_iload_n hx hb dX6_weigh_18 rfl (lv_at hl 2 rfl) ?_
      refine lv_bipush (v := 9) hx hb dX6_weigh_19 (by decide) ?_
      refine lv_icmp_le (tgt := 26) hx hb dX6_weigh_21 (by decide) (fun c4 => ?_) (fun c4 => ?_)
      · have h := e_t c4 h
        refine lv_aload_n hx hb dX6_weigh_26 rfl (lv_at hl 0 rfl) ?_
        refine va_get (D := D) (ci := 6) (v := .ref (ad 3)) (C := RX6) (T := TX6) (N := 42) hx hb hts iX6 hown hK hP 0 rfl rfl 4 (Nat.le_of_ble_eq_true rfl) f16 (fun _ h9 => h9) rfl dX6_weigh_27 ?_
        refine lv_iload_n hx hb dX6_weigh_30 rfl (lv_at hl 1 rfl) ?_
        obtain ⟨v5, ev5, nv5, h⟩ := e_rd h
        refine xa_iald hx hb hK hP 3 rfl nv5 ev5 dX6_weigh_31 ?_
        refine lv_istore_n (lv' := [(3, .int v5), (0, .ref (ad 0)), (1, .int x1), (2, .int x2)]) hx hb dX6_weigh_32 rfl hl (by decide) rfl (fun ls hl => ?_)
        refine lv_aload_n hx hb dX6_weigh_33 rfl (lv_at hl 1 rfl) ?_
        obtain ⟨q6, eq6, h⟩ := e_b h
        refine xv_v0 (As := []) (rest := []) (ci := 6) (b := ad 0) ⟨hx, hb, hml, hown, hts⟩ hl.1 (kX6_begins l D cA ad 0 tape taped value weight many block ties lines pastValue pastWeight pastMany undos fresh newValue newWeight newMany newBlock newTies newLines hasBlock hasTies size att place sort number fault faultPlace lastFault lastPlace toValue toWeight toMany often firstOf lastOf unlikes unlikeMany isCandidate modes fewest   _ eq6) (cwV 0 hts gX6_weigh_X6_begins rfl rfl rfl (by decide +kernel) ⟨Nat.le_of_ble_eq_true rfl, Nat.le_of_ble_eq_true rfl⟩) rfl hK hP hD hS hA 0 rfl rfl rfl rfl (Nat.le_of_ble_eq_true rfl) dX6_weigh_34 ⟨Nat.zero_le _, Nat.zero_le _⟩ (fun H locs hP hD hS => ?_)
        have hP : va_P D vwCl (wX6 cA ad 0 tape taped value weight many block ties lines pastValue pastWeight pastMany undos fresh newValue newWeight newMany newBlock newTies newLines hasBlock hasTies size att place sort number fault faultPlace lastFault lastPlace q6.1 q6.2.1 q6.2.2 often firstOf lastOf unlikes unlikeMany isCandidate modes fewest) H := hP
        have hD : va_D A (wX6 cA ad 0 tape taped value weight many block ties lines pastValue pastWeight pastMany undos fresh newValue newWeight newMany newBlock newTies newLines hasBlock hasTies size att place sort number fault faultPlace lastFault lastPlace q6.1 q6.2.1 q6.2.2 often firstOf lastOf unlikes unlikeMany isCandidate modes fewest) := hD
        refine lv_aload_n hx hb dX6_weigh_37 rfl (lv_at hl 1 rfl) ?_
        refine va_get (D := D) (ci := 6) (v := .ref (ad 10)) (C := RX6) (T := TX6) (N := 42) hx hb hts iX6 hown hK hP 0 rfl rfl 32 (Nat.le_of_ble_eq_true rfl) f44 (fun _ h9 => h9) rfl dX6_weigh_38 ?_
        refine lv_iload_n hx hb dX6_weigh_41 rfl (lv_at hl 2 rfl) ?_
        refine lv_iload_n hx hb dX6_weigh_42 rfl (lv_at hl 3 rfl) ?_
        obtain ⟨a7, ea7, na7, h⟩ := e_wr h
        refine xa_iast hx hb hK hP hD hS 10 rfl na7 ea7 dX6_weigh_43 (fun H locs hP hD hS => ?_)
        have hP : va_P D vwCl (wX6 cA ad 0 tape taped value weight many block ties lines pastValue pastWeight pastMany undos fresh newValue newWeight newMany newBlock newTies newLines hasBlock hasTies size att place sort number fault faultPlace lastFault lastPlace q6.1 a7 q6.2.2 often firstOf lastOf unlikes unlikeMany isCandidate modes fewest) H := hP
        have hD : va_D A (wX6 cA ad 0 tape taped value weight many block ties lines pastValue pastWeight pastMany undos fresh newValue newWeight newMany newBlock newTies newLines hasBlock hasTies size att place sort number fault faultPlace lastFault lastPlace q6.1 a7 q6.2.2 often firstOf lastOf unlikes unlikeMany isCandidate modes fewest) := hD
        refine lv_aload_n hx hb dX6_weigh_44 rfl (lv_at hl 1 rfl) ?_
        obtain ⟨q8, eq8, h⟩ := e_b h
        refine xv_v0 (As := []) (rest := []) (ci := 6) (b := ad 0) ⟨hx, hb, hml, hown, hts⟩ hl.1 (kX6_edits l D cA ad 0 tape taped value weight many block ties lines pastValue pastWeight pastMany undos fresh newValue newWeight newMany newBlock newTies newLines hasBlock hasTies size att place sort number fault faultPlace lastFault lastPlace q6.1 a7 q6.2.2 often firstOf lastOf unlikes unlikeMany isCandidate modes fewest   _ eq8) (cwV 0 hts gX6_weigh_X6_edits rfl rfl rfl (by decide +kernel) ⟨Nat.le_of_ble_eq_true rfl, Nat.le_of_ble_eq_true rfl⟩) rfl hK hP hD hS hA 0 rfl rfl rfl rfl (Nat.le_of_ble_eq_true rfl) dX6_weigh_45 ⟨Nat.zero_le _, Nat.zero_le _⟩ (fun H locs hP hD hS => ?_)
        have hP : va_P D vwCl (wX6 cA ad 0 tape taped q8.1 q8.2.1 q8.2.2.1 block ties lines q8.2.2.2.1 q8.2.2.2.2.1 q8.2.2.2.2.2.1 q8.2.2.2.2.2.2.1 q8.2.2.2.2.2.2.2 newValue newWeight newMany newBlock newTies newLines hasBlock hasTies size att place sort number fault faultPlace lastFault lastPlace q6.1 a7 q6.2.2 often firstOf lastOf unlikes unlikeMany isCandidate modes fewest) H := hP
        have hD : va_D A (wX6 cA ad 0 tape taped q8.1 q8.2.1 q8.2.2.1 block ties lines q8.2.2.2.1 q8.2.2.2.2.1 q8.2.2.2.2.2.1 q8.2.2.2.2.2.2.1 q8.2.2.2.2.2.2.2 newValue newWeight newMany newBlock newTies newLines hasBlock hasTies size att place sort number fault faultPlace lastFault lastPlace q6.1 a7 q6.2.2 often firstOf lastOf unlikes unlikeMany isCandidate modes fewest) := hD
        refine lv_iload_n hx hb dX6_weigh_48 rfl (lv_at hl 0 rfl) ?_
        obtain rfl := e_s h
        exact hret hP hS rfl dX6_weigh_49
      · have h := e_f c4 h
        refine lv_iconst (v := (-1)) hx hb dX6_weigh_24 (by decide) ?_
        obtain rfl := e_s h
        exact hret hP hS rfl dX6_weigh_25
set_option maxHeartbeats 4000000 in
set_option maxRecDepth 100000 in
theorem kX6_insert (l : Launch) (D : va_G) (cA : Nat → ClassId) (ad : Nat → Nat) (thrown : Int32) (tape : Nat → Int32) (taped : Int32) (value : Nat → Int32) (weight : Nat → Int32) (many : Int32) (block : Int32) (ties : Int32) (lines : Int32) (pastValue : Nat → Int32) (pastWeight : Nat → Int32) (pastMany : Nat → Int32) (undos : Int32) (fresh : Int32) (newValue : Nat → Int32) (newWeight : Nat → Int32) (newMany : Int32) (newBlock : Int32) (newTies : Int32) (newLines : Int32) (hasBlock : Int32) (hasTies : Int32) (size : Int32) (att : Int32) (place : Int32) (sort : Int32) (number : Int32) (fault : Int32) (faultPlace : Int32) (lastFault : Int32) (lastPlace : Int32) (toValue : Nat → Int32) (toWeight : Nat → Int32) (toMany : Int32) (often : Nat → Int32) (firstOf : Nat → Int32) (lastOf : Nat → Int32) (unlikes : Nat → Int32) (unlikeMany : Int32) (isCandidate : Nat → Int32) (modes : Nat → Int32) (fewest : Nat → Int32) (x1 : Int32) (x2 : Int32) (q : Int32 × Int32 × (Nat → Int32) × (Nat → Int32) × Int32 × (Nat → Int32) × (Nat → Int32) × (Nat → Int32) × Int32 × Int32 × (Nat → Int32) × (Nat → Int32) × Int32) (h : mX6_insert thrown value weight many block pastValue pastWeight pastMany undos fresh toValue toWeight toMany x1 x2 = some q) : MI l yX6_insert wsX6_insert { frames := 5, cells := 0, slots := 0, locals := 112 } D cA .int [.ref (ad 0), .int x1, .int x2] (wX6 cA ad thrown tape taped value weight many block ties lines pastValue pastWeight pastMany undos fresh newValue newWeight newMany newBlock newTies newLines hasBlock hasTies size att place sort number fault faultPlace lastFault lastPlace toValue toWeight toMany often firstOf lastOf unlikes unlikeMany isCandidate modes fewest) (wX6 cA ad q.2.1 tape taped q.2.2.1 q.2.2.2.1 q.2.2.2.2.1 block ties lines q.2.2.2.2.2.1 q.2.2.2.2.2.2.1 q.2.2.2.2.2.2.2.1 q.2.2.2.2.2.2.2.2.1 q.2.2.2.2.2.2.2.2.2.1 newValue newWeight newMany newBlock newTies newLines hasBlock hasTies size att place sort number fault faultPlace lastFault lastPlace q.2.2.2.2.2.2.2.2.2.2.1 q.2.2.2.2.2.2.2.2.2.2.2.1 q.2.2.2.2.2.2.2.2.2.2.2.2 often firstOf lastOf unlikes unlikeMany isCandidate modes fewest) q.1 := by
  refine MI.of (cc := cX6_insert) (maxL := 4) (by decide +kernel) rfl rfl rfl (Nat.le_of_ble_eq_true rfl) ?_
  intro p e s m args below meth c A ls Q hx hb hml hts hown hK hP hD hA hS hl hret
  have hl : lv_has ls 4 [(0, .ref (ad 0)), (1, .int x1), (2, .int x2)] := hl
  have f175 := hts (.fieldLink RX6 175 "ModeDeskModel" "many" "I") (by decide +kernel)
  have f197 := hts (.fieldLink RX6 197 "ModeDeskModel" "toMany" "I") (by decide +kernel)
  have f41 := hts (.fieldLink RX6 41 "ModeDeskModel" "toValue" "[I") (by decide +kernel)
  have f44 := hts (.fieldLink RX6 44 "ModeDeskModel" "toWeight" "[I") (by decide +kernel)
  have f72 := hts (.fieldLink RX6 72 "ModeDeskModel" "thrown" "I") (by decide +kernel)
  have iX6 : ∀ w ∈ wsX60, w ∈ wsX6_insert := by decide +kernel
  unfold mX6_insert at h
  refine lv_aload_n hx hb dX6_insert_0 rfl (lv_at hl 0 rfl) ?_
  refine lv_iconst (v := 0) hx hb dX6_insert_1 (by decide) ?_
  refine va_put (D := D) (ci := 6) (v := .int 0) (ty := .int) (C := RX6) (T := TX6) (N := 42) hx hb hts iX6 tyX6 tyX6_ok nmX6 hown hK hP hD hS 0 rfl rfl 0 (Nat.le_of_ble_eq_true rfl) f72 (fun _ h9 => h9) rfl (tyX6_ok 0 (Nat.le_of_ble_eq_true rfl)) rfl rfl (Nat.le_of_ble_eq_true rfl) dX6_insert_2 (fun H locs hP hD hS => ?_)
  have hP : va_P D vwCl (wX6 cA ad 0 tape taped value weight many block ties lines pastValue pastWeight pastMany undos fresh newValue newWeight newMany newBlock newTies newLines hasBlock hasTies size att place sort number fault faultPlace lastFault lastPlace toValue toWeight toMany often firstOf lastOf unlikes unlikeMany isCandidate modes fewest) H := hP
  have hD : va_D A (wX6 cA ad 0 tape taped value weight many block ties lines pastValue pastWeight pastMany undos fresh newValue newWeight newMany newBlock newTies newLines hasBlock hasTies size att place sort number fault faultPlace lastFault lastPlace toValue toWeight toMany often firstOf lastOf unlikes unlikeMany isCandidate modes fewest) := hD
  refine lv_iload_n hx hb dX6_insert_5 rfl (lv_at hl 1 rfl) ?_
  refine lv_if_lt (tgt := 33) hx hb dX6_insert_6 (by decide) (fun c1 => ?_) (fun c1 => ?_)
  · have h := e_t c1 h
    refine lv_iconst (v := (-1)) hx hb dX6_insert_33 (by decide) ?_
    obtain rfl := e_s h
    exact hret hP hS rfl dX6_insert_34
  · have h := e_f c1 h
    refine lv_iload_n hx hb dX6_insert_9 rfl (lv_at hl 1 rfl) ?_
    refine lv_aload_n hx hb dX6_insert_10 rfl (lv_at hl 0 rfl) ?_
    refine va_get (D := D) (ci := 6) (v := .int many) (C := RX6) (T := TX6) (N := 42) hx hb hts iX6 hown hK hP 0 rfl rfl 5 (Nat.le_of_ble_eq_true rfl) f175 (fun _ h9 => h9) rfl dX6_insert_11 ?_
    refine lv_icmp_gt (tgt := 33) hx hb dX6_insert_14 (by decide) (fun c2 => ?_) (fun c2 => ?_)
    · have h := e_t c2 h
      refine lv_iconst (v := (-1)) hx hb dX6_insert_33 (by decide) ?_
      obtain rfl := e_s h
      exact hret hP hS rfl dX6_insert_34
    · have h := e_f c2 h
      refine lv_iload_n hx hb dX6_insert_17 rfl (lv_at hl 2 rfl) ?_
      obtain ⟨q3, eq3, h⟩ := e_b h
      refine xs_i (As := [.int x2]) (rest := []) ⟨hx, hb, hml, hown, hts⟩ hl.1 (kX6_isValue l D cA   x2  _ eq3) (va_cwS 1 hts gX6_insert_X6_isValue rfl rfl rfl (by decide +kernel) ⟨Nat.le_of_ble_eq_true rfl, Nat.le_of_ble_eq_true rfl⟩) rfl hK hP hD hS hA [] rfl (by decide +kernel) rfl (Nat.le_of_ble_eq_true rfl) dX6_insert_18 ⟨Nat.zero_le _, Nat.zero_le _⟩ (fun H locs hP hD hS hnq3 => ?_)
      have hP : va_P D vwCl (wX6 cA ad 0 tape taped value weight many block ties lines pastValue pastWeight pastMany undos fresh newValue newWeight newMany newBlock newTies newLines hasBlock hasTies size att place sort number fault faultPlace lastFault lastPlace toValue toWeight toMany often firstOf lastOf unlikes unlikeMany isCandidate modes fewest) H := hP
      have hD : va_D A (wX6 cA ad 0 tape taped value weight many block ties lines pastValue pastWeight pastMany undos fresh newValue newWeight newMany newBlock newTies newLines hasBlock hasTies size att place sort number fault faultPlace lastFault lastPlace toValue toWeight toMany often firstOf lastOf unlikes unlikeMany isCandidate modes fewest) := hD
      refine lv_if_eq (tgt := 33) hx hb dX6_insert_21 (by decide) (fun c4 => ?_) (fun c4 => ?_)
      · have h := e_t c4 h
        refine lv_iconst (v := (-1)) hx hb dX6_insert_33 (by decide) ?_
        obtain rfl := e_s h
        exact hret hP hS rfl dX6_insert_34
      · have h := e_f c4 h
        refine lv_aload_n hx hb dX6_insert_24 rfl (lv_at hl 0 rfl) ?_
        refine va_get (D := D) (ci := 6) (v := .int many) (C := RX6) (T := TX6) (N := 42) hx hb hts iX6 hown hK hP 0 rfl rfl 5 (Nat.le_of_ble_eq_true rfl) f175 (fun _ h9 => h9) rfl dX6_insert_25 ?_
        refine lv_bipush (v := 120) hx hb dX6_insert_28 (by decide) ?_
        refine lv_icmp_ne (tgt := 35) hx hb dX6_insert_30 (by decide) (fun c5 => ?_) (fun c5 => ?_)
        · have h := e_t c5 h
          refine lv_aload_n hx hb dX6_insert_35 rfl (lv_at hl 0 rfl) ?_
          obtain ⟨q6, eq6, h⟩ := e_b h
          refine xv_v0 (As := []) (rest := []) (ci := 6) (b := ad 0) ⟨hx, hb, hml, hown, hts⟩ hl.1 (kX6_begins l D cA ad 0 tape taped value weight many block ties lines pastValue pastWeight pastMany undos fresh newValue newWeight newMany newBlock newTies newLines hasBlock hasTies size att place sort number fault faultPlace lastFault lastPlace toValue toWeight toMany often firstOf lastOf unlikes unlikeMany isCandidate modes fewest   _ eq6) (cwV 0 hts gX6_insert_X6_begins rfl rfl rfl (by decide +kernel) ⟨Nat.le_of_ble_eq_true rfl, Nat.le_of_ble_eq_true rfl⟩) rfl hK hP hD hS hA 0 rfl rfl rfl rfl (Nat.le_of_ble_eq_true rfl) dX6_insert_36 ⟨Nat.zero_le _, Nat.zero_le _⟩ (fun H locs hP hD hS => ?_)
          have hP : va_P D vwCl (wX6 cA ad 0 tape taped value weight many block ties lines pastValue pastWeight pastMany undos fresh newValue newWeight newMany newBlock newTies newLines hasBlock hasTies size att place sort number fault faultPlace lastFault lastPlace q6.1 q6.2.1 q6.2.2 often firstOf lastOf unlikes unlikeMany isCandidate modes fewest) H := hP
          have hD : va_D A (wX6 cA ad 0 tape taped value weight many block ties lines pastValue pastWeight pastMany undos fresh newValue newWeight newMany newBlock newTies newLines hasBlock hasTies size att place sort number fault faultPlace lastFault lastPlace q6.1 q6.2.1 q6.2.2 often firstOf lastOf unlikes unlikeMany isCandidate modes fewest) := hD
          refine lv_aload_n hx hb dX6_insert_39 rfl (lv_at hl 0 rfl) ?_
          refine va_get (D := D) (ci := 6) (v := .int many) (C := RX6) (T := TX6) (N := 42) hx hb hts iX6 hown hK hP 0 rfl rfl 5 (Nat.le_of_ble_eq_true rfl) f175 (fun _ h9 => h9) rfl dX6_insert_40 ?_
          refine lv_istore_n (lv' := [(3, .int many), (0, .ref (ad 0)), (1, .int x1), (2, .int x2)]) hx hb dX6_insert_43 rfl hl (by decide) rfl (fun ls hl => ?_)
          have hL44 : ∀ (n : Nat) (x1 : Int32) (x2 : Int32) (x3 : Int32) (thrown : Int32) (tape : Nat → Int32) (taped : Int32) (value : Nat → Int32) (weight : Nat → Int32) (many : Int32) (block : Int32) (ties : Int32) (lines : Int32) (pastValue : Nat → Int32) (pastWeight : Nat → Int32) (pastMany : Nat → Int32) (undos : Int32) (fresh : Int32) (newValue : Nat → Int32) (newWeight : Nat → Int32) (newMany : Int32) (newBlock : Int32) (newTies : Int32) (newLines : Int32) (hasBlock : Int32) (hasTies : Int32) (size : Int32) (att : Int32) (place : Int32) (sort : Int32) (number : Int32) (fault : Int32) (faultPlace : Int32) (lastFault : Int32) (lastPlace : Int32) (toValue : Nat → Int32) (toWeight : Nat → Int32) (toMany : Int32) (often : Nat → Int32) (firstOf : Nat → Int32) (lastOf : Nat → Int32) (unlikes : Nat → Int32) (unlikeMany : Int32) (isCandidate : Nat → Int32) (modes : Nat → Int32) (fewest : Nat → Int32) (z7 : (Nat → Int32) × (Nat → Int32)) (ls : Array Slot) (H : Heap) (locs : List Loc), lv_has ls 4 [(0, .ref (ad 0)), (1, .int x1), (2, .int x2), (3, .int x3)] → va_P D vwCl (wX6 cA ad thrown tape taped value weight many block ties lines pastValue pastWeight pastMany undos fresh newValue newWeight newMany newBlock newTies newLines hasBlock hasTies size att place sort number fault faultPlace lastFault lastPlace toValue toWeight toMany often firstOf lastOf unlikes unlikeMany isCandidate modes fewest) H → va_D A (wX6 cA ad thrown tape taped value weight many block ties lines pastValue pastWeight pastMany undos fresh newValue newWeight newMany newBlock newTies newLines hasBlock hasTies size att place sort number fault faultPlace lastFault lastPlace toValue toWeight toMany often firstOf lastOf unlikes unlikeMany isCandidate modes fewest) → va_S A s.heap H locs → mX6_insert_L44 x1 n x3 toValue toWeight = some z7 → (∀ (ls : Array Slot) (H : Heap) (locs : List Loc), lv_has ls 4 [(0, .ref (ad 0)), (1, .int x1), (2, .int x2)] → va_P D vwCl (wX6 cA ad thrown tape taped value weight many block ties lines pastValue pastWeight pastMany undos fresh newValue newWeight newMany newBlock newTies newLines hasBlock hasTies size att place sort number fault faultPlace lastFault lastPlace z7.1 z7.2 toMany often firstOf lastOf unlikes unlikeMany isCandidate modes fewest) H → va_D A (wX6 cA ad thrown tape taped value weight many block ties lines pastValue pastWeight pastMany undos fresh newValue newWeight newMany newBlock newTies newLines hasBlock hasTies size att place sort number fault faultPlace lastFault lastPlace z7.1 z7.2 toMany often firstOf lastOf unlikes unlikeMany isCandidate modes fewest) → va_S A s.heap H locs → W p l e (headSpec wsX6_insert { frames := 5, cells := 0, slots := 0, locals := 112 }).room s m args below meth c H locs 0 0 Q (F0 m 83 ls [])) → W p l e (headSpec wsX6_insert { frames := 5, cells := 0, slots := 0, locals := 112 }).room s m args below meth c H locs 0 0 Q (F0 m 44 ls []) := by
            intro n
            induction n with
            | zero => intro x1 x2 x3 thrown tape taped value weight many block ties lines pastValue pastWeight pastMany undos fresh newValue newWeight newMany newBlock newTies newLines hasBlock hasTies size att place sort number fault faultPlace lastFault lastPlace toValue toWeight toMany often firstOf lastOf unlikes unlikeMany isCandidate modes fewest z7 ls H locs hl hP hD hS h hk44; exact e_n h
            | succ n ih44 =>
              intro x1 x2 x3 thrown tape taped value weight many block ties lines pastValue pastWeight pastMany undos fresh newValue newWeight newMany newBlock newTies newLines hasBlock hasTies size att place sort number fault faultPlace lastFault lastPlace toValue toWeight toMany often firstOf lastOf unlikes unlikeMany isCandidate modes fewest z7 ls H locs hl hP hD hS h hk44
              rw [mX6_insert_L44.eq_2] at h
              refine lv_iload_n hx hb dX6_insert_44 rfl (lv_at hl 3 rfl) ?_
              refine lv_iload_n hx hb dX6_insert_45 rfl (lv_at hl 1 rfl) ?_
              refine lv_icmp_le (tgt := 83) hx hb dX6_insert_46 (by decide) (fun c8 => ?_) (fun c8 => ?_)
              · have h := e_t c8 h
                obtain rfl := e_s h
                exact hk44 _ _ _ (lv_sub hl [0, 1, 2] rfl) hP hD hS
              · have h := e_f c8 h
                refine lv_aload_n hx hb dX6_insert_49 rfl (lv_at hl 0 rfl) ?_
                refine va_get (D := D) (ci := 6) (v := .ref (ad 9)) (C := RX6) (T := TX6) (N := 42) hx hb hts iX6 hown hK hP 0 rfl rfl 31 (Nat.le_of_ble_eq_true rfl) f41 (fun _ h9 => h9) rfl dX6_insert_50 ?_
                refine lv_iload_n hx hb dX6_insert_53 rfl (lv_at hl 3 rfl) ?_
                refine lv_aload_n hx hb dX6_insert_54 rfl (lv_at hl 0 rfl) ?_
                refine va_get (D := D) (ci := 6) (v := .ref (ad 9)) (C := RX6) (T := TX6) (N := 42) hx hb hts iX6 hown hK hP 0 rfl rfl 31 (Nat.le_of_ble_eq_true rfl) f41 (fun _ h9 => h9) rfl dX6_insert_55 ?_
                refine lv_iload_n hx hb dX6_insert_58 rfl (lv_at hl 3 rfl) ?_
                refine lv_iconst (v := 1) hx hb dX6_insert_59 (by decide) ?_
                refine lv_isub hx hb dX6_insert_60 ?_
                obtain ⟨v9, ev9, nv9, h⟩ := e_rd h
                refine xa_iald hx hb hK hP 9 rfl nv9 ev9 dX6_insert_61 ?_
                obtain ⟨a10, ea10, na10, h⟩ := e_wr h
                refine xa_iast hx hb hK hP hD hS 9 rfl na10 ea10 dX6_insert_62 (fun H locs hP hD hS => ?_)
                have hP : va_P D vwCl (wX6 cA ad thrown tape taped value weight many block ties lines pastValue pastWeight pastMany undos fresh newValue newWeight newMany newBlock newTies newLines hasBlock hasTies size att place sort number fault faultPlace lastFault lastPlace a10 toWeight toMany often firstOf lastOf unlikes unlikeMany isCandidate modes fewest) H := hP
                have hD : va_D A (wX6 cA ad thrown tape taped value weight many block ties lines pastValue pastWeight pastMany undos fresh newValue newWeight newMany newBlock newTies newLines hasBlock hasTies size att place sort number fault faultPlace lastFault lastPlace a10 toWeight toMany often firstOf lastOf unlikes unlikeMany isCandidate modes fewest) := hD
                refine lv_aload_n hx hb dX6_insert_63 rfl (lv_at hl 0 rfl) ?_
                refine va_get (D := D) (ci := 6) (v := .ref (ad 10)) (C := RX6) (T := TX6) (N := 42) hx hb hts iX6 hown hK hP 0 rfl rfl 32 (Nat.le_of_ble_eq_true rfl) f44 (fun _ h9 => h9) rfl dX6_insert_64 ?_
                refine lv_iload_n hx hb dX6_insert_67 rfl (lv_at hl 3 rfl) ?_
                refine lv_aload_n hx hb dX6_insert_68 rfl (lv_at hl 0 rfl) ?_
                refine va_get (D := D) (ci := 6) (v := .ref (ad 10)) (C := RX6) (T := TX6) (N := 42) hx hb hts iX6 hown hK hP 0 rfl rfl 32 (Nat.le_of_ble_eq_true rfl) f44 (fun _ h9 => h9) rfl dX6_insert_69 ?_
                refine lv_iload_n hx hb dX6_insert_72 rfl (lv_at hl 3 rfl) ?_
                refine lv_iconst (v := 1) hx hb dX6_insert_73 (by decide) ?_
                refine lv_isub hx hb dX6_insert_74 ?_
                obtain ⟨v11, ev11, nv11, h⟩ := e_rd h
                refine xa_iald hx hb hK hP 10 rfl nv11 ev11 dX6_insert_75 ?_
                obtain ⟨a12, ea12, na12, h⟩ := e_wr h
                refine xa_iast hx hb hK hP hD hS 10 rfl na12 ea12 dX6_insert_76 (fun H locs hP hD hS => ?_)
                have hP : va_P D vwCl (wX6 cA ad thrown tape taped value weight many block ties lines pastValue pastWeight pastMany undos fresh newValue newWeight newMany newBlock newTies newLines hasBlock hasTies size att place sort number fault faultPlace lastFault lastPlace a10 a12 toMany often firstOf lastOf unlikes unlikeMany isCandidate modes fewest) H := hP
                have hD : va_D A (wX6 cA ad thrown tape taped value weight many block ties lines pastValue pastWeight pastMany undos fresh newValue newWeight newMany newBlock newTies newLines hasBlock hasTies size att place sort number fault faultPlace lastFault lastPlace a10 a12 toMany often firstOf lastOf unlikes unlikeMany isCandidate modes fewest) := hD
                refine lv_iinc (v := (x3 + (-1))) (lv' := [(3, .int (x3 + (-1))), (0, .ref (ad 0)), (1, .int x1), (2, .int x2)]) hx hb dX6_insert_77 hl (k := 3) rfl rfl (by decide) rfl (fun ls hl => ?_)
                refine lv_goto (tgt := 44) hx hb dX6_insert_80 (by decide) ?_
                exact ih44 x1 x2 (x3 + (-1)) thrown tape taped value weight many block ties lines pastValue pastWeight pastMany undos fresh newValue newWeight newMany newBlock newTies newLines hasBlock hasTies size att place sort number fault faultPlace lastFault lastPlace a10 a12 toMany often firstOf lastOf unlikes unlikeMany isCandidate modes fewest z7 _ _ _ (lv_sub hl [1, 2, 3, 0] rfl) hP hD hS h hk44
          obtain ⟨z13, ez13, h⟩ := e_b h
          refine hL44 FU x1 x2 many 0 tape taped value weight many block ties lines pastValue pastWeight pastMany undos fresh newValue newWeight newMany newBlock newTies newLines hasBlock hasTies size att place sort number fault faultPlace lastFault lastPlace q6.1 q6.2.1 q6.2.2 often firstOf lastOf unlikes unlikeMany isCandidate modes fewest z13 _ _ _ (lv_sub hl [1, 2, 3, 0] rfl) hP hD hS ez13 (fun ls H locs hl hP hD hS => ?_)
          refine lv_aload_n hx hb dX6_insert_83 rfl (lv_at hl 0 rfl) ?_
          refine va_get (D := D) (ci := 6) (v := .ref (ad 9)) (C := RX6) (T := TX6) (N := 42) hx hb hts iX6 hown hK hP 0 rfl rfl 31 (Nat.le_of_ble_eq_true rfl) f41 (fun _ h9 => h9) rfl dX6_insert_84 ?_
          refine lv_iload_n hx hb dX6_insert_87 rfl (lv_at hl 1 rfl) ?_
          refine lv_iload_n hx hb dX6_insert_88 rfl (lv_at hl 2 rfl) ?_
          obtain ⟨a14, ea14, na14, h⟩ := e_wr h
          refine xa_iast hx hb hK hP hD hS 9 rfl na14 ea14 dX6_insert_89 (fun H locs hP hD hS => ?_)
          have hP : va_P D vwCl (wX6 cA ad 0 tape taped value weight many block ties lines pastValue pastWeight pastMany undos fresh newValue newWeight newMany newBlock newTies newLines hasBlock hasTies size att place sort number fault faultPlace lastFault lastPlace a14 z13.2 q6.2.2 often firstOf lastOf unlikes unlikeMany isCandidate modes fewest) H := hP
          have hD : va_D A (wX6 cA ad 0 tape taped value weight many block ties lines pastValue pastWeight pastMany undos fresh newValue newWeight newMany newBlock newTies newLines hasBlock hasTies size att place sort number fault faultPlace lastFault lastPlace a14 z13.2 q6.2.2 often firstOf lastOf unlikes unlikeMany isCandidate modes fewest) := hD
          refine lv_aload_n hx hb dX6_insert_90 rfl (lv_at hl 0 rfl) ?_
          refine va_get (D := D) (ci := 6) (v := .ref (ad 10)) (C := RX6) (T := TX6) (N := 42) hx hb hts iX6 hown hK hP 0 rfl rfl 32 (Nat.le_of_ble_eq_true rfl) f44 (fun _ h9 => h9) rfl dX6_insert_91 ?_
          refine lv_iload_n hx hb dX6_insert_94 rfl (lv_at hl 1 rfl) ?_
          refine lv_iconst (v := 1) hx hb dX6_insert_95 (by decide) ?_
          obtain ⟨a15, ea15, na15, h⟩ := e_wr h
          refine xa_iast hx hb hK hP hD hS 10 rfl na15 ea15 dX6_insert_96 (fun H locs hP hD hS => ?_)
          have hP : va_P D vwCl (wX6 cA ad 0 tape taped value weight many block ties lines pastValue pastWeight pastMany undos fresh newValue newWeight newMany newBlock newTies newLines hasBlock hasTies size att place sort number fault faultPlace lastFault lastPlace a14 a15 q6.2.2 often firstOf lastOf unlikes unlikeMany isCandidate modes fewest) H := hP
          have hD : va_D A (wX6 cA ad 0 tape taped value weight many block ties lines pastValue pastWeight pastMany undos fresh newValue newWeight newMany newBlock newTies newLines hasBlock hasTies size att place sort number fault faultPlace lastFault lastPlace a14 a15 q6.2.2 often firstOf lastOf unlikes unlikeMany isCandidate modes fewest) := hD
          refine lv_aload_n hx hb dX6_insert_97 rfl (lv_at hl 0 rfl) ?_
          refine lv_dup hx hb dX6_insert_98 rfl ?_
          refine va_get (D := D) (ci := 6) (v := .int q6.2.2) (C := RX6) (T := TX6) (N := 42) hx hb hts iX6 hown hK hP 0 rfl rfl 33 (Nat.le_of_ble_eq_true rfl) f197 (fun _ h9 => h9) rfl dX6_insert_99 ?_
          refine lv_iconst (v := 1) hx hb dX6_insert_102 (by decide) ?_
          refine lv_iadd hx hb dX6_insert_103 ?_
          refine va_put (D := D) (ci := 6) (v := .int (q6.2.2 + 1)) (ty := .int) (C := RX6) (T := TX6) (N := 42) hx hb hts iX6 tyX6 tyX6_ok nmX6 hown hK hP hD hS 0 rfl rfl 33 (Nat.le_of_ble_eq_true rfl) f197 (fun _ h9 => h9) rfl (tyX6_ok 33 (Nat.le_of_ble_eq_true rfl)) rfl rfl (Nat.le_of_ble_eq_true rfl) dX6_insert_104 (fun H locs hP hD hS => ?_)
          have hP : va_P D vwCl (wX6 cA ad 0 tape taped value weight many block ties lines pastValue pastWeight pastMany undos fresh newValue newWeight newMany newBlock newTies newLines hasBlock hasTies size att place sort number fault faultPlace lastFault lastPlace a14 a15 (q6.2.2 + 1) often firstOf lastOf unlikes unlikeMany isCandidate modes fewest) H := hP
          have hD : va_D A (wX6 cA ad 0 tape taped value weight many block ties lines pastValue pastWeight pastMany undos fresh newValue newWeight newMany newBlock newTies newLines hasBlock hasTies size att place sort number fault faultPlace lastFault lastPlace a14 a15 (q6.2.2 + 1) often firstOf lastOf unlikes unlikeMany isCandidate modes fewest) := hD
          refine lv_aload_n hx hb dX6_insert_107 rfl (lv_at hl 0 rfl) ?_
          obtain ⟨q16, eq16, h⟩ := e_b h
          refine xv_v0 (As := []) (rest := []) (ci := 6) (b := ad 0) ⟨hx, hb, hml, hown, hts⟩ hl.1 (kX6_edits l D cA ad 0 tape taped value weight many block ties lines pastValue pastWeight pastMany undos fresh newValue newWeight newMany newBlock newTies newLines hasBlock hasTies size att place sort number fault faultPlace lastFault lastPlace a14 a15 (q6.2.2 + 1) often firstOf lastOf unlikes unlikeMany isCandidate modes fewest   _ eq16) (cwV 0 hts gX6_insert_X6_edits rfl rfl rfl (by decide +kernel) ⟨Nat.le_of_ble_eq_true rfl, Nat.le_of_ble_eq_true rfl⟩) rfl hK hP hD hS hA 0 rfl rfl rfl rfl (Nat.le_of_ble_eq_true rfl) dX6_insert_108 ⟨Nat.zero_le _, Nat.zero_le _⟩ (fun H locs hP hD hS => ?_)
          have hP : va_P D vwCl (wX6 cA ad 0 tape taped q16.1 q16.2.1 q16.2.2.1 block ties lines q16.2.2.2.1 q16.2.2.2.2.1 q16.2.2.2.2.2.1 q16.2.2.2.2.2.2.1 q16.2.2.2.2.2.2.2 newValue newWeight newMany newBlock newTies newLines hasBlock hasTies size att place sort number fault faultPlace lastFault lastPlace a14 a15 (q6.2.2 + 1) often firstOf lastOf unlikes unlikeMany isCandidate modes fewest) H := hP
          have hD : va_D A (wX6 cA ad 0 tape taped q16.1 q16.2.1 q16.2.2.1 block ties lines q16.2.2.2.1 q16.2.2.2.2.1 q16.2.2.2.2.2.1 q16.2.2.2.2.2.2.1 q16.2.2.2.2.2.2.2 newValue newWeight newMany newBlock newTies newLines hasBlock hasTies size att place sort number fault faultPlace lastFault lastPlace a14 a15 (q6.2.2 + 1) often firstOf lastOf unlikes unlikeMany isCandidate modes fewest) := hD
          refine lv_aload_n hx hb dX6_insert_111 rfl (lv_at hl 0 rfl) ?_
          refine va_get (D := D) (ci := 6) (v := .int q16.2.2.1) (C := RX6) (T := TX6) (N := 42) hx hb hts iX6 hown hK hP 0 rfl rfl 5 (Nat.le_of_ble_eq_true rfl) f175 (fun _ h9 => h9) rfl dX6_insert_112 ?_
          obtain rfl := e_s h
          exact hret hP hS rfl dX6_insert_115
        · have h := e_f (not_not_intro c5) h
          refine lv_iconst (v := (-1)) hx hb dX6_insert_33 (by decide) ?_
          obtain rfl := e_s h
          exact hret hP hS rfl dX6_insert_34
set_option maxHeartbeats 4000000 in
set_option maxRecDepth 100000 in
theorem kX6_remove (l : Launch) (D : va_G) (cA : Nat → ClassId) (ad : Nat → Nat) (thrown : Int32) (tape : Nat → Int32) (taped : Int32) (value : Nat → Int32) (weight : Nat → Int32) (many : Int32) (block : Int32) (ties : Int32) (lines : Int32) (pastValue : Nat → Int32) (pastWeight : Nat → Int32) (pastMany : Nat → Int32) (undos : Int32) (fresh : Int32) (newValue : Nat → Int32) (newWeight : Nat → Int32) (newMany : Int32) (newBlock : Int32) (newTies : Int32) (newLines : Int32) (hasBlock : Int32) (hasTies : Int32) (size : Int32) (att : Int32) (place : Int32) (sort : Int32) (number : Int32) (fault : Int32) (faultPlace : Int32) (lastFault : Int32) (lastPlace : Int32) (toValue : Nat → Int32) (toWeight : Nat → Int32) (toMany : Int32) (often : Nat → Int32) (firstOf : Nat → Int32) (lastOf : Nat → Int32) (unlikes : Nat → Int32) (unlikeMany : Int32) (isCandidate : Nat → Int32) (modes : Nat → Int32) (fewest : Nat → Int32) (x1 : Int32) (q : Int32 × Int32 × (Nat → Int32) × (Nat → Int32) × Int32 × (Nat → Int32) × (Nat → Int32) × (Nat → Int32) × Int32 × Int32 × (Nat → Int32) × (Nat → Int32) × Int32) (h : mX6_remove thrown value weight many block pastValue pastWeight pastMany undos fresh toValue toWeight toMany x1 = some q) : MI l yX6_remove wsX6_remove { frames := 5, cells := 0, slots := 0, locals := 112 } D cA .int [.ref (ad 0), .int x1] (wX6 cA ad thrown tape taped value weight many block ties lines pastValue pastWeight pastMany undos fresh newValue newWeight newMany newBlock newTies newLines hasBlock hasTies size att place sort number fault faultPlace lastFault lastPlace toValue toWeight toMany often firstOf lastOf unlikes unlikeMany isCandidate modes fewest) (wX6 cA ad q.2.1 tape taped q.2.2.1 q.2.2.2.1 q.2.2.2.2.1 block ties lines q.2.2.2.2.2.1 q.2.2.2.2.2.2.1 q.2.2.2.2.2.2.2.1 q.2.2.2.2.2.2.2.2.1 q.2.2.2.2.2.2.2.2.2.1 newValue newWeight newMany newBlock newTies newLines hasBlock hasTies size att place sort number fault faultPlace lastFault lastPlace q.2.2.2.2.2.2.2.2.2.2.1 q.2.2.2.2.2.2.2.2.2.2.2.1 q.2.2.2.2.2.2.2.2.2.2.2.2 often firstOf lastOf unlikes unlikeMany isCandidate modes fewest) q.1 := by
  refine MI.of (cc := cX6_remove) (maxL := 4) (by decide +kernel) rfl rfl rfl (Nat.le_of_ble_eq_true rfl) ?_
  intro p e s m args below meth c A ls Q hx hb hml hts hown hK hP hD hA hS hl hret
  have hl : lv_has ls 4 [(0, .ref (ad 0)), (1, .int x1)] := hl
  have f13 := hts (.fieldLink RX6 13 "ModeDeskModel" "value" "[I") (by decide +kernel)
  have f175 := hts (.fieldLink RX6 175 "ModeDeskModel" "many" "I") (by decide +kernel)
  have f197 := hts (.fieldLink RX6 197 "ModeDeskModel" "toMany" "I") (by decide +kernel)
  have f41 := hts (.fieldLink RX6 41 "ModeDeskModel" "toValue" "[I") (by decide +kernel)
  have f44 := hts (.fieldLink RX6 44 "ModeDeskModel" "toWeight" "[I") (by decide +kernel)
  have f72 := hts (.fieldLink RX6 72 "ModeDeskModel" "thrown" "I") (by decide +kernel)
  have iX6 : ∀ w ∈ wsX60, w ∈ wsX6_remove := by decide +kernel
  unfold mX6_remove at h
  refine lv_aload_n hx hb dX6_remove_0 rfl (lv_at hl 0 rfl) ?_
  refine lv_iconst (v := 0) hx hb dX6_remove_1 (by decide) ?_
  refine va_put (D := D) (ci := 6) (v := .int 0) (ty := .int) (C := RX6) (T := TX6) (N := 42) hx hb hts iX6 tyX6 tyX6_ok nmX6 hown hK hP hD hS 0 rfl rfl 0 (Nat.le_of_ble_eq_true rfl) f72 (fun _ h9 => h9) rfl (tyX6_ok 0 (Nat.le_of_ble_eq_true rfl)) rfl rfl (Nat.le_of_ble_eq_true rfl) dX6_remove_2 (fun H locs hP hD hS => ?_)
  have hP : va_P D vwCl (wX6 cA ad 0 tape taped value weight many block ties lines pastValue pastWeight pastMany undos fresh newValue newWeight newMany newBlock newTies newLines hasBlock hasTies size att place sort number fault faultPlace lastFault lastPlace toValue toWeight toMany often firstOf lastOf unlikes unlikeMany isCandidate modes fewest) H := hP
  have hD : va_D A (wX6 cA ad 0 tape taped value weight many block ties lines pastValue pastWeight pastMany undos fresh newValue newWeight newMany newBlock newTies newLines hasBlock hasTies size att place sort number fault faultPlace lastFault lastPlace toValue toWeight toMany often firstOf lastOf unlikes unlikeMany isCandidate modes fewest) := hD
  refine lv_aload_n hx hb dX6_remove_5 rfl (lv_at hl 0 rfl) ?_
  refine lv_iload_n hx hb dX6_remove_6 rfl (lv_at hl 1 rfl) ?_
  obtain ⟨q1, eq1, h⟩ := e_b h
  refine xv_i0 (As := [.int x1]) (rest := []) (ci := 6) (b := ad 0) ⟨hx, hb, hml, hown, hts⟩ hl.1 (kX6_isPlace l D cA ad 0 tape taped value weight many block ties lines pastValue pastWeight pastMany undos fresh newValue newWeight newMany newBlock newTies newLines hasBlock hasTies size att place sort number fault faultPlace lastFault lastPlace toValue toWeight toMany often firstOf lastOf unlikes unlikeMany isCandidate modes fewest x1  _ eq1) (cwV 1 hts gX6_remove_X6_isPlace rfl rfl rfl (by decide +kernel) ⟨Nat.le_of_ble_eq_true rfl, Nat.le_of_ble_eq_true rfl⟩) rfl hK hP hD hS hA 0 rfl rfl rfl rfl (Nat.le_of_ble_eq_true rfl) dX6_remove_7 ⟨Nat.zero_le _, Nat.zero_le _⟩ (fun H locs hP hD hS hnq1 => ?_)
  have hP : va_P D vwCl (wX6 cA ad 0 tape taped value weight many block ties lines pastValue pastWeight pastMany undos fresh newValue newWeight newMany newBlock newTies newLines hasBlock hasTies size att place sort number fault faultPlace lastFault lastPlace toValue toWeight toMany often firstOf lastOf unlikes unlikeMany isCandidate modes fewest) H := hP
  have hD : va_D A (wX6 cA ad 0 tape taped value weight many block ties lines pastValue pastWeight pastMany undos fresh newValue newWeight newMany newBlock newTies newLines hasBlock hasTies size att place sort number fault faultPlace lastFault lastPlace toValue toWeight toMany often firstOf lastOf unlikes unlikeMany isCandidate modes fewest) := hD
  refine lv_if_ne (tgt := 15) hx hb dX6_remove_10 (by decide) (fun c2 => ?_) (fun c2 => ?_)
  · have h := e_t c2 h
    refine lv_aload_n hx hb dX6_remove_15 rfl (lv_at hl 0 rfl) ?_
    refine va_get (D := D) (ci := 6) (v := .ref (ad 2)) (C := RX6) (T := TX6) (N := 42) hx hb hts iX6 hown hK hP 0 rfl rfl 3 (Nat.le_of_ble_eq_true rfl) f13 (fun _ h9 => h9) rfl dX6_remove_16 ?_
    refine lv_iload_n hx hb dX6_remove_19 rfl (lv_at hl 1 rfl) ?_
    obtain ⟨v3, ev3, nv3, h⟩ := e_rd h
    refine xa_iald hx hb hK hP 2 rfl nv3 ev3 dX6_remove_20 ?_
    refine lv_istore_n (lv' := [(2, .int v3), (0, .ref (ad 0)), (1, .int x1)]) hx hb dX6_remove_21 rfl hl (by decide) rfl (fun ls hl => ?_)
    refine lv_aload_n hx hb dX6_remove_22 rfl (lv_at hl 1 rfl) ?_
    obtain ⟨q4, eq4, h⟩ := e_b h
    refine xv_v0 (As := []) (rest := []) (ci := 6) (b := ad 0) ⟨hx, hb, hml, hown, hts⟩ hl.1 (kX6_begins l D cA ad 0 tape taped value weight many block ties lines pastValue pastWeight pastMany undos fresh newValue newWeight newMany newBlock newTies newLines hasBlock hasTies size att place sort number fault faultPlace lastFault lastPlace toValue toWeight toMany often firstOf lastOf unlikes unlikeMany isCandidate modes fewest   _ eq4) (cwV 0 hts gX6_remove_X6_begins rfl rfl rfl (by decide +kernel) ⟨Nat.le_of_ble_eq_true rfl, Nat.le_of_ble_eq_true rfl⟩) rfl hK hP hD hS hA 0 rfl rfl rfl rfl (Nat.le_of_ble_eq_true rfl) dX6_remove_23 ⟨Nat.zero_le _, Nat.zero_le _⟩ (fun H locs hP hD hS => ?_)
    have hP : va_P D vwCl (wX6 cA ad 0 tape taped value weight many block ties lines pastValue pastWeight pastMany undos fresh newValue newWeight newMany newBlock newTies newLines hasBlock hasTies size att place sort number fault faultPlace lastFault lastPlace q4.1 q4.2.1 q4.2.2 often firstOf lastOf unlikes unlikeMany isCandidate modes fewest) H := hP
    have hD : va_D A (wX6 cA ad 0 tape taped value weight many block ties lines pastValue pastWeight pastMany undos fresh newValue newWeight newMany newBlock newTies newLines hasBlock hasTies size att place sort number fault faultPlace lastFault lastPlace q4.1 q4.2.1 q4.2.2 often firstOf lastOf unlikes unlikeMany isCandidate modes fewest) := hD
    refine lv_iload_n hx hb dX6_remove_26 rfl (lv_at hl 2 rfl) ?_
    refine lv_istore_n (lv' := [(3, .int x1), (2, .int v3), (0, .ref (ad 0)), (1, .int x1)]) hx hb dX6_remove_27 rfl hl (by decide) rfl (fun ls hl => ?_)
    have hL28 : ∀ (n : Nat) (x2 : Int32) (x3 : Int32) (thrown : Int32) (tape : Nat → Int32) (taped : Int32) (value : Nat → Int32) (weight : Nat → Int32) (many : Int32) (block : Int32) (ties : Int32) (lines : Int32) (pastValue : Nat → Int32) (pastWeight : Nat → Int32) (pastMany : Nat → Int32) (undos : Int32) (fresh : Int32) (newValue : Nat → Int32) (newWeight : Nat → Int32) (newMany : Int32) (newBlock : Int32) (newTies : Int32) (newLines : Int32) (hasBlock : Int32) (hasTies : Int32) (size : Int32) (att : Int32) (place : Int32) (sort : Int32) (number : Int32) (fault : Int32) (faultPlace : Int32) (lastFault : Int32) (lastPlace : Int32) (toValue : Nat → Int32) (toWeight : Nat → Int32) (toMany : Int32) (often : Nat → Int32) (firstOf : Nat → Int32) (lastOf : Nat → Int32) (unlikes : Nat → Int32) (unlikeMany : Int32) (isCandidate : Nat → Int32) (modes : Nat → Int32) (fewest : Nat → Int32) (z5 : (Nat → Int32) × (Nat → Int32)) (ls : Array Slot) (H : Heap) (locs : List Loc), lv_has ls 4 [(0, .ref (ad 0)), (2, .int x2), (3, .int x3)] → va_P D vwCl (wX6 cA ad thrown tape taped value weight many block ties lines pastValue pastWeight pastMany undos fresh newValue newWeight newMany newBlock newTies newLines hasBlock hasTies size att place sort number fault faultPlace lastFault lastPlace toValue toWeight toMany often firstOf lastOf unlikes unlikeMany isCandidate modes fewest) H → va_D A (wX6 cA ad thrown tape taped value weight many block ties lines pastValue pastWeight pastMany undos fresh newValue newWeight newMany newBlock newTies newLines hasBlock hasTies size att place sort number fault faultPlace lastFault lastPlace toValue toWeight toMany often firstOf lastOf unlikes unlikeMany isCandidate modes fewest) → va_S A s.heap H locs → mX6_remove_L28 many n x3 toValue toWeight = some z5 → (∀ (ls : Array Slot) (H : Heap) (locs : List Loc), lv_has ls 4 [(0, .ref (ad 0)), (2, .int x2)] → va_P D vwCl (wX6 cA ad thrown tape taped value weight many block ties lines pastValue pastWeight pastMany undos fresh newValue newWeight newMany newBlock newTies newLines hasBlock hasTies size att place sort number fault faultPlace lastFault lastPlace z5.1 z5.2 toMany often firstOf lastOf unlikes unlikeMany isCandidate modes fewest) H → va_D A (wX6 cA ad thrown tape taped value weight many block ties lines pastValue pastWeight pastMany undos fresh newValue newWeight newMany newBlock newTies newLines hasBlock hasTies size att place sort number fault faultPlace lastFault lastPlace z5.1 z5.2 toMany often firstOf lastOf unlikes unlikeMany isCandidate modes fewest) → va_S A s.heap H locs → W p l e (headSpec wsX6_remove { frames := 5, cells := 0, slots := 0, locals := 112 }).room s m args below meth c H locs 0 0 Q (F0 m 72 ls [])) → W p l e (headSpec wsX6_remove { frames := 5, cells := 0, slots := 0, locals := 112 }).room s m args below meth c H locs 0 0 Q (F0 m 28 ls []) := by
      intro n
      induction n with
      | zero => intro x2 x3 thrown tape taped value weight many block ties lines pastValue pastWeight pastMany undos fresh newValue newWeight newMany newBlock newTies newLines hasBlock hasTies size att place sort number fault faultPlace lastFault lastPlace toValue toWeight toMany often firstOf lastOf unlikes unlikeMany isCandidate modes fewest z5 ls H locs hl hP hD hS h hk28; exact e_n h
      | succ n ih28 =>
        intro x2 x3 thrown tape taped value weight many block ties lines pastValue pastWeight pastMany undos fresh newValue newWeight newMany newBlock newTies newLines hasBlock hasTies size att place sort number fault faultPlace lastFault lastPlace toValue toWeight toMany often firstOf lastOf unlikes unlikeMany isCandidate modes fewest z5 ls H locs hl hP hD hS h hk28
        rw [mX6_remove_L28.eq_2] at h
        refine lv_iload_n hx hb dX6_remove_28 rfl (lv_at hl 2 rfl) ?_
        refine lv_iconst (v := 1) hx hb dX6_remove_29 (by decide) ?_
        refine lv_iadd hx hb dX6_remove_30 ?_
        refine lv_aload_n hx hb dX6_remove_31 rfl (lv_at hl 0 rfl) ?_
        refine va_get (D := D) (ci := 6) (v := .int many) (C := RX6) (T := TX6) (N := 42) hx hb hts iX6 hown hK hP 0 rfl rfl 5 (Nat.le_of_ble_eq_true rfl) f175 (fun _ h9 => h9) rfl dX6_remove_32 ?_
        refine lv_icmp_ge (tgt := 72) hx hb dX6_remove_35 (by decide) (fun c6 => ?_) (fun c6 => ?_)
        · have h := e_t c6 h
          obtain rfl := e_s h
          exact hk28 _ _ _ (lv_sub hl [0, 1] rfl) hP hD hS
        · have h := e_f c6 h
          refine lv_aload_n hx hb dX6_remove_38 rfl (lv_at hl 0 rfl) ?_
          refine va_get (D := D) (ci := 6) (v := .ref (ad 9)) (C := RX6) (T := TX6) (N := 42) hx hb hts iX6 hown hK hP 0 rfl rfl 31 (Nat.le_of_ble_eq_true rfl) f41 (fun _ h9 => h9) rfl dX6_remove_39 ?_
          refine lv_iload_n hx hb dX6_remove_42 rfl (lv_at hl 2 rfl) ?_
          refine lv_aload_n hx hb dX6_remove_43 rfl (lv_at hl 0 rfl) ?_
          refine va_get (D := D) (ci := 6) (v := .ref (ad 9)) (C := RX6) (T := TX6) (N := 42) hx hb hts iX6 hown hK hP 0 rfl rfl 31 (Nat.le_of_ble_eq_true rfl) f41 (fun _ h9 => h9) rfl dX6_remove_44 ?_
          refine lv_iload_n hx hb dX6_remove_47 rfl (lv_at hl 2 rfl) ?_
          refine lv_iconst (v := 1) hx hb dX6_remove_48 (by decide) ?_
          refine lv_iadd hx hb dX6_remove_49 ?_
          obtain ⟨v7, ev7, nv7, h⟩ := e_rd h
          refine xa_iald hx hb hK hP 9 rfl nv7 ev7 dX6_remove_50 ?_
          obtain ⟨a8, ea8, na8, h⟩ := e_wr h
          refine xa_iast hx hb hK hP hD hS 9 rfl na8 ea8 dX6_remove_51 (fun H locs hP hD hS => ?_)
          have hP : va_P D vwCl (wX6 cA ad thrown tape taped value weight many block ties lines pastValue pastWeight pastMany undos fresh newValue newWeight newMany newBlock newTies newLines hasBlock hasTies size att place sort number fault faultPlace lastFault lastPlace a8 toWeight toMany often firstOf lastOf unlikes unlikeMany isCandidate modes fewest) H := hP
          have hD : va_D A (wX6 cA ad thrown tape taped value weight many block ties lines pastValue pastWeight pastMany undos fresh newValue newWeight newMany newBlock newTies newLines hasBlock hasTies size att place sort number fault faultPlace lastFault lastPlace a8 toWeight toMany often firstOf lastOf unlikes unlikeMany isCandidate modes fewest) := hD
          refine lv_aload_n hx hb dX6_remove_52 rfl (lv_at hl 0 rfl) ?_
          refine va_get (D := D) (ci := 6) (v := .ref (ad 10)) (C := RX6) (T := TX6) (N := 42) hx hb hts iX6 hown hK hP 0 rfl rfl 32 (Nat.le_of_ble_eq_true rfl) f44 (fun _ h9 => h9) rfl dX6_remove_53 ?_
          refine lv_iload_n hx hb dX6_remove_56 rfl (lv_at hl 2 rfl) ?_
          refine lv_aload_n hx hb dX6_remove_57 rfl (lv_at hl 0 rfl) ?_
          refine va_get (D := D) (ci := 6) (v := .ref (ad 10)) (C := RX6) (T := TX6) (N := 42) hx hb hts iX6 hown hK hP 0 rfl rfl 32 (Nat.le_of_ble_eq_true rfl) f44 (fun _ h9 => h9) rfl dX6_remove_58 ?_
          refine lv_iload_n hx hb dX6_remove_61 rfl (lv_at hl 2 rfl) ?_
          refine lv_iconst (v := 1) hx hb dX6_remove_62 (by decide) ?_
          refine lv_iadd hx hb dX6_remove_63 ?_
          obtain ⟨v9, ev9, nv9, h⟩ := e_rd h
          refine xa_iald hx hb hK hP 10 rfl nv9 ev9 dX6_remove_64 ?_
          obtain ⟨a10, ea10, na10, h⟩ := e_wr h
          refine xa_iast hx hb hK hP hD hS 10 rfl na10 ea10 dX6_remove_65 (fun H locs hP hD hS => ?_)
          have hP : va_P D vwCl (wX6 cA ad thrown tape taped value weight many block ties lines pastValue pastWeight pastMany undos fresh newValue newWeight newMany newBlock newTies newLines hasBlock hasTies size att place sort number fault faultPlace lastFault lastPlace a8 a10 toMany often firstOf lastOf unlikes unlikeMany isCandidate modes fewest) H := hP
          have hD : va_D A (wX6 cA ad thrown tape taped value weight many block ties lines pastValue pastWeight pastMany undos fresh newValue newWeight newMany newBlock newTies newLines hasBlock hasTies size att place sort number fault faultPlace lastFault lastPlace a8 a10 toMany often firstOf lastOf unlikes unlikeMany isCandidate modes fewest) := hD
          refine lv_iinc (v := (x3 + 1)) (lv' := [(3, .int (x3 + 1)), (0, .ref (ad 0)), (2, .int x2)]) hx hb dX6_remove_66 hl (k := 2) rfl rfl (by decide) rfl (fun ls hl => ?_)
          refine lv_goto (tgt := 28) hx hb dX6_remove_69 (by decide) ?_
          exact ih28 x2 (x3 + 1) thrown tape taped value weight many block ties lines pastValue pastWeight pastMany undos fresh newValue newWeight newMany newBlock newTies newLines hasBlock hasTies size att place sort number fault faultPlace lastFault lastPlace a8 a10 toMany often firstOf lastOf unlikes unlikeMany isCandidate modes fewest z5 _ _ _ (lv_sub hl [1, 2, 0] rfl) hP hD hS h hk28
    obtain ⟨z11, ez11, h⟩ := e_b h
    refine hL28 FU v3 x1 0 tape taped value weight many block ties lines pastValue pastWeight pastMany undos fresh newValue newWeight newMany newBlock newTies newLines hasBlock hasTies size att place sort number fault faultPlace lastFault lastPlace q4.1 q4.2.1 q4.2.2 often firstOf lastOf unlikes unlikeMany isCandidate modes fewest z11 _ _ _ (lv_sub hl [2, 1, 0] rfl) hP hD hS ez11 (fun ls H locs hl hP hD hS => ?_)
    refine lv_aload_n hx hb dX6_remove_72 rfl (lv_at hl 0 rfl) ?_
    refine lv_dup hx hb dX6_remove_73 rfl ?_
    refine va_get (D := D) (ci := 6) (v := .int q4.2.2) (C := RX6) (T := TX6) (N := 42) hx hb hts iX6 hown hK hP 0 rfl rfl 33 (Nat.le_of_ble_eq_true rfl) f197 (fun _ h9 => h9) rfl dX6_remove_74 ?_
    refine lv_iconst (v := 1) hx hb dX6_remove_77 (by decide) ?_
    refine lv_isub hx hb dX6_remove_78 ?_
    refine va_put (D := D) (ci := 6) (v := .int (q4.2.2 - 1)) (ty := .int) (C := RX6) (T := TX6) (N := 42) hx hb hts iX6 tyX6 tyX6_ok nmX6 hown hK hP hD hS 0 rfl rfl 33 (Nat.le_of_ble_eq_true rfl) f197 (fun _ h9 => h9) rfl (tyX6_ok 33 (Nat.le_of_ble_eq_true rfl)) rfl rfl (Nat.le_of_ble_eq_true rfl) dX6_remove_79 (fun H locs hP hD hS => ?_)
    have hP : va_P D vwCl (wX6 cA ad 0 tape taped value weight many block ties lines pastValue pastWeight pastMany undos fresh newValue newWeight newMany newBlock newTies newLines hasBlock hasTies size att place sort number fault faultPlace lastFault lastPlace z11.1 z11.2 (q4.2.2 - 1) often firstOf lastOf unlikes unlikeMany isCandidate modes fewest) H := hP
    have hD : va_D A (wX6 cA ad 0 tape taped value weight many block ties lines pastValue pastWeight pastMany undos fresh newValue newWeight newMany newBlock newTies newLines hasBlock hasTies size att place sort number fault faultPlace lastFault lastPlace z11.1 z11.2 (q4.2.2 - 1) often firstOf lastOf unlikes unlikeMany isCandidate modes fewest) := hD
    refine lv_aload_n hx hb dX6_remove_82 rfl (lv_at hl 0 rfl) ?_
    obtain ⟨q12, eq12, h⟩ := e_b h
    refine xv_v0 (As := []) (rest := []) (ci := 6) (b := ad 0) ⟨hx, hb, hml, hown, hts⟩ hl.1 (kX6_edits l D cA ad 0 tape taped value weight many block ties lines pastValue pastWeight pastMany undos fresh newValue newWeight newMany newBlock newTies newLines hasBlock hasTies size att place sort number fault faultPlace lastFault lastPlace z11.1 z11.2 (q4.2.2 - 1) often firstOf lastOf unlikes unlikeMany isCandidate modes fewest   _ eq12) (cwV 0 hts gX6_remove_X6_edits rfl rfl rfl (by decide +kernel) ⟨Nat.le_of_ble_eq_true rfl, Nat.le_of_ble_eq_true rfl⟩) rfl hK hP hD hS hA 0 rfl rfl rfl rfl (Nat.le_of_ble_eq_true rfl) dX6_remove_83 ⟨Nat.zero_le _, Nat.zero_le _⟩ (fun H locs hP hD hS => ?_)
    have hP : va_P D vwCl (wX6 cA ad 0 tape taped q12.1 q12.2.1 q12.2.2.1 block ties lines q12.2.2.2.1 q12.2.2.2.2.1 q12.2.2.2.2.2.1 q12.2.2.2.2.2.2.1 q12.2.2.2.2.2.2.2 newValue newWeight newMany newBlock newTies newLines hasBlock hasTies size att place sort number fault faultPlace lastFault lastPlace z11.1 z11.2 (q4.2.2 - 1) often firstOf lastOf unlikes unlikeMany isCandidate modes fewest) H := hP
    have hD : va_D A (wX6 cA ad 0 tape taped q12.1 q12.2.1 q12.2.2.1 block ties lines q12.2.2.2.1 q12.2.2.2.2.1 q12.2.2.2.2.2.1 q12.2.2.2.2.2.2.1 q12.2.2.2.2.2.2.2 newValue newWeight newMany newBlock newTies newLines hasBlock hasTies size att place sort number fault faultPlace lastFault lastPlace z11.1 z11.2 (q4.2.2 - 1) often firstOf lastOf unlikes unlikeMany isCandidate modes fewest) := hD
    refine lv_iload_n hx hb dX6_remove_86 rfl (lv_at hl 1 rfl) ?_
    obtain rfl := e_s h
    exact hret hP hS rfl dX6_remove_87
  · have h := e_f (not_not_intro c2) h
    refine lv_iconst (v := (-1)) hx hb dX6_remove_13 (by decide) ?_
    obtain rfl := e_s h
    exact hret hP hS rfl dX6_remove_14
set_option maxHeartbeats 4000000 in
set_option maxRecDepth 100000 in
theorem kX6_done (l : Launch) (D : va_G) (cA : Nat → ClassId) (ad : Nat → Nat) (thrown : Int32) (tape : Nat → Int32) (taped : Int32) (value : Nat → Int32) (weight : Nat → Int32) (many : Int32) (block : Int32) (ties : Int32) (lines : Int32) (pastValue : Nat → Int32) (pastWeight : Nat → Int32) (pastMany : Nat → Int32) (undos : Int32) (fresh : Int32) (newValue : Nat → Int32) (newWeight : Nat → Int32) (newMany : Int32) (newBlock : Int32) (newTies : Int32) (newLines : Int32) (hasBlock : Int32) (hasTies : Int32) (size : Int32) (att : Int32) (place : Int32) (sort : Int32) (number : Int32) (fault : Int32) (faultPlace : Int32) (lastFault : Int32) (lastPlace : Int32) (toValue : Nat → Int32) (toWeight : Nat → Int32) (toMany : Int32) (often : Nat → Int32) (firstOf : Nat → Int32) (lastOf : Nat → Int32) (unlikes : Nat → Int32) (unlikeMany : Int32) (isCandidate : Nat → Int32) (modes : Nat → Int32) (fewest : Nat → Int32)  (q : Int32 × (Nat → Int32) × (Nat → Int32) × Int32 × (Nat → Int32) × (Nat → Int32) × (Nat → Int32) × Int32 × Int32) (h : mX6_done value weight many block pastValue pastWeight pastMany undos fresh toValue toWeight toMany  = some q) : MI l yX6_done wsX6_done { frames := 5, cells := 0, slots := 0, locals := 112 } D cA .int [.ref (ad 0)] (wX6 cA ad thrown tape taped value weight many block ties lines pastValue pastWeight pastMany undos fresh newValue newWeight newMany newBlock newTies newLines hasBlock hasTies size att place sort number fault faultPlace lastFault lastPlace toValue toWeight toMany often firstOf lastOf unlikes unlikeMany isCandidate modes fewest) (wX6 cA ad thrown tape taped q.2.1 q.2.2.1 q.2.2.2.1 block ties lines q.2.2.2.2.1 q.2.2.2.2.2.1 q.2.2.2.2.2.2.1 q.2.2.2.2.2.2.2.1 q.2.2.2.2.2.2.2.2 newValue newWeight newMany newBlock newTies newLines hasBlock hasTies size att place sort number fault faultPlace lastFault lastPlace toValue toWeight toMany often firstOf lastOf unlikes unlikeMany isCandidate modes fewest) q.1 := by
  refine MI.of (cc := cX6_done) (maxL := 2) (by decide +kernel) rfl rfl rfl (Nat.le_of_ble_eq_true rfl) ?_
  intro p e s m args below meth c A ls Q hx hb hml hts hown hK hP hD hA hS hl hret
  have hl : lv_has ls 2 [(0, .ref (ad 0))] := hl
  unfold mX6_done at h
  refine lv_aload_n hx hb dX6_done_0 rfl (lv_at hl 0 rfl) ?_
  obtain ⟨q1, eq1, h⟩ := e_b h
  refine xv_i0 (As := []) (rest := []) (ci := 6) (b := ad 0) ⟨hx, hb, hml, hown, hts⟩ hl.1 (kX6_others l D cA ad thrown tape taped value weight many block ties lines pastValue pastWeight pastMany undos fresh newValue newWeight newMany newBlock newTies newLines hasBlock hasTies size att place sort number fault faultPlace lastFault lastPlace toValue toWeight toMany often firstOf lastOf unlikes unlikeMany isCandidate modes fewest   _ eq1) (cwV 0 hts gX6_done_X6_others rfl rfl rfl (by decide +kernel) ⟨Nat.le_of_ble_eq_true rfl, Nat.le_of_ble_eq_true rfl⟩) rfl hK hP hD hS hA 0 rfl rfl rfl rfl (Nat.le_of_ble_eq_true rfl) dX6_done_1 ⟨Nat.zero_le _, Nat.zero_le _⟩ (fun H locs hP hD hS hnq1 => ?_)
  have hP : va_P D vwCl (wX6 cA ad thrown tape taped value weight many block ties lines pastValue pastWeight pastMany undos fresh newValue newWeight newMany newBlock newTies newLines hasBlock hasTies size att place sort number fault faultPlace lastFault lastPlace toValue toWeight toMany often firstOf lastOf unlikes unlikeMany isCandidate modes fewest) H := hP
  have hD : va_D A (wX6 cA ad thrown tape taped value weight many block ties lines pastValue pastWeight pastMany undos fresh newValue newWeight newMany newBlock newTies newLines hasBlock hasTies size att place sort number fault faultPlace lastFault lastPlace toValue toWeight toMany often firstOf lastOf unlikes unlikeMany isCandidate modes fewest) := hD
  refine lv_istore_n (lv' := [(1, .int q1), (0, .ref (ad 0))]) hx hb dX6_done_4 rfl hl (by decide) rfl (fun ls hl => ?_)
  refine lv_aload_n hx hb dX6_done_5 rfl (lv_at hl 1 rfl) ?_
  obtain ⟨q2, eq2, h⟩ := e_b h
  refine xv_v0 (As := []) (rest := []) (ci := 6) (b := ad 0) ⟨hx, hb, hml, hown, hts⟩ hl.1 (kX6_edits l D cA ad thrown tape taped value weight many block ties lines pastValue pastWeight pastMany undos fresh newValue newWeight newMany newBlock newTies newLines hasBlock hasTies size att place sort number fault faultPlace lastFault lastPlace toValue toWeight toMany often firstOf lastOf unlikes unlikeMany isCandidate modes fewest   _ eq2) (cwV 0 hts gX6_done_X6_edits rfl rfl rfl (by decide +kernel) ⟨Nat.le_of_ble_eq_true rfl, Nat.le_of_ble_eq_true rfl⟩) rfl hK hP hD hS hA 0 rfl rfl rfl rfl (Nat.le_of_ble_eq_true rfl) dX6_done_6 ⟨Nat.zero_le _, Nat.zero_le _⟩ (fun H locs hP hD hS => ?_)
  have hP : va_P D vwCl (wX6 cA ad thrown tape taped q2.1 q2.2.1 q2.2.2.1 block ties lines q2.2.2.2.1 q2.2.2.2.2.1 q2.2.2.2.2.2.1 q2.2.2.2.2.2.2.1 q2.2.2.2.2.2.2.2 newValue newWeight newMany newBlock newTies newLines hasBlock hasTies size att place sort number fault faultPlace lastFault lastPlace toValue toWeight toMany often firstOf lastOf unlikes unlikeMany isCandidate modes fewest) H := hP
  have hD : va_D A (wX6 cA ad thrown tape taped q2.1 q2.2.1 q2.2.2.1 block ties lines q2.2.2.2.1 q2.2.2.2.2.1 q2.2.2.2.2.2.1 q2.2.2.2.2.2.2.1 q2.2.2.2.2.2.2.2 newValue newWeight newMany newBlock newTies newLines hasBlock hasTies size att place sort number fault faultPlace lastFault lastPlace toValue toWeight toMany often firstOf lastOf unlikes unlikeMany isCandidate modes fewest) := hD
  refine lv_iload_n hx hb dX6_done_9 rfl (lv_at hl 0 rfl) ?_
  obtain rfl := e_s h
  exact hret hP hS rfl dX6_done_10
set_option maxHeartbeats 4000000 in
set_option maxRecDepth 100000 in
theorem kX6_fill (l : Launch) (D : va_G) (cA : Nat → ClassId) (ad : Nat → Nat) (thrown : Int32) (tape : Nat → Int32) (taped : Int32) (value : Nat → Int32) (weight : Nat → Int32) (many : Int32) (block : Int32) (ties : Int32) (lines : Int32) (pastValue : Nat → Int32) (pastWeight : Nat → Int32) (pastMany : Nat → Int32) (undos : Int32) (fresh : Int32) (newValue : Nat → Int32) (newWeight : Nat → Int32) (newMany : Int32) (newBlock : Int32) (newTies : Int32) (newLines : Int32) (hasBlock : Int32) (hasTies : Int32) (size : Int32) (att : Int32) (place : Int32) (sort : Int32) (number : Int32) (fault : Int32) (faultPlace : Int32) (lastFault : Int32) (lastPlace : Int32) (toValue : Nat → Int32) (toWeight : Nat → Int32) (toMany : Int32) (often : Nat → Int32) (firstOf : Nat → Int32) (lastOf : Nat → Int32) (unlikes : Nat → Int32) (unlikeMany : Int32) (isCandidate : Nat → Int32) (modes : Nat → Int32) (fewest : Nat → Int32) (x1 : Int32) (x2 : Int32) (x3 : Int32) (q : Int32 × Int32 × (Nat → Int32) × (Nat → Int32) × Int32 × (Nat → Int32) × (Nat → Int32) × (Nat → Int32) × Int32 × Int32 × (Nat → Int32) × (Nat → Int32) × Int32) (h : mX6_fill thrown value weight many block pastValue pastWeight pastMany undos fresh toValue toWeight toMany x1 x2 x3 = some q) : MI l yX6_fill wsX6_fill { frames := 6, cells := 0, slots := 0, locals := 133 } D cA .int [.ref (ad 0), .int x1, .int x2, .int x3] (wX6 cA ad thrown tape taped value weight many block ties lines pastValue pastWeight pastMany undos fresh newValue newWeight newMany newBlock newTies newLines hasBlock hasTies size att place sort number fault faultPlace lastFault lastPlace toValue toWeight toMany often firstOf lastOf unlikes unlikeMany isCandidate modes fewest) (wX6 cA ad q.2.1 tape taped q.2.2.1 q.2.2.2.1 q.2.2.2.2.1 block ties lines q.2.2.2.2.2.1 q.2.2.2.2.2.2.1 q.2.2.2.2.2.2.2.1 q.2.2.2.2.2.2.2.2.1 q.2.2.2.2.2.2.2.2.2.1 newValue newWeight newMany newBlock newTies newLines hasBlock hasTies size att place sort number fault faultPlace lastFault lastPlace q.2.2.2.2.2.2.2.2.2.2.1 q.2.2.2.2.2.2.2.2.2.2.2.1 q.2.2.2.2.2.2.2.2.2.2.2.2 often firstOf lastOf unlikes unlikeMany isCandidate modes fewest) q.1 := by
  refine MI.of (cc := cX6_fill) (maxL := 5) (by decide +kernel) rfl rfl rfl (Nat.le_of_ble_eq_true rfl) ?_
  intro p e s m args below meth c A ls Q hx hb hml hts hown hK hP hD hA hS hl hret
  have hl : lv_has ls 5 [(0, .ref (ad 0)), (1, .int x1), (2, .int x2), (3, .int x3)] := hl
  have f41 := hts (.fieldLink RX6 41 "ModeDeskModel" "toValue" "[I") (by decide +kernel)
  have f72 := hts (.fieldLink RX6 72 "ModeDeskModel" "thrown" "I") (by decide +kernel)
  have iX6 : ∀ w ∈ wsX60, w ∈ wsX6_fill := by decide +kernel
  unfold mX6_fill at h
  refine lv_aload_n hx hb dX6_fill_0 rfl (lv_at hl 0 rfl) ?_
  refine lv_iconst (v := 0) hx hb dX6_fill_1 (by decide) ?_
  refine va_put (D := D) (ci := 6) (v := .int 0) (ty := .int) (C := RX6) (T := TX6) (N := 42) hx hb hts iX6 tyX6 tyX6_ok nmX6 hown hK hP hD hS 0 rfl rfl 0 (Nat.le_of_ble_eq_true rfl) f72 (fun _ h9 => h9) rfl (tyX6_ok 0 (Nat.le_of_ble_eq_true rfl)) rfl rfl (Nat.le_of_ble_eq_true rfl) dX6_fill_2 (fun H locs hP hD hS => ?_)
  have hP : va_P D vwCl (wX6 cA ad 0 tape taped value weight many block ties lines pastValue pastWeight pastMany undos fresh newValue newWeight newMany newBlock newTies newLines hasBlock hasTies size att place sort number fault faultPlace lastFault lastPlace toValue toWeight toMany often firstOf lastOf unlikes unlikeMany isCandidate modes fewest) H := hP
  have hD : va_D A (wX6 cA ad 0 tape taped value weight many block ties lines pastValue pastWeight pastMany undos fresh newValue newWeight newMany newBlock newTies newLines hasBlock hasTies size att place sort number fault faultPlace lastFault lastPlace toValue toWeight toMany often firstOf lastOf unlikes unlikeMany isCandidate modes fewest) := hD
  refine lv_aload_n hx hb dX6_fill_5 rfl (lv_at hl 0 rfl) ?_
  refine lv_iload_n hx hb dX6_fill_6 rfl (lv_at hl 1 rfl) ?_
  refine lv_iload_n hx hb dX6_fill_7 rfl (lv_at hl 2 rfl) ?_
  obtain ⟨q1, eq1, h⟩ := e_b h
  refine xv_i0 (As := [.int x1, .int x2]) (rest := []) (ci := 6) (b := ad 0) ⟨hx, hb, hml, hown, hts⟩ hl.1 (kX6_isSpan l D cA ad 0 tape taped value weight many block ties lines pastValue pastWeight pastMany undos fresh newValue newWeight newMany newBlock newTies newLines hasBlock hasTies size att place sort number fault faultPlace lastFault lastPlace toValue toWeight toMany often firstOf lastOf unlikes unlikeMany isCandidate modes fewest x1 x2  _ eq1) (cwV 2 hts gX6_fill_X6_isSpan rfl rfl rfl (by decide +kernel) ⟨Nat.le_of_ble_eq_true rfl, Nat.le_of_ble_eq_true rfl⟩) rfl hK hP hD hS hA 0 rfl rfl rfl rfl (Nat.le_of_ble_eq_true rfl) dX6_fill_8 ⟨Nat.zero_le _, Nat.zero_le _⟩ (fun H locs hP hD hS hnq1 => ?_)
  have hP : va_P D vwCl (wX6 cA ad 0 tape taped value weight many block ties lines pastValue pastWeight pastMany undos fresh newValue newWeight newMany newBlock newTies newLines hasBlock hasTies size att place sort number fault faultPlace lastFault lastPlace toValue toWeight toMany often firstOf lastOf unlikes unlikeMany isCandidate modes fewest) H := hP
  have hD : va_D A (wX6 cA ad 0 tape taped value weight many block ties lines pastValue pastWeight pastMany undos fresh newValue newWeight newMany newBlock newTies newLines hasBlock hasTies size att place sort number fault faultPlace lastFault lastPlace toValue toWeight toMany often firstOf lastOf unlikes unlikeMany isCandidate modes fewest) := hD
  refine lv_if_eq (tgt := 21) hx hb dX6_fill_11 (by decide) (fun c2 => ?_) (fun c2 => ?_)
  · have h := e_t c2 h
    refine lv_iconst (v := (-1)) hx hb dX6_fill_21 (by decide) ?_
    obtain rfl := e_s h
    exact hret hP hS rfl dX6_fill_22
  · have h := e_f c2 h
    refine lv_iload_n hx hb dX6_fill_14 rfl (lv_at hl 3 rfl) ?_
    obtain ⟨q3, eq3, h⟩ := e_b h
    refine xs_i (As := [.int x3]) (rest := []) ⟨hx, hb, hml, hown, hts⟩ hl.1 (kX6_isValue l D cA   x3  _ eq3) (va_cwS 1 hts gX6_fill_X6_isValue rfl rfl rfl (by decide +kernel) ⟨Nat.le_of_ble_eq_true rfl, Nat.le_of_ble_eq_true rfl⟩) rfl hK hP hD hS hA [] rfl (by decide +kernel) rfl (Nat.le_of_ble_eq_true rfl) dX6_fill_15 ⟨Nat.zero_le _, Nat.zero_le _⟩ (fun H locs hP hD hS hnq3 => ?_)
    have hP : va_P D vwCl (wX6 cA ad 0 tape taped value weight many block ties lines pastValue pastWeight pastMany undos fresh newValue newWeight newMany newBlock newTies newLines hasBlock hasTies size att place sort number fault faultPlace lastFault lastPlace toValue toWeight toMany often firstOf lastOf unlikes unlikeMany isCandidate modes fewest) H := hP
    have hD : va_D A (wX6 cA ad 0 tape taped value weight many block ties lines pastValue pastWeight pastMany undos fresh newValue newWeight newMany newBlock newTies newLines hasBlock hasTies size att place sort number fault faultPlace lastFault lastPlace toValue toWeight toMany often firstOf lastOf unlikes unlikeMany isCandidate modes fewest) := hD
    refine lv_if_ne (tgt := 23) hx hb dX6_fill_18 (by decide) (fun c4 => ?_) (fun c4 => ?_)
    · have h := e_t c4 h
      refine lv_aload_n hx hb dX6_fill_23 rfl (lv_at hl 0 rfl) ?_
      obtain ⟨q5, eq5, h⟩ := e_b h
      refine xv_v0 (As := []) (rest := []) (ci := 6) (b := ad 0) ⟨hx, hb, hml, hown, hts⟩ hl.1 (kX6_begins l D cA ad 0 tape taped value weight many block ties lines pastValue pastWeight pastMany undos fresh newValue newWeight newMany newBlock newTies newLines hasBlock hasTies size att place sort number fault faultPlace lastFault lastPlace toValue toWeight toMany often firstOf lastOf unlikes unlikeMany isCandidate modes fewest   _ eq5) (cwV 0 hts gX6_fill_X6_begins rfl rfl rfl (by decide +kernel) ⟨Nat.le_of_ble_eq_true rfl, Nat.le_of_ble_eq_true rfl⟩) rfl hK hP hD hS hA 0 rfl rfl rfl rfl (Nat.le_of_ble_eq_true rfl) dX6_fill_24 ⟨Nat.zero_le _, Nat.zero_le _⟩ (fun H locs hP hD hS => ?_)
      have hP : va_P D vwCl (wX6 cA ad 0 tape taped value weight many block ties lines pastValue pastWeight pastMany undos fresh newValue newWeight newMany newBlock newTies newLines hasBlock hasTies size att place sort number fault faultPlace lastFault lastPlace q5.1 q5.2.1 q5.2.2 often firstOf lastOf unlikes unlikeMany isCandidate modes fewest) H := hP
      have hD : va_D A (wX6 cA ad 0 tape taped value weight many block ties lines pastValue pastWeight pastMany undos fresh newValue newWeight newMany newBlock newTies newLines hasBlock hasTies size att place sort number fault faultPlace lastFault lastPlace q5.1 q5.2.1 q5.2.2 often firstOf lastOf unlikes unlikeMany isCandidate modes fewest) := hD
      refine lv_iload_n hx hb dX6_fill_27 rfl (lv_at hl 1 rfl) ?_
      refine lv_istore (lv' := [(4, .int x1), (0, .ref (ad 0)), (1, .int x1), (2, .int x2), (3, .int x3)]) hx hb dX6_fill_28 hl (by decide) rfl (fun ls hl => ?_)
      have hL30 : ∀ (n : Nat) (x2 : Int32) (x3 : Int32) (x4 : Int32) (thrown : Int32) (tape : Nat → Int32) (taped : Int32) (value : Nat → Int32) (weight : Nat → Int32) (many : Int32) (block : Int32) (ties : Int32) (lines : Int32) (pastValue : Nat → Int32) (pastWeight : Nat → Int32) (pastMany : Nat → Int32) (undos : Int32) (fresh : Int32) (newValue : Nat → Int32) (newWeight : Nat → Int32) (newMany : Int32) (newBlock : Int32) (newTies : Int32) (newLines : Int32) (hasBlock : Int32) (hasTies : Int32) (size : Int32) (att : Int32) (place : Int32) (sort : Int32) (number : Int32) (fault : Int32) (faultPlace : Int32) (lastFault : Int32) (lastPlace : Int32) (toValue : Nat → Int32) (toWeight : Nat → Int32) (toMany : Int32) (often : Nat → Int32) (firstOf : Nat → Int32) (lastOf : Nat → Int32) (unlikes : Nat → Int32) (unlikeMany : Int32) (isCandidate : Nat → Int32) (modes : Nat → Int32) (fewest : Nat → Int32) (z6 : (Nat → Int32)) (ls : Array Slot) (H : Heap) (locs : List Loc), lv_has ls 5 [(0, .ref (ad 0)), (2, .int x2), (3, .int x3), (4, .int x4)] → va_P D vwCl (wX6 cA ad thrown tape taped value weight many block ties lines pastValue pastWeight pastMany undos fresh newValue newWeight newMany newBlock newTies newLines hasBlock hasTies size att place sort number fault faultPlace lastFault lastPlace toValue toWeight toMany often firstOf lastOf unlikes unlikeMany isCandidate modes fewest) H → va_D A (wX6 cA ad thrown tape taped value weight many block ties lines pastValue pastWeight pastMany undos fresh newValue newWeight newMany newBlock newTies newLines hasBlock hasTies size att place sort number fault faultPlace lastFault lastPlace toValue toWeight toMany often firstOf lastOf unlikes unlikeMany isCandidate modes fewest) → va_S A s.heap H locs → mX6_fill_L30 x2 x3 n x4 toValue = some z6 → (∀ (ls : Array Slot) (H : Heap) (locs : List Loc), lv_has ls 5 [(0, .ref (ad 0))] → va_P D vwCl (wX6 cA ad thrown tape taped value weight many block ties lines pastValue pastWeight pastMany undos fresh newValue newWeight newMany newBlock newTies newLines hasBlock hasTies size att place sort number fault faultPlace lastFault lastPlace z6 toWeight toMany often firstOf lastOf unlikes unlikeMany isCandidate modes fewest) H → va_D A (wX6 cA ad thrown tape taped value weight many block ties lines pastValue pastWeight pastMany undos fresh newValue newWeight newMany newBlock newTies newLines hasBlock hasTies size att place sort number fault faultPlace lastFault lastPlace z6 toWeight toMany often firstOf lastOf unlikes unlikeMany isCandidate modes fewest) → va_S A s.heap H locs → W p l e (headSpec wsX6_fill { frames := 6, cells := 0, slots := 0, locals := 133 }).room s m args below meth c H locs 0 0 Q (F0 m 50 ls [])) → W p l e (headSpec wsX6_fill { frames := 6, cells := 0, slots := 0, locals := 133 }).room s m args below meth c H locs 0 0 Q (F0 m 30 ls []) := by
        intro n
        induction n with
        | zero => intro x2 x3 x4 thrown tape taped value weight many block ties lines pastValue pastWeight pastMany undos fresh newValue newWeight newMany newBlock newTies newLines hasBlock hasTies size att place sort number fault faultPlace lastFault lastPlace toValue toWeight toMany often firstOf lastOf unlikes unlikeMany isCandidate modes fewest z6 ls H locs hl hP hD hS h hk30; exact e_n h
        | succ n ih30 =>
          intro x2 x3 x4 thrown tape taped value weight many block ties lines pastValue pastWeight pastMany undos fresh newValue newWeight newMany newBlock newTies newLines hasBlock hasTies size att place sort number fault faultPlace lastFault lastPlace toValue toWeight toMany often firstOf lastOf unlikes unlikeMany isCandidate modes fewest z6 ls H locs hl hP hD hS h hk30
          rw [mX6_fill_L30.eq_2] at h
          refine lv_iload hx hb dX6_fill_30 (lv_at hl 3 rfl) ?_
          refine lv_iload_n hx hb dX6_fill_32 rfl (lv_at hl 1 rfl) ?_
          refine lv_icmp_gt (tgt := 50) hx hb dX6_fill_33 (by decide) (fun c7 => ?_) (fun c7 => ?_)
          · have h := e_t c7 h
            obtain rfl := e_s h
            exact hk30 _ _ _ (lv_sub hl [0] rfl) hP hD hS
          · have h := e_f c7 h
            refine lv_aload_n hx hb dX6_fill_36 rfl (lv_at hl 0 rfl) ?_
            refine va_get (D := D) (ci := 6) (v := .ref (ad 9)) (C := RX6) (T := TX6) (N := 42) hx hb hts iX6 hown hK hP 0 rfl rfl 31 (Nat.le_of_ble_eq_true rfl) f41 (fun _ h9 => h9) rfl dX6_fill_37 ?_
            refine lv_iload hx hb dX6_fill_40 (lv_at hl 3 rfl) ?_
            refine lv_iload_n hx hb dX6_fill_42 rfl (lv_at hl 2 rfl) ?_
            obtain ⟨a8, ea8, na8, h⟩ := e_wr h
            refine xa_iast hx hb hK hP hD hS 9 rfl na8 ea8 dX6_fill_43 (fun H locs hP hD hS => ?_)
            have hP : va_P D vwCl (wX6 cA ad thrown tape taped value weight many block ties lines pastValue pastWeight pastMany undos fresh newValue newWeight newMany newBlock newTies newLines hasBlock hasTies size att place sort number fault faultPlace lastFault lastPlace a8 toWeight toMany often firstOf lastOf unlikes unlikeMany isCandidate modes fewest) H := hP
            have hD : va_D A (wX6 cA ad thrown tape taped value weight many block ties lines pastValue pastWeight pastMany undos fresh newValue newWeight newMany newBlock newTies newLines hasBlock hasTies size att place sort number fault faultPlace lastFault lastPlace a8 toWeight toMany often firstOf lastOf unlikes unlikeMany isCandidate modes fewest) := hD
            refine lv_iinc (v := (x4 + 1)) (lv' := [(4, .int (x4 + 1)), (0, .ref (ad 0)), (2, .int x2), (3, .int x3)]) hx hb dX6_fill_44 hl (k := 3) rfl rfl (by decide) rfl (fun ls hl => ?_)
            refine lv_goto (tgt := 30) hx hb dX6_fill_47 (by decide) ?_
            exact ih30 x2 x3 (x4 + 1) thrown tape taped value weight many block ties lines pastValue pastWeight pastMany undos fresh newValue newWeight newMany newBlock newTies newLines hasBlock hasTies size att place sort number fault faultPlace lastFault lastPlace a8 toWeight toMany often firstOf lastOf unlikes unlikeMany isCandidate modes fewest z6 _ _ _ (lv_sub hl [1, 2, 3, 0] rfl) hP hD hS h hk30
      obtain ⟨z9, ez9, h⟩ := e_b h
      refine hL30 FU x2 x3 x1 0 tape taped value weight many block ties lines pastValue pastWeight pastMany undos fresh newValue newWeight newMany newBlock newTies newLines hasBlock hasTies size att place sort number fault faultPlace lastFault lastPlace q5.1 q5.2.1 q5.2.2 often firstOf lastOf unlikes unlikeMany isCandidate modes fewest z9 _ _ _ (lv_sub hl [1, 3, 4, 0] rfl) hP hD hS ez9 (fun ls H locs hl hP hD hS => ?_)
      refine lv_aload_n hx hb dX6_fill_50 rfl (lv_at hl 0 rfl) ?_
      obtain ⟨q10, eq10, h⟩ := e_b h
      refine xv_i0 (As := []) (rest := []) (ci := 6) (b := ad 0) ⟨hx, hb, hml, hown, hts⟩ hl.1 (kX6_done l D cA ad 0 tape taped value weight many block ties lines pastValue pastWeight pastMany undos fresh newValue newWeight newMany newBlock newTies newLines hasBlock hasTies size att place sort number fault faultPlace lastFault lastPlace z9 q5.2.1 q5.2.2 often firstOf lastOf unlikes unlikeMany isCandidate modes fewest   _ eq10) (cwV 0 hts gX6_fill_X6_done rfl rfl rfl (by decide +kernel) ⟨Nat.le_of_ble_eq_true rfl, Nat.le_of_ble_eq_true rfl⟩) rfl hK hP hD hS hA 0 rfl rfl rfl rfl (Nat.le_of_ble_eq_true rfl) dX6_fill_51 ⟨Nat.zero_le _, Nat.zero_le _⟩ (fun H locs hP hD hS hnq10 => ?_)
      have hP : va_P D vwCl (wX6 cA ad 0 tape taped q10.2.1 q10.2.2.1 q10.2.2.2.1 block ties lines q10.2.2.2.2.1 q10.2.2.2.2.2.1 q10.2.2.2.2.2.2.1 q10.2.2.2.2.2.2.2.1 q10.2.2.2.2.2.2.2.2 newValue newWeight newMany newBlock newTies newLines hasBlock hasTies size att place sort number fault faultPlace lastFault lastPlace z9 q5.2.1 q5.2.2 often firstOf lastOf unlikes unlikeMany isCandidate modes fewest) H := hP
      have hD : va_D A (wX6 cA ad 0 tape taped q10.2.1 q10.2.2.1 q10.2.2.2.1 block ties lines q10.2.2.2.2.1 q10.2.2.2.2.2.1 q10.2.2.2.2.2.2.1 q10.2.2.2.2.2.2.2.1 q10.2.2.2.2.2.2.2.2 newValue newWeight newMany newBlock newTies newLines hasBlock hasTies size att place sort number fault faultPlace lastFault lastPlace z9 q5.2.1 q5.2.2 often firstOf lastOf unlikes unlikeMany isCandidate modes fewest) := hD
      obtain rfl := e_s h
      exact hret hP hS rfl dX6_fill_54
    · have h := e_f (not_not_intro c4) h
      refine lv_iconst (v := (-1)) hx hb dX6_fill_21 (by decide) ?_
      obtain rfl := e_s h
      exact hret hP hS rfl dX6_fill_22
set_option maxHeartbeats 4000000 in
set_option maxRecDepth 100000 in
theorem kX6_lies (l : Launch) (D : va_G) (cA : Nat → ClassId) (ad : Nat → Nat) (thrown : Int32) (tape : Nat → Int32) (taped : Int32) (value : Nat → Int32) (weight : Nat → Int32) (many : Int32) (block : Int32) (ties : Int32) (lines : Int32) (pastValue : Nat → Int32) (pastWeight : Nat → Int32) (pastMany : Nat → Int32) (undos : Int32) (fresh : Int32) (newValue : Nat → Int32) (newWeight : Nat → Int32) (newMany : Int32) (newBlock : Int32) (newTies : Int32) (newLines : Int32) (hasBlock : Int32) (hasTies : Int32) (size : Int32) (att : Int32) (place : Int32) (sort : Int32) (number : Int32) (fault : Int32) (faultPlace : Int32) (lastFault : Int32) (lastPlace : Int32) (toValue : Nat → Int32) (toWeight : Nat → Int32) (toMany : Int32) (often : Nat → Int32) (firstOf : Nat → Int32) (lastOf : Nat → Int32) (unlikes : Nat → Int32) (unlikeMany : Int32) (isCandidate : Nat → Int32) (modes : Nat → Int32) (fewest : Nat → Int32) (x1 : Int32) (x2 : Int32) (q : (Nat → Int32) × (Nat → Int32)) (h : mX6_lies value weight toValue toWeight x1 x2 = some q) : MV l yX6_lies wsX6_lies { frames := 0, cells := 0, slots := 0, locals := 0 } D cA [.ref (ad 0), .int x1, .int x2] (wX6 cA ad thrown tape taped value weight many block ties lines pastValue pastWeight pastMany undos fresh newValue newWeight newMany newBlock newTies newLines hasBlock hasTies size att place sort number fault faultPlace lastFault lastPlace toValue toWeight toMany often firstOf lastOf unlikes unlikeMany isCandidate modes fewest) (wX6 cA ad thrown tape taped value weight many block ties lines pastValue pastWeight pastMany undos fresh newValue newWeight newMany newBlock newTies newLines hasBlock hasTies size att place sort number fault faultPlace lastFault lastPlace q.1 q.2 toMany often firstOf lastOf unlikes unlikeMany isCandidate modes fewest) := by
  refine MV.of (cc := cX6_lies) (maxL := 3) (by decide) rfl rfl rfl (Nat.le_of_ble_eq_true rfl) ?_
  intro p e s m args below meth c A ls Q hx hb hml hts hown hK hP hD hA hS hl hret
  have hl : lv_has ls 3 [(0, .ref (ad 0)), (1, .int x1), (2, .int x2)] := hl
  have f13 := hts (.fieldLink RX6 13 "ModeDeskModel" "value" "[I") (by decide +kernel)
  have f16 := hts (.fieldLink RX6 16 "ModeDeskModel" "weight" "[I") (by decide +kernel)
  have f41 := hts (.fieldLink RX6 41 "ModeDeskModel" "toValue" "[I") (by decide +kernel)
  have f44 := hts (.fieldLink RX6 44 "ModeDeskModel" "toWeight" "[I") (by decide +kernel)
  have iX6 : ∀ w ∈ wsX60, w ∈ wsX6_lies := by decide +kernel
  unfold mX6_lies at h
  refine lv_aload_n hx hb dX6_lies_0 rfl (lv_at hl 0 rfl) ?_
  refine va_get (D := D) (ci := 6) (v := .ref (ad 9)) (C := RX6) (T := TX6) (N := 42) hx hb hts iX6 hown hK hP 0 rfl rfl 31 (Nat.le_of_ble_eq_true rfl) f41 (fun _ h9 => h9) rfl dX6_lies_1 ?_
  refine lv_iload_n hx hb dX6_lies_4 rfl (lv_at hl 2 rfl) ?_
  refine lv_aload_n hx hb dX6_lies_5 rfl (lv_at hl 0 rfl) ?_
  refine va_get (D := D) (ci := 6) (v := .ref (ad 2)) (C := RX6) (T := TX6) (N := 42) hx hb hts iX6 hown hK hP 0 rfl rfl 3 (Nat.le_of_ble_eq_true rfl) f13 (fun _ h9 => h9) rfl dX6_lies_6 ?_
  refine lv_iload_n hx hb dX6_lies_9 rfl (lv_at hl 1 rfl) ?_
  obtain ⟨v1, ev1, nv1, h⟩ := e_rd h
  refine xa_iald hx hb hK hP 2 rfl nv1 ev1 dX6_lies_10 ?_
  obtain ⟨a2, ea2, na2, h⟩ := e_wr h
  refine xa_iast hx hb hK hP hD hS 9 rfl na2 ea2 dX6_lies_11 (fun H locs hP hD hS => ?_)
  have hP : va_P D vwCl (wX6 cA ad thrown tape taped value weight many block ties lines pastValue pastWeight pastMany undos fresh newValue newWeight newMany newBlock newTies newLines hasBlock hasTies size att place sort number fault faultPlace lastFault lastPlace a2 toWeight toMany often firstOf lastOf unlikes unlikeMany isCandidate modes fewest) H := hP
  have hD : va_D A (wX6 cA ad thrown tape taped value weight many block ties lines pastValue pastWeight pastMany undos fresh newValue newWeight newMany newBlock newTies newLines hasBlock hasTies size att place sort number fault faultPlace lastFault lastPlace a2 toWeight toMany often firstOf lastOf unlikes unlikeMany isCandidate modes fewest) := hD
  refine lv_aload_n hx hb dX6_lies_12 rfl (lv_at hl 0 rfl) ?_
  refine va_get (D := D) (ci := 6) (v := .ref (ad 10)) (C := RX6) (T := TX6) (N := 42) hx hb hts iX6 hown hK hP 0 rfl rfl 32 (Nat.le_of_ble_eq_true rfl) f44 (fun _ h9 => h9) rfl dX6_lies_13 ?_
  refine lv_iload_n hx hb dX6_lies_16 rfl (lv_at hl 2 rfl) ?_
  refine lv_aload_n hx hb dX6_lies_17 rfl (lv_at hl 0 rfl) ?_
  refine va_get (D := D) (ci := 6) (v := .ref (ad 3)) (C := RX6) (T := TX6) (N := 42) hx hb hts iX6 hown hK hP 0 rfl rfl 4 (Nat.le_of_ble_eq_true rfl) f16 (fun _ h9 => h9) rfl dX6_lies_18 ?_
  refine lv_iload_n hx hb dX6_lies_21 rfl (lv_at hl 1 rfl) ?_
  obtain ⟨v3, ev3, nv3, h⟩ := e_rd h
  refine xa_iald hx hb hK hP 3 rfl nv3 ev3 dX6_lies_22 ?_
  obtain ⟨a4, ea4, na4, h⟩ := e_wr h
  refine xa_iast hx hb hK hP hD hS 10 rfl na4 ea4 dX6_lies_23 (fun H locs hP hD hS => ?_)
  have hP : va_P D vwCl (wX6 cA ad thrown tape taped value weight many block ties lines pastValue pastWeight pastMany undos fresh newValue newWeight newMany newBlock newTies newLines hasBlock hasTies size att place sort number fault faultPlace lastFault lastPlace a2 a4 toMany often firstOf lastOf unlikes unlikeMany isCandidate modes fewest) H := hP
  have hD : va_D A (wX6 cA ad thrown tape taped value weight many block ties lines pastValue pastWeight pastMany undos fresh newValue newWeight newMany newBlock newTies newLines hasBlock hasTies size att place sort number fault faultPlace lastFault lastPlace a2 a4 toMany often firstOf lastOf unlikes unlikeMany isCandidate modes fewest) := hD
  obtain rfl := e_s h
  exact hret hP hS dX6_lies_24
set_option maxHeartbeats 4000000 in
set_option maxRecDepth 100000 in
theorem kX6_swap (l : Launch) (D : va_G) (cA : Nat → ClassId) (ad : Nat → Nat) (thrown : Int32) (tape : Nat → Int32) (taped : Int32) (value : Nat → Int32) (weight : Nat → Int32) (many : Int32) (block : Int32) (ties : Int32) (lines : Int32) (pastValue : Nat → Int32) (pastWeight : Nat → Int32) (pastMany : Nat → Int32) (undos : Int32) (fresh : Int32) (newValue : Nat → Int32) (newWeight : Nat → Int32) (newMany : Int32) (newBlock : Int32) (newTies : Int32) (newLines : Int32) (hasBlock : Int32) (hasTies : Int32) (size : Int32) (att : Int32) (place : Int32) (sort : Int32) (number : Int32) (fault : Int32) (faultPlace : Int32) (lastFault : Int32) (lastPlace : Int32) (toValue : Nat → Int32) (toWeight : Nat → Int32) (toMany : Int32) (often : Nat → Int32) (firstOf : Nat → Int32) (lastOf : Nat → Int32) (unlikes : Nat → Int32) (unlikeMany : Int32) (isCandidate : Nat → Int32) (modes : Nat → Int32) (fewest : Nat → Int32) (x1 : Int32) (x2 : Int32) (q : Int32 × Int32 × (Nat → Int32) × (Nat → Int32) × Int32 × (Nat → Int32) × (Nat → Int32) × (Nat → Int32) × Int32 × Int32 × (Nat → Int32) × (Nat → Int32) × Int32) (h : mX6_swap thrown value weight many block pastValue pastWeight pastMany undos fresh toValue toWeight toMany x1 x2 = some q) : MI l yX6_swap wsX6_swap { frames := 5, cells := 0, slots := 0, locals := 112 } D cA .boolean [.ref (ad 0), .int x1, .int x2] (wX6 cA ad thrown tape taped value weight many block ties lines pastValue pastWeight pastMany undos fresh newValue newWeight newMany newBlock newTies newLines hasBlock hasTies size att place sort number fault faultPlace lastFault lastPlace toValue toWeight toMany often firstOf lastOf unlikes unlikeMany isCandidate modes fewest) (wX6 cA ad q.2.1 tape taped q.2.2.1 q.2.2.2.1 q.2.2.2.2.1 block ties lines q.2.2.2.2.2.1 q.2.2.2.2.2.2.1 q.2.2.2.2.2.2.2.1 q.2.2.2.2.2.2.2.2.1 q.2.2.2.2.2.2.2.2.2.1 newValue newWeight newMany newBlock newTies newLines hasBlock hasTies size att place sort number fault faultPlace lastFault lastPlace q.2.2.2.2.2.2.2.2.2.2.1 q.2.2.2.2.2.2.2.2.2.2.2.1 q.2.2.2.2.2.2.2.2.2.2.2.2 often firstOf lastOf unlikes unlikeMany isCandidate modes fewest) q.1 := by
  refine MI.of (cc := cX6_swap) (maxL := 3) (by decide +kernel) rfl rfl rfl (Nat.le_of_ble_eq_true rfl) ?_
  intro p e s m args below meth c A ls Q hx hb hml hts hown hK hP hD hA hS hl hret
  have hl : lv_has ls 3 [(0, .ref (ad 0)), (1, .int x1), (2, .int x2)] := hl
  have f72 := hts (.fieldLink RX6 72 "ModeDeskModel" "thrown" "I") (by decide +kernel)
  have iX6 : ∀ w ∈ wsX60, w ∈ wsX6_swap := by decide +kernel
  unfold mX6_swap at h
  refine lv_aload_n hx hb dX6_swap_0 rfl (lv_at hl 0 rfl) ?_
  refine lv_iconst (v := 0) hx hb dX6_swap_1 (by decide) ?_
  refine va_put (D := D) (ci := 6) (v := .int 0) (ty := .int) (C := RX6) (T := TX6) (N := 42) hx hb hts iX6 tyX6 tyX6_ok nmX6 hown hK hP hD hS 0 rfl rfl 0 (Nat.le_of_ble_eq_true rfl) f72 (fun _ h9 => h9) rfl (tyX6_ok 0 (Nat.le_of_ble_eq_true rfl)) rfl rfl (Nat.le_of_ble_eq_true rfl) dX6_swap_2 (fun H locs hP hD hS => ?_)
  have hP : va_P D vwCl (wX6 cA ad 0 tape taped value weight many block ties lines pastValue pastWeight pastMany undos fresh newValue newWeight newMany newBlock newTies newLines hasBlock hasTies size att place sort number fault faultPlace lastFault lastPlace toValue toWeight toMany often firstOf lastOf unlikes unlikeMany isCandidate modes fewest) H := hP
  have hD : va_D A (wX6 cA ad 0 tape taped value weight many block ties lines pastValue pastWeight pastMany undos fresh newValue newWeight newMany newBlock newTies newLines hasBlock hasTies size att place sort number fault faultPlace lastFault lastPlace toValue toWeight toMany often firstOf lastOf unlikes unlikeMany isCandidate modes fewest) := hD
  refine lv_aload_n hx hb dX6_swap_5 rfl (lv_at hl 0 rfl) ?_
  refine lv_iload_n hx hb dX6_swap_6 rfl (lv_at hl 1 rfl) ?_
  obtain ⟨q1, eq1, h⟩ := e_b h
  refine xv_i0 (As := [.int x1]) (rest := []) (ci := 6) (b := ad 0) ⟨hx, hb, hml, hown, hts⟩ hl.1 (kX6_isPlace l D cA ad 0 tape taped value weight many block ties lines pastValue pastWeight pastMany undos fresh newValue newWeight newMany newBlock newTies newLines hasBlock hasTies size att place sort number fault faultPlace lastFault lastPlace toValue toWeight toMany often firstOf lastOf unlikes unlikeMany isCandidate modes fewest x1  _ eq1) (cwV 1 hts gX6_swap_X6_isPlace rfl rfl rfl (by decide +kernel) ⟨Nat.le_of_ble_eq_true rfl, Nat.le_of_ble_eq_true rfl⟩) rfl hK hP hD hS hA 0 rfl rfl rfl rfl (Nat.le_of_ble_eq_true rfl) dX6_swap_7 ⟨Nat.zero_le _, Nat.zero_le _⟩ (fun H locs hP hD hS hnq1 => ?_)
  have hP : va_P D vwCl (wX6 cA ad 0 tape taped value weight many block ties lines pastValue pastWeight pastMany undos fresh newValue newWeight newMany newBlock newTies newLines hasBlock hasTies size att place sort number fault faultPlace lastFault lastPlace toValue toWeight toMany often firstOf lastOf unlikes unlikeMany isCandidate modes fewest) H := hP
  have hD : va_D A (wX6 cA ad 0 tape taped value weight many block ties lines pastValue pastWeight pastMany undos fresh newValue newWeight newMany newBlock newTies newLines hasBlock hasTies size att place sort number fault faultPlace lastFault lastPlace toValue toWeight toMany often firstOf lastOf unlikes unlikeMany isCandidate modes fewest) := hD
  refine lv_if_eq (tgt := 26) hx hb dX6_swap_10 (by decide) (fun c2 => ?_) (fun c2 => ?_)
  · have h := e_t c2 h
    refine lv_iconst (v := 0) hx hb dX6_swap_26 (by decide) ?_
    obtain rfl := e_s h
    exact hret hP hS (show narrow .boolean (.int 0) = .int 0 from rfl) dX6_swap_27
  · have h := e_f c2 h
    refine lv_aload_n hx hb dX6_swap_13 rfl (lv_at hl 0 rfl) ?_
    refine lv_iload_n hx hb dX6_swap_14 rfl (lv_at hl 2 rfl) ?_
    obtain ⟨q3, eq3, h⟩ := e_b h
    refine xv_i0 (As := [.int x2]) (rest := []) (ci := 6) (b := ad 0) ⟨hx, hb, hml, hown, hts⟩ hl.1 (kX6_isPlace l D cA ad 0 tape taped value weight many block ties lines pastValue pastWeight pastMany undos fresh newValue newWeight newMany newBlock newTies newLines hasBlock hasTies size att place sort number fault faultPlace lastFault lastPlace toValue toWeight toMany often firstOf lastOf unlikes unlikeMany isCandidate modes fewest x2  _ eq3) (cwV 1 hts gX6_swap_X6_isPlace rfl rfl rfl (by decide +kernel) ⟨Nat.le_of_ble_eq_true rfl, Nat.le_of_ble_eq_true rfl⟩) rfl hK hP hD hS hA 0 rfl rfl rfl rfl (Nat.le_of_ble_eq_true rfl) dX6_swap_15 ⟨Nat.zero_le _, Nat.zero_le _⟩ (fun H locs hP hD hS hnq3 => ?_)
    have hP : va_P D vwCl (wX6 cA ad 0 tape taped value weight many block ties lines pastValue pastWeight pastMany undos fresh newValue newWeight newMany newBlock newTies newLines hasBlock hasTies size att place sort number fault faultPlace lastFault lastPlace toValue toWeight toMany often firstOf lastOf unlikes unlikeMany isCandidate modes fewest) H := hP
    have hD : va_D A (wX6 cA ad 0 tape taped value weight many block ties lines pastValue pastWeight pastMany undos fresh newValue newWeight newMany newBlock newTies newLines hasBlock hasTies size att place sort number fault faultPlace lastFault lastPlace toValue toWeight toMany often firstOf lastOf unlikes unlikeMany isCandidate modes fewest) := hD
    refine lv_if_eq (tgt := 26) hx hb dX6_swap_18 (by decide) (fun c4 => ?_) (fun c4 => ?_)
    · have h := e_t c4 h
      refine lv_iconst (v := 0) hx hb dX6_swap_26 (by decide) ?_
      obtain rfl := e_s h
      exact hret hP hS (show narrow .boolean (.int 0) = .int 0 from rfl) dX6_swap_27
    · have h := e_f c4 h
      refine lv_iload_n hx hb dX6_swap_21 rfl (lv_at hl 1 rfl) ?_
      refine lv_iload_n hx hb dX6_swap_22 rfl (lv_at hl 2 rfl) ?_
      refine lv_icmp_ne (tgt := 28) hx hb dX6_swap_23 (by decide) (fun c5 => ?_) (fun c5 => ?_)
      · have h := e_t c5 h
        refine lv_aload_n hx hb dX6_swap_28 rfl (lv_at hl 0 rfl) ?_
        obtain ⟨q6, eq6, h⟩ := e_b h
        refine xv_v0 (As := []) (rest := []) (ci := 6) (b := ad 0) ⟨hx, hb, hml, hown, hts⟩ hl.1 (kX6_begins l D cA ad 0 tape taped value weight many block ties lines pastValue pastWeight pastMany undos fresh newValue newWeight newMany newBlock newTies newLines hasBlock hasTies size att place sort number fault faultPlace lastFault lastPlace toValue toWeight toMany often firstOf lastOf unlikes unlikeMany isCandidate modes fewest   _ eq6) (cwV 0 hts gX6_swap_X6_begins rfl rfl rfl (by decide +kernel) ⟨Nat.le_of_ble_eq_true rfl, Nat.le_of_ble_eq_true rfl⟩) rfl hK hP hD hS hA 0 rfl rfl rfl rfl (Nat.le_of_ble_eq_true rfl) dX6_swap_29 ⟨Nat.zero_le _, Nat.zero_le _⟩ (fun H locs hP hD hS => ?_)
        have hP : va_P D vwCl (wX6 cA ad 0 tape taped value weight many block ties lines pastValue pastWeight pastMany undos fresh newValue newWeight newMany newBlock newTies newLines hasBlock hasTies size att place sort number fault faultPlace lastFault lastPlace q6.1 q6.2.1 q6.2.2 often firstOf lastOf unlikes unlikeMany isCandidate modes fewest) H := hP
        have hD : va_D A (wX6 cA ad 0 tape taped value weight many block ties lines pastValue pastWeight pastMany undos fresh newValue newWeight newMany newBlock newTies newLines hasBlock hasTies size att place sort number fault faultPlace lastFault lastPlace q6.1 q6.2.1 q6.2.2 often firstOf lastOf unlikes unlikeMany isCandidate modes fewest) := hD
        refine lv_aload_n hx hb dX6_swap_32 rfl (lv_at hl 0 rfl) ?_
        refine lv_iload_n hx hb dX6_swap_33 rfl (lv_at hl 1 rfl) ?_
        refine lv_iload_n hx hb dX6_swap_34 rfl (lv_at hl 2 rfl) ?_
        obtain ⟨q7, eq7, h⟩ := e_b h
        refine xv_v0 (As := [.int x1, .int x2]) (rest := []) (ci := 6) (b := ad 0) ⟨hx, hb, hml, hown, hts⟩ hl.1 (kX6_lies l D cA ad 0 tape taped value weight many block ties lines pastValue pastWeight pastMany undos fresh newValue newWeight newMany newBlock newTies newLines hasBlock hasTies size att place sort number fault faultPlace lastFault lastPlace q6.1 q6.2.1 q6.2.2 often firstOf lastOf unlikes unlikeMany isCandidate modes fewest x1 x2  _ eq7) (cwV 2 hts gX6_swap_X6_lies rfl rfl rfl (by decide +kernel) ⟨Nat.le_of_ble_eq_true rfl, Nat.le_of_ble_eq_true rfl⟩) rfl hK hP hD hS hA 0 rfl rfl rfl rfl (Nat.le_of_ble_eq_true rfl) dX6_swap_35 ⟨Nat.zero_le _, Nat.zero_le _⟩ (fun H locs hP hD hS => ?_)
        have hP : va_P D vwCl (wX6 cA ad 0 tape taped value weight many block ties lines pastValue pastWeight pastMany undos fresh newValue newWeight newMany newBlock newTies newLines hasBlock hasTies size att place sort number fault faultPlace lastFault lastPlace q7.1 q7.2 q6.2.2 often firstOf lastOf unlikes unlikeMany isCandidate modes fewest) H := hP
        have hD : va_D A (wX6 cA ad 0 tape taped value weight many block ties lines pastValue pastWeight pastMany undos fresh newValue newWeight newMany newBlock newTies newLines hasBlock hasTies size att place sort number fault faultPlace lastFault lastPlace q7.1 q7.2 q6.2.2 often firstOf lastOf unlikes unlikeMany isCandidate modes fewest) := hD
        refine lv_aload_n hx hb dX6_swap_38 rfl (lv_at hl 0 rfl) ?_
        refine lv_iload_n hx hb dX6_swap_39 rfl (lv_at hl 2 rfl) ?_
        refine lv_iload_n hx hb dX6_swap_40 rfl (lv_at hl 1 rfl) ?_
        obtain ⟨q8, eq8, h⟩ := e_b h
        refine xv_v0 (As := [.int x2, .int x1]) (rest := []) (ci := 6) (b := ad 0) ⟨hx, hb, hml, hown, hts⟩ hl.1 (kX6_lies l D cA ad 0 tape taped value weight many block ties lines pastValue pastWeight pastMany undos fresh newValue newWeight newMany newBlock newTies newLines hasBlock hasTies size att place sort number fault faultPlace lastFault lastPlace q7.1 q7.2 q6.2.2 often firstOf lastOf unlikes unlikeMany isCandidate modes fewest x2 x1  _ eq8) (cwV 2 hts gX6_swap_X6_lies rfl rfl rfl (by decide +kernel) ⟨Nat.le_of_ble_eq_true rfl, Nat.le_of_ble_eq_true rfl⟩) rfl hK hP hD hS hA 0 rfl rfl rfl rfl (Nat.le_of_ble_eq_true rfl) dX6_swap_41 ⟨Nat.zero_le _, Nat.zero_le _⟩ (fun H locs hP hD hS => ?_)
        have hP : va_P D vwCl (wX6 cA ad 0 tape taped value weight many block ties lines pastValue pastWeight pastMany undos fresh newValue newWeight newMany newBlock newTies newLines hasBlock hasTies size att place sort number fault faultPlace lastFault lastPlace q8.1 q8.2 q6.2.2 often firstOf lastOf unlikes unlikeMany isCandidate modes fewest) H := hP
        have hD : va_D A (wX6 cA ad 0 tape taped value weight many block ties lines pastValue pastWeight pastMany undos fresh newValue newWeight newMany newBlock newTies newLines hasBlock hasTies size att place sort number fault faultPlace lastFault lastPlace q8.1 q8.2 q6.2.2 often firstOf lastOf unlikes unlikeMany isCandidate modes fewest) := hD
        refine lv_aload_n hx hb dX6_swap_44 rfl (lv_at hl 0 rfl) ?_
        obtain ⟨q9, eq9, h⟩ := e_b h
        refine xv_v0 (As := []) (rest := []) (ci := 6) (b := ad 0) ⟨hx, hb, hml, hown, hts⟩ hl.1 (kX6_edits l D cA ad 0 tape taped value weight many block ties lines pastValue pastWeight pastMany undos fresh newValue newWeight newMany newBlock newTies newLines hasBlock hasTies size att place sort number fault faultPlace lastFault lastPlace q8.1 q8.2 q6.2.2 often firstOf lastOf unlikes unlikeMany isCandidate modes fewest   _ eq9) (cwV 0 hts gX6_swap_X6_edits rfl rfl rfl (by decide +kernel) ⟨Nat.le_of_ble_eq_true rfl, Nat.le_of_ble_eq_true rfl⟩) rfl hK hP hD hS hA 0 rfl rfl rfl rfl (Nat.le_of_ble_eq_true rfl) dX6_swap_45 ⟨Nat.zero_le _, Nat.zero_le _⟩ (fun H locs hP hD hS => ?_)
        have hP : va_P D vwCl (wX6 cA ad 0 tape taped q9.1 q9.2.1 q9.2.2.1 block ties lines q9.2.2.2.1 q9.2.2.2.2.1 q9.2.2.2.2.2.1 q9.2.2.2.2.2.2.1 q9.2.2.2.2.2.2.2 newValue newWeight newMany newBlock newTies newLines hasBlock hasTies size att place sort number fault faultPlace lastFault lastPlace q8.1 q8.2 q6.2.2 often firstOf lastOf unlikes unlikeMany isCandidate modes fewest) H := hP
        have hD : va_D A (wX6 cA ad 0 tape taped q9.1 q9.2.1 q9.2.2.1 block ties lines q9.2.2.2.1 q9.2.2.2.2.1 q9.2.2.2.2.2.1 q9.2.2.2.2.2.2.1 q9.2.2.2.2.2.2.2 newValue newWeight newMany newBlock newTies newLines hasBlock hasTies size att place sort number fault faultPlace lastFault lastPlace q8.1 q8.2 q6.2.2 often firstOf lastOf unlikes unlikeMany isCandidate modes fewest) := hD
        refine lv_iconst (v := 1) hx hb dX6_swap_48 (by decide) ?_
        obtain rfl := e_s h
        exact hret hP hS (show narrow .boolean (.int 1) = .int 1 from rfl) dX6_swap_49
      · have h := e_f (not_not_intro c5) h
        refine lv_iconst (v := 0) hx hb dX6_swap_26 (by decide) ?_
        obtain rfl := e_s h
        exact hret hP hS (show narrow .boolean (.int 0) = .int 0 from rfl) dX6_swap_27
set_option maxHeartbeats 4000000 in
set_option maxRecDepth 100000 in
theorem kX6_flip (l : Launch) (D : va_G) (cA : Nat → ClassId) (ad : Nat → Nat) (thrown : Int32) (tape : Nat → Int32) (taped : Int32) (value : Nat → Int32) (weight : Nat → Int32) (many : Int32) (block : Int32) (ties : Int32) (lines : Int32) (pastValue : Nat → Int32) (pastWeight : Nat → Int32) (pastMany : Nat → Int32) (undos : Int32) (fresh : Int32) (newValue : Nat → Int32) (newWeight : Nat → Int32) (newMany : Int32) (newBlock : Int32) (newTies : Int32) (newLines : Int32) (hasBlock : Int32) (hasTies : Int32) (size : Int32) (att : Int32) (place : Int32) (sort : Int32) (number : Int32) (fault : Int32) (faultPlace : Int32) (lastFault : Int32) (lastPlace : Int32) (toValue : Nat → Int32) (toWeight : Nat → Int32) (toMany : Int32) (often : Nat → Int32) (firstOf : Nat → Int32) (lastOf : Nat → Int32) (unlikes : Nat → Int32) (unlikeMany : Int32) (isCandidate : Nat → Int32) (modes : Nat → Int32) (fewest : Nat → Int32) (x1 : Int32) (x2 : Int32) (q : Int32 × Int32 × (Nat → Int32) × (Nat → Int32) × Int32 × (Nat → Int32) × (Nat → Int32) × (Nat → Int32) × Int32 × Int32 × (Nat → Int32) × (Nat → Int32) × Int32) (h : mX6_flip thrown value weight many block pastValue pastWeight pastMany undos fresh toValue toWeight toMany x1 x2 = some q) : MI l yX6_flip wsX6_flip { frames := 6, cells := 0, slots := 0, locals := 133 } D cA .int [.ref (ad 0), .int x1, .int x2] (wX6 cA ad thrown tape taped value weight many block ties lines pastValue pastWeight pastMany undos fresh newValue newWeight newMany newBlock newTies newLines hasBlock hasTies size att place sort number fault faultPlace lastFault lastPlace toValue toWeight toMany often firstOf lastOf unlikes unlikeMany isCandidate modes fewest) (wX6 cA ad q.2.1 tape taped q.2.2.1 q.2.2.2.1 q.2.2.2.2.1 block ties lines q.2.2.2.2.2.1 q.2.2.2.2.2.2.1 q.2.2.2.2.2.2.2.1 q.2.2.2.2.2.2.2.2.1 q.2.2.2.2.2.2.2.2.2.1 newValue newWeight newMany newBlock newTies newLines hasBlock hasTies size att place sort number fault faultPlace lastFault lastPlace q.2.2.2.2.2.2.2.2.2.2.1 q.2.2.2.2.2.2.2.2.2.2.2.1 q.2.2.2.2.2.2.2.2.2.2.2.2 often firstOf lastOf unlikes unlikeMany isCandidate modes fewest) q.1 := by
  refine MI.of (cc := cX6_flip) (maxL := 4) (by decide +kernel) rfl rfl rfl (Nat.le_of_ble_eq_true rfl) ?_
  intro p e s m args below meth c A ls Q hx hb hml hts hown hK hP hD hA hS hl hret
  have hl : lv_has ls 4 [(0, .ref (ad 0)), (1, .int x1), (2, .int x2)] := hl
  have f72 := hts (.fieldLink RX6 72 "ModeDeskModel" "thrown" "I") (by decide +kernel)
  have iX6 : ∀ w ∈ wsX60, w ∈ wsX6_flip := by decide +kernel
  unfold mX6_flip at h
  refine lv_aload_n hx hb dX6_flip_0 rfl (lv_at hl 0 rfl) ?_
  refine lv_iconst (v := 0) hx hb dX6_flip_1 (by decide) ?_
  refine va_put (D := D) (ci := 6) (v := .int 0) (ty := .int) (C := RX6) (T := TX6) (N := 42) hx hb hts iX6 tyX6 tyX6_ok nmX6 hown hK hP hD hS 0 rfl rfl 0 (Nat.le_of_ble_eq_true rfl) f72 (fun _ h9 => h9) rfl (tyX6_ok 0 (Nat.le_of_ble_eq_true rfl)) rfl rfl (Nat.le_of_ble_eq_true rfl) dX6_flip_2 (fun H locs hP hD hS => ?_)
  have hP : va_P D vwCl (wX6 cA ad 0 tape taped value weight many block ties lines pastValue pastWeight pastMany undos fresh newValue newWeight newMany newBlock newTies newLines hasBlock hasTies size att place sort number fault faultPlace lastFault lastPlace toValue toWeight toMany often firstOf lastOf unlikes unlikeMany isCandidate modes fewest) H := hP
  have hD : va_D A (wX6 cA ad 0 tape taped value weight many block ties lines pastValue pastWeight pastMany undos fresh newValue newWeight newMany newBlock newTies newLines hasBlock hasTies size att place sort number fault faultPlace lastFault lastPlace toValue toWeight toMany often firstOf lastOf unlikes unlikeMany isCandidate modes fewest) := hD
  refine lv_aload_n hx hb dX6_flip_5 rfl (lv_at hl 0 rfl) ?_
  refine lv_iload_n hx hb dX6_flip_6 rfl (lv_at hl 1 rfl) ?_
  refine lv_iload_n hx hb dX6_flip_7 rfl (lv_at hl 2 rfl) ?_
  obtain ⟨q1, eq1, h⟩ := e_b h
  refine xv_i0 (As := [.int x1, .int x2]) (rest := []) (ci := 6) (b := ad 0) ⟨hx, hb, hml, hown, hts⟩ hl.1 (kX6_isSpan l D cA ad 0 tape taped value weight many block ties lines pastValue pastWeight pastMany undos fresh newValue newWeight newMany newBlock newTies newLines hasBlock hasTies size att place sort number fault faultPlace lastFault lastPlace toValue toWeight toMany often firstOf lastOf unlikes unlikeMany isCandidate modes fewest x1 x2  _ eq1) (cwV 2 hts gX6_flip_X6_isSpan rfl rfl rfl (by decide +kernel) ⟨Nat.le_of_ble_eq_true rfl, Nat.le_of_ble_eq_true rfl⟩) rfl hK hP hD hS hA 0 rfl rfl rfl rfl (Nat.le_of_ble_eq_true rfl) dX6_flip_8 ⟨Nat.zero_le _, Nat.zero_le _⟩ (fun H locs hP hD hS hnq1 => ?_)
  have hP : va_P D vwCl (wX6 cA ad 0 tape taped value weight many block ties lines pastValue pastWeight pastMany undos fresh newValue newWeight newMany newBlock newTies newLines hasBlock hasTies size att place sort number fault faultPlace lastFault lastPlace toValue toWeight toMany often firstOf lastOf unlikes unlikeMany isCandidate modes fewest) H := hP
  have hD : va_D A (wX6 cA ad 0 tape taped value weight many block ties lines pastValue pastWeight pastMany undos fresh newValue newWeight newMany newBlock newTies newLines hasBlock hasTies size att place sort number fault faultPlace lastFault lastPlace toValue toWeight toMany often firstOf lastOf unlikes unlikeMany isCandidate modes fewest) := hD
  refine lv_if_ne (tgt := 16) hx hb dX6_flip_11 (by decide) (fun c2 => ?_) (fun c2 => ?_)
  · have h := e_t c2 h
    refine lv_aload_n hx hb dX6_flip_16 rfl (lv_at hl 0 rfl) ?_
    obtain ⟨q3, eq3, h⟩ := e_b h
    refine xv_v0 (As := []) (rest := []) (ci := 6) (b := ad 0) ⟨hx, hb, hml, hown, hts⟩ hl.1 (kX6_begins l D cA ad 0 tape taped value weight many block ties lines pastValue pastWeight pastMany undos fresh newValue newWeight newMany newBlock newTies newLines hasBlock hasTies size att place sort number fault faultPlace lastFault lastPlace toValue toWeight toMany often firstOf lastOf unlikes unlikeMany isCandidate modes fewest   _ eq3) (cwV 0 hts gX6_flip_X6_begins rfl rfl rfl (by decide +kernel) ⟨Nat.le_of_ble_eq_true rfl, Nat.le_of_ble_eq_true rfl⟩) rfl hK hP hD hS hA 0 rfl rfl rfl rfl (Nat.le_of_ble_eq_true rfl) dX6_flip_17 ⟨Nat.zero_le _, Nat.zero_le _⟩ (fun H locs hP hD hS => ?_)
    have hP : va_P D vwCl (wX6 cA ad 0 tape taped value weight many block ties lines pastValue pastWeight pastMany undos fresh newValue newWeight newMany newBlock newTies newLines hasBlock hasTies size att place sort number fault faultPlace lastFault lastPlace q3.1 q3.2.1 q3.2.2 often firstOf lastOf unlikes unlikeMany isCandidate modes fewest) H := hP
    have hD : va_D A (wX6 cA ad 0 tape taped value weight many block ties lines pastValue pastWeight pastMany undos fresh newValue newWeight newMany newBlock newTies newLines hasBlock hasTies size att place sort number fault faultPlace lastFault lastPlace q3.1 q3.2.1 q3.2.2 often firstOf lastOf unlikes unlikeMany isCandidate modes fewest) := hD
    refine lv_iload_n hx hb dX6_flip_20 rfl (lv_at hl 1 rfl) ?_
    refine lv_istore_n (lv' := [(3, .int x1), (0, .ref (ad 0)), (1, .int x1), (2, .int x2)]) hx hb dX6_flip_21 rfl hl (by decide) rfl (fun ls hl => ?_)
    have hL22 : ∀ (n : Nat) (x1 : Int32) (x2 : Int32) (x3 : Int32) (thrown : Int32) (tape : Nat → Int32) (taped : Int32) (value : Nat → Int32) (weight : Nat → Int32) (many : Int32) (block : Int32) (ties : Int32) (lines : Int32) (pastValue : Nat → Int32) (pastWeight : Nat → Int32) (pastMany : Nat → Int32) (undos : Int32) (fresh : Int32) (newValue : Nat → Int32) (newWeight : Nat → Int32) (newMany : Int32) (newBlock : Int32) (newTies : Int32) (newLines : Int32) (hasBlock : Int32) (hasTies : Int32) (size : Int32) (att : Int32) (place : Int32) (sort : Int32) (number : Int32) (fault : Int32) (faultPlace : Int32) (lastFault : Int32) (lastPlace : Int32) (toValue : Nat → Int32) (toWeight : Nat → Int32) (toMany : Int32) (often : Nat → Int32) (firstOf : Nat → Int32) (lastOf : Nat → Int32) (unlikes : Nat → Int32) (unlikeMany : Int32) (isCandidate : Nat → Int32) (modes : Nat → Int32) (fewest : Nat → Int32) (z4 : (Nat → Int32) × (Nat → Int32)) (ls : Array Slot) (H : Heap) (locs : List Loc), lv_has ls 4 [(0, .ref (ad 0)), (1, .int x1), (2, .int x2), (3, .int x3)] → va_P D vwCl (wX6 cA ad thrown tape taped value weight many block ties lines pastValue pastWeight pastMany undos fresh newValue newWeight newMany newBlock newTies newLines hasBlock hasTies size att place sort number fault faultPlace lastFault lastPlace toValue toWeight toMany often firstOf lastOf unlikes unlikeMany isCandidate modes fewest) H → va_D A (wX6 cA ad thrown tape taped value weight many block ties lines pastValue pastWeight pastMany undos fresh newValue newWeight newMany newBlock newTies newLines hasBlock hasTies size att place sort number fault faultPlace lastFault lastPlace toValue toWeight toMany often firstOf lastOf unlikes unlikeMany isCandidate modes fewest) → va_S A s.heap H locs → mX6_flip_L22 value weight x1 x2 n x3 toValue toWeight = some z4 → (∀ (ls : Array Slot) (H : Heap) (locs : List Loc), lv_has ls 4 [(0, .ref (ad 0))] → va_P D vwCl (wX6 cA ad thrown tape taped value weight many block ties lines pastValue pastWeight pastMany undos fresh newValue newWeight newMany newBlock newTies newLines hasBlock hasTies size att place sort number fault faultPlace lastFault lastPlace z4.1 z4.2 toMany often firstOf lastOf unlikes unlikeMany isCandidate modes fewest) H → va_D A (wX6 cA ad thrown tape taped value weight many block ties lines pastValue pastWeight pastMany undos fresh newValue newWeight newMany newBlock newTies newLines hasBlock hasTies size att place sort number fault faultPlace lastFault lastPlace z4.1 z4.2 toMany often firstOf lastOf unlikes unlikeMany isCandidate modes fewest) → va_S A s.heap H locs → W p l e (headSpec wsX6_flip { frames := 6, cells := 0, slots := 0, locals := 133 }).room s m args below meth c H locs 0 0 Q (F0 m 43 ls [])) → W p l e (headSpec wsX6_flip { frames := 6, cells := 0, slots := 0, locals := 133 }).room s m args below meth c H locs 0 0 Q (F0 m 22 ls []) := by
      intro n
      induction n with
      | zero => intro x1 x2 x3 thrown tape taped value weight many block ties lines pastValue pastWeight pastMany undos fresh newValue newWeight newMany newBlock newTies newLines hasBlock hasTies size att place sort number fault faultPlace lastFault lastPlace toValue toWeight toMany often firstOf lastOf unlikes unlikeMany isCandidate modes fewest z4 ls H locs hl hP hD hS h hk22; exact e_n h
      | succ n ih22 =>
        intro x1 x2 x3 thrown tape taped value weight many block ties lines pastValue pastWeight pastMany undos fresh newValue newWeight newMany newBlock newTies newLines hasBlock hasTies size att place sort number fault faultPlace lastFault lastPlace toValue toWeight toMany often firstOf lastOf unlikes unlikeMany isCandidate modes fewest z4 ls H locs hl hP hD hS h hk22
        rw [mX6_flip_L22.eq_2] at h
        refine lv_iload_n hx hb dX6_flip_22 rfl (lv_at hl 3 rfl) ?_
        refine lv_iload_n hx hb dX6_flip_23 rfl (lv_at hl 2 rfl) ?_
        refine lv_icmp_gt (tgt := 43) hx hb dX6_flip_24 (by decide) (fun c5 => ?_) (fun c5 => ?_)
        · have h := e_t c5 h
          obtain rfl := e_s h
          exact hk22 _ _ _ (lv_sub hl [0] rfl) hP hD hS
        · have h := e_f c5 h
          refine lv_aload_n hx hb dX6_flip_27 rfl (lv_at hl 0 rfl) ?_
          refine lv_iload_n hx hb dX6_flip_28 rfl (lv_at hl 3 rfl) ?_
          refine lv_iload_n hx hb dX6_flip_29 rfl (lv_at hl 1 rfl) ?_
          refine lv_iload_n hx hb dX6_flip_30 rfl (lv_at hl 2 rfl) ?_
          refine lv_iadd hx hb dX6_flip_31 ?_
          refine lv_iload_n hx hb dX6_flip_32 rfl (lv_at hl 3 rfl) ?_
          refine lv_isub hx hb dX6_flip_33 ?_
          obtain ⟨q6, eq6, h⟩ := e_b h
          refine xv_v0 (As := [.int x3, .int ((x1 + x2) - x3)]) (rest := []) (ci := 6) (b := ad 0) ⟨hx, hb, hml, hown, hts⟩ hl.1 (kX6_lies l D cA ad thrown tape taped value weight many block ties lines pastValue pastWeight pastMany undos fresh newValue newWeight newMany newBlock newTies newLines hasBlock hasTies size att place sort number fault faultPlace lastFault lastPlace toValue toWeight toMany often firstOf lastOf unlikes unlikeMany isCandidate modes fewest x3 ((x1 + x2) - x3)  _ eq6) (cwV 2 hts gX6_flip_X6_lies rfl rfl rfl (by decide +kernel) ⟨Nat.le_of_ble_eq_true rfl, Nat.le_of_ble_eq_true rfl⟩) rfl hK hP hD hS hA 0 rfl rfl rfl rfl (Nat.le_of_ble_eq_true rfl) dX6_flip_34 ⟨Nat.zero_le _, Nat.zero_le _⟩ (fun H locs hP hD hS => ?_)
          have hP : va_P D vwCl (wX6 cA ad thrown tape taped value weight many block ties lines pastValue pastWeight pastMany undos fresh newValue newWeight newMany newBlock newTies newLines hasBlock hasTies size att place sort number fault faultPlace lastFault lastPlace q6.1 q6.2 toMany often firstOf lastOf unlikes unlikeMany isCandidate modes fewest) H := hP
          have hD : va_D A (wX6 cA ad thrown tape taped value weight many block ties lines pastValue pastWeight pastMany undos fresh newValue newWeight newMany newBlock newTies newLines hasBlock hasTies size att place sort number fault faultPlace lastFault lastPlace q6.1 q6.2 toMany often firstOf lastOf unlikes unlikeMany isCandidate modes fewest) := hD
          refine lv_iinc (v := (x3 + 1)) (lv' := [(3, .int (x3 + 1)), (0, .ref (ad 0)), (1, .int x1), (2, .int x2)]) hx hb dX6_flip_37 hl (k := 3) rfl rfl (by decide) rfl (fun ls hl => ?_)
          refine lv_goto (tgt := 22) hx hb dX6_flip_40 (by decide) ?_
          exact ih22 x1 x2 (x3 + 1) thrown tape taped value weight many block ties lines pastValue pastWeight pastMany undos fresh newValue newWeight newMany newBlock newTies newLines hasBlock hasTies size att place sort number fault faultPlace lastFault lastPlace q6.1 q6.2 toMany often firstOf lastOf unlikes unlikeMany isCandidate modes fewest z4 _ _ _ (lv_sub hl [1, 2, 3, 0] rfl) hP hD hS h hk22
    obtain ⟨z7, ez7, h⟩ := e_b h
    refine hL22 FU x1 x2 x1 0 tape taped value weight many block ties lines pastValue pastWeight pastMany undos fresh newValue newWeight newMany newBlock newTies newLines hasBlock hasTies size att place sort number fault faultPlace lastFault lastPlace q3.1 q3.2.1 q3.2.2 often firstOf lastOf unlikes unlikeMany isCandidate modes fewest z7 _ _ _ (lv_sub hl [1, 2, 3, 0] rfl) hP hD hS ez7 (fun ls H locs hl hP hD hS => ?_)
    refine lv_aload_n hx hb dX6_flip_43 rfl (lv_at hl 0 rfl) ?_
    obtain ⟨q8, eq8, h⟩ := e_b h
    refine xv_i0 (As := []) (rest := []) (ci := 6) (b := ad 0) ⟨hx, hb, hml, hown, hts⟩ hl.1 (kX6_done l D cA ad 0 tape taped value weight many block ties lines pastValue pastWeight pastMany undos fresh newValue newWeight newMany newBlock newTies newLines hasBlock hasTies size att place sort number fault faultPlace lastFault lastPlace z7.1 z7.2 q3.2.2 often firstOf lastOf unlikes unlikeMany isCandidate modes fewest   _ eq8) (cwV 0 hts gX6_flip_X6_done rfl rfl rfl (by decide +kernel) ⟨Nat.le_of_ble_eq_true rfl, Nat.le_of_ble_eq_true rfl⟩) rfl hK hP hD hS hA 0 rfl rfl rfl rfl (Nat.le_of_ble_eq_true rfl) dX6_flip_44 ⟨Nat.zero_le _, Nat.zero_le _⟩ (fun H locs hP hD hS hnq8 => ?_)
    have hP : va_P D vwCl (wX6 cA ad 0 tape taped q8.2.1 q8.2.2.1 q8.2.2.2.1 block ties lines q8.2.2.2.2.1 q8.2.2.2.2.2.1 q8.2.2.2.2.2.2.1 q8.2.2.2.2.2.2.2.1 q8.2.2.2.2.2.2.2.2 newValue newWeight newMany newBlock newTies newLines hasBlock hasTies size att place sort number fault faultPlace lastFault lastPlace z7.1 z7.2 q3.2.2 often firstOf lastOf unlikes unlikeMany isCandidate modes fewest) H := hP
    have hD : va_D A (wX6 cA ad 0 tape taped q8.2.1 q8.2.2.1 q8.2.2.2.1 block ties lines q8.2.2.2.2.1 q8.2.2.2.2.2.1 q8.2.2.2.2.2.2.1 q8.2.2.2.2.2.2.2.1 q8.2.2.2.2.2.2.2.2 newValue newWeight newMany newBlock newTies newLines hasBlock hasTies size att place sort number fault faultPlace lastFault lastPlace z7.1 z7.2 q3.2.2 often firstOf lastOf unlikes unlikeMany isCandidate modes fewest) := hD
    obtain rfl := e_s h
    exact hret hP hS rfl dX6_flip_47
  · have h := e_f (not_not_intro c2) h
    refine lv_iconst (v := (-1)) hx hb dX6_flip_14 (by decide) ?_
    obtain rfl := e_s h
    exact hret hP hS rfl dX6_flip_15
set_option maxHeartbeats 4000000 in
set_option maxRecDepth 100000 in
theorem kX6_shift (l : Launch) (D : va_G) (cA : Nat → ClassId) (ad : Nat → Nat) (thrown : Int32) (tape : Nat → Int32) (taped : Int32) (value : Nat → Int32) (weight : Nat → Int32) (many : Int32) (block : Int32) (ties : Int32) (lines : Int32) (pastValue : Nat → Int32) (pastWeight : Nat → Int32) (pastMany : Nat → Int32) (undos : Int32) (fresh : Int32) (newValue : Nat → Int32) (newWeight : Nat → Int32) (newMany : Int32) (newBlock : Int32) (newTies : Int32) (newLines : Int32) (hasBlock : Int32) (hasTies : Int32) (size : Int32) (att : Int32) (place : Int32) (sort : Int32) (number : Int32) (fault : Int32) (faultPlace : Int32) (lastFault : Int32) (lastPlace : Int32) (toValue : Nat → Int32) (toWeight : Nat → Int32) (toMany : Int32) (often : Nat → Int32) (firstOf : Nat → Int32) (lastOf : Nat → Int32) (unlikes : Nat → Int32) (unlikeMany : Int32) (isCandidate : Nat → Int32) (modes : Nat → Int32) (fewest : Nat → Int32) (x1 : Int32) (x2 : Int32) (x3 : Int32) (q : Int32 × Int32 × (Nat → Int32) × (Nat → Int32) × Int32 × (Nat → Int32) × (Nat → Int32) × (Nat → Int32) × Int32 × Int32 × (Nat → Int32) × (Nat → Int32) × Int32) (h : mX6_shift thrown value weight many block pastValue pastWeight pastMany undos fresh toValue toWeight toMany x1 x2 x3 = some q) : MI l yX6_shift wsX6_shift { frames := 6, cells := 0, slots := 0, locals := 133 } D cA .int [.ref (ad 0), .int x1, .int x2, .int x3] (wX6 cA ad thrown tape taped value weight many block ties lines pastValue pastWeight pastMany undos fresh newValue newWeight newMany newBlock newTies newLines hasBlock hasTies size att place sort number fault faultPlace lastFault lastPlace toValue toWeight toMany often firstOf lastOf unlikes unlikeMany isCandidate modes fewest) (wX6 cA ad q.2.1 tape taped q.2.2.1 q.2.2.2.1 q.2.2.2.2.1 block ties lines q.2.2.2.2.2.1 q.2.2.2.2.2.2.1 q.2.2.2.2.2.2.2.1 q.2.2.2.2.2.2.2.2.1 q.2.2.2.2.2.2.2.2.2.1 newValue newWeight newMany newBlock newTies newLines hasBlock hasTies size att place sort number fault faultPlace lastFault lastPlace q.2.2.2.2.2.2.2.2.2.2.1 q.2.2.2.2.2.2.2.2.2.2.2.1 q.2.2.2.2.2.2.2.2.2.2.2.2 often firstOf lastOf unlikes unlikeMany isCandidate modes fewest) q.1 := by
  refine MI.of (cc := cX6_shift) (maxL := 5) (by decide +kernel) rfl rfl rfl (Nat.le_of_ble_eq_true rfl) ?_
  intro p e s m args below meth c A ls Q hx hb hml hts hown hK hP hD hA hS hl hret
  have hl : lv_has ls 5 [(0, .ref (ad 0)), (1, .int x1), (2, .int x2), (3, .int x3)] := hl
  have f72 := hts (.fieldLink RX6 72 "ModeDeskModel" "thrown" "I") (by decide +kernel)
  have iX6 : ∀ w ∈ wsX60, w ∈ wsX6_shift := by decide +kernel
  unfold mX6_shift at h
  refine lv_aload_n hx hb dX6_shift_0 rfl (lv_at hl 0 rfl) ?_
  refine lv_iconst (v := 0) hx hb dX6_shift_1 (by decide) ?_
  refine va_put (D := D) (ci := 6) (v := .int 0) (ty := .int) (C := RX6) (T := TX6) (N := 42) hx hb hts iX6 tyX6 tyX6_ok nmX6 hown hK hP hD hS 0 rfl rfl 0 (Nat.le_of_ble_eq_true rfl) f72 (fun _ h9 => h9) rfl (tyX6_ok 0 (Nat.le_of_ble_eq_true rfl)) rfl rfl (Nat.le_of_ble_eq_true rfl) dX6_shift_2 (fun H locs hP hD hS => ?_)
  have hP : va_P D vwCl (wX6 cA ad 0 tape taped value weight many block ties lines pastValue pastWeight pastMany undos fresh newValue newWeight newMany newBlock newTies newLines hasBlock hasTies size att place sort number fault faultPlace lastFault lastPlace toValue toWeight toMany often firstOf lastOf unlikes unlikeMany isCandidate modes fewest) H := hP
  have hD : va_D A (wX6 cA ad 0 tape taped value weight many block ties lines pastValue pastWeight pastMany undos fresh newValue newWeight newMany newBlock newTies newLines hasBlock hasTies size att place sort number fault faultPlace lastFault lastPlace toValue toWeight toMany often firstOf lastOf unlikes unlikeMany isCandidate modes fewest) := hD
  refine lv_aload_n hx hb dX6_shift_5 rfl (lv_at hl 0 rfl) ?_
  refine lv_iload_n hx hb dX6_shift_6 rfl (lv_at hl 1 rfl) ?_
  refine lv_iload_n hx hb dX6_shift_7 rfl (lv_at hl 2 rfl) ?_
  obtain ⟨q1, eq1, h⟩ := e_b h
  refine xv_i0 (As := [.int x1, .int x2]) (rest := []) (ci := 6) (b := ad 0) ⟨hx, hb, hml, hown, hts⟩ hl.1 (kX6_isSpan l D cA ad 0 tape taped value weight many block ties lines pastValue pastWeight pastMany undos fresh newValue newWeight newMany newBlock newTies newLines hasBlock hasTies size att place sort number fault faultPlace lastFault lastPlace toValue toWeight toMany often firstOf lastOf unlikes unlikeMany isCandidate modes fewest x1 x2  _ eq1) (cwV 2 hts gX6_shift_X6_isSpan rfl rfl rfl (by decide +kernel) ⟨Nat.le_of_ble_eq_true rfl, Nat.le_of_ble_eq_true rfl⟩) rfl hK hP hD hS hA 0 rfl rfl rfl rfl (Nat.le_of_ble_eq_true rfl) dX6_shift_8 ⟨Nat.zero_le _, Nat.zero_le _⟩ (fun H locs hP hD hS hnq1 => ?_)
  have hP : va_P D vwCl (wX6 cA ad 0 tape taped value weight many block ties lines pastValue pastWeight pastMany undos fresh newValue newWeight newMany newBlock newTies newLines hasBlock hasTies size att place sort number fault faultPlace lastFault lastPlace toValue toWeight toMany often firstOf lastOf unlikes unlikeMany isCandidate modes fewest) H := hP
  have hD : va_D A (wX6 cA ad 0 tape taped value weight many block ties lines pastValue pastWeight pastMany undos fresh newValue newWeight newMany newBlock newTies newLines hasBlock hasTies size att place sort number fault faultPlace lastFault lastPlace toValue toWeight toMany often firstOf lastOf unlikes unlikeMany isCandidate modes fewest) := hD
  refine lv_if_eq (tgt := 27) hx hb dX6_shift_11 (by decide) (fun c2 => ?_) (fun c2 => ?_)
  · have h := e_t c2 h
    refine lv_iconst (v := (-1)) hx hb dX6_shift_27 (by decide) ?_
    obtain rfl := e_s h
    exact hret hP hS rfl dX6_shift_28
  · have h := e_f c2 h
    refine lv_iload_n hx hb dX6_shift_14 rfl (lv_at hl 3 rfl) ?_
    refine lv_if_lt (tgt := 27) hx hb dX6_shift_15 (by decide) (fun c3 => ?_) (fun c3 => ?_)
    · have h := e_t c3 h
      refine lv_iconst (v := (-1)) hx hb dX6_shift_27 (by decide) ?_
      obtain rfl := e_s h
      exact hret hP hS rfl dX6_shift_28
    · have h := e_f c3 h
      refine lv_iload_n hx hb dX6_shift_18 rfl (lv_at hl 3 rfl) ?_
      refine lv_iload_n hx hb dX6_shift_19 rfl (lv_at hl 2 rfl) ?_
      refine lv_iload_n hx hb dX6_shift_20 rfl (lv_at hl 1 rfl) ?_
      refine lv_isub hx hb dX6_shift_21 ?_
      refine lv_iconst (v := 1) hx hb dX6_shift_22 (by decide) ?_
      refine lv_iadd hx hb dX6_shift_23 ?_
      refine lv_icmp_le (tgt := 29) hx hb dX6_shift_24 (by decide) (fun c4 => ?_) (fun c4 => ?_)
      · have h := e_t c4 h
        refine lv_aload_n hx hb dX6_shift_29 rfl (lv_at hl 0 rfl) ?_
        obtain ⟨q5, eq5, h⟩ := e_b h
        refine xv_v0 (As := []) (rest := []) (ci := 6) (b := ad 0) ⟨hx, hb, hml, hown, hts⟩ hl.1 (kX6_begins l D cA ad 0 tape taped value weight many block ties lines pastValue pastWeight pastMany undos fresh newValue newWeight newMany newBlock newTies newLines hasBlock hasTies size att place sort number fault faultPlace lastFault lastPlace toValue toWeight toMany often firstOf lastOf unlikes unlikeMany isCandidate modes fewest   _ eq5) (cwV 0 hts gX6_shift_X6_begins rfl rfl rfl (by decide +kernel) ⟨Nat.le_of_ble_eq_true rfl, Nat.le_of_ble_eq_true rfl⟩) rfl hK hP hD hS hA 0 rfl rfl rfl rfl (Nat.le_of_ble_eq_true rfl) dX6_shift_30 ⟨Nat.zero_le _, Nat.zero_le _⟩ (fun H locs hP hD hS => ?_)
        have hP : va_P D vwCl (wX6 cA ad 0 tape taped value weight many block ties lines pastValue pastWeight pastMany undos fresh newValue newWeight newMany newBlock newTies newLines hasBlock hasTies size att place sort number fault faultPlace lastFault lastPlace q5.1 q5.2.1 q5.2.2 often firstOf lastOf unlikes unlikeMany isCandidate modes fewest) H := hP
        have hD : va_D A (wX6 cA ad 0 tape taped value weight many block ties lines pastValue pastWeight pastMany undos fresh newValue newWeight newMany newBlock newTies newLines hasBlock hasTies size att place sort number fault faultPlace lastFault lastPlace q5.1 q5.2.1 q5.2.2 often firstOf lastOf unlikes unlikeMany isCandidate modes fewest) := hD
        refine lv_iload_n hx hb dX6_shift_33 rfl (lv_at hl 1 rfl) ?_
        refine lv_istore (lv' := [(4, .int x1), (0, .ref (ad 0)), (1, .int x1), (2, .int x2), (3, .int x3)]) hx hb dX6_shift_34 hl (by decide) rfl (fun ls hl => ?_)
        have hL36 : ∀ (n : Nat) (x1 : Int32) (x2 : Int32) (x3 : Int32) (x4 : Int32) (thrown : Int32) (tape : Nat → Int32) (taped : Int32) (value : Nat → Int32) (weight : Nat → Int32) (many : Int32) (block : Int32) (ties : Int32) (lines : Int32) (pastValue : Nat → Int32) (pastWeight : Nat → Int32) (pastMany : Nat → Int32) (undos : Int32) (fresh : Int32) (newValue : Nat → Int32) (newWeight : Nat → Int32) (newMany : Int32) (newBlock : Int32) (newTies : Int32) (newLines : Int32) (hasBlock : Int32) (hasTies : Int32) (size : Int32) (att : Int32) (place : Int32) (sort : Int32) (number : Int32) (fault : Int32) (faultPlace : Int32) (lastFault : Int32) (lastPlace : Int32) (toValue : Nat → Int32) (toWeight : Nat → Int32) (toMany : Int32) (often : Nat → Int32) (firstOf : Nat → Int32) (lastOf : Nat → Int32) (unlikes : Nat → Int32) (unlikeMany : Int32) (isCandidate : Nat → Int32) (modes : Nat → Int32) (fewest : Nat → Int32) (z6 : (Nat → Int32) × (Nat → Int32)) (ls : Array Slot) (H : Heap) (locs : List Loc), lv_has ls 5 [(0, .ref (ad 0)), (1, .int x1), (2, .int x2), (3, .int x3), (4, .int x4)] → va_P D vwCl (wX6 cA ad thrown tape taped value weight many block ties lines pastValue pastWeight pastMany undos fresh newValue newWeight newMany newBlock newTies newLines hasBlock hasTies size att place sort number fault faultPlace lastFault lastPlace toValue toWeight toMany often firstOf lastOf unlikes unlikeMany isCandidate modes fewest) H → va_D A (wX6 cA ad thrown tape taped value weight many block ties lines pastValue pastWeight pastMany undos fresh newValue newWeight newMany newBlock newTies newLines hasBlock hasTies size att place sort number fault faultPlace lastFault lastPlace toValue toWeight toMany often firstOf lastOf unlikes unlikeMany isCandidate modes fewest) → va_S A s.heap H locs → mX6_shift_L36 value weight x1 x2 x3 n x4 toValue toWeight = some z6 → (∀ (ls : Array Slot) (H : Heap) (locs : List Loc), lv_has ls 5 [(0, .ref (ad 0))] → va_P D vwCl (wX6 cA ad thrown tape taped value weight many block ties lines pastValue pastWeight pastMany undos fresh newValue newWeight newMany newBlock newTies newLines hasBlock hasTies size att place sort number fault faultPlace lastFault lastPlace z6.1 z6.2 toMany often firstOf lastOf unlikes unlikeMany isCandidate modes fewest) H → va_D A (wX6 cA ad thrown tape taped value weight many block ties lines pastValue pastWeight pastMany undos fresh newValue newWeight newMany newBlock newTies newLines hasBlock hasTies size att place sort number fault faultPlace lastFault lastPlace z6.1 z6.2 toMany often firstOf lastOf unlikes unlikeMany isCandidate modes fewest) → va_S A s.heap H locs → W p l e (headSpec wsX6_shift { frames := 6, cells := 0, slots := 0, locals := 133 }).room s m args below meth c H locs 0 0 Q (F0 m 68 ls [])) → W p l e (headSpec wsX6_shift { frames := 6, cells := 0, slots := 0, locals := 133 }).room s m args below meth c H locs 0 0 Q (F0 m 36 ls []) := by
          intro n
          induction n with
          | zero => intro x1 x2 x3 x4 thrown tape taped value weight many block ties lines pastValue pastWeight pastMany undos fresh newValue newWeight newMany newBlock newTies newLines hasBlock hasTies size att place sort number fault faultPlace lastFault lastPlace toValue toWeight toMany often firstOf lastOf unlikes unlikeMany isCandidate modes fewest z6 ls H locs hl hP hD hS h hk36; exact e_n h
          | succ n ih36 =>
            intro x1 x2 x3 x4 thrown tape taped value weight many block ties lines pastValue pastWeight pastMany undos fresh newValue newWeight newMany newBlock newTies newLines hasBlock hasTies size att place sort number fault faultPlace lastFault lastPlace toValue toWeight toMany often firstOf lastOf unlikes unlikeMany isCandidate modes fewest z6 ls H locs hl hP hD hS h hk36
            rw [mX6_shift_L36.eq_2] at h
            refine lv_iload hx hb dX6_shift_36 (lv_at hl 4 rfl) ?_
            refine lv_iload_n hx hb dX6_shift_38 rfl (lv_at hl 2 rfl) ?_
            refine lv_icmp_gt (tgt := 68) hx hb dX6_shift_39 (by decide) (fun c7 => ?_) (fun c7 => ?_)
            · have h := e_t c7 h
              obtain rfl := e_s h
              exact hk36 _ _ _ (lv_sub hl [0] rfl) hP hD hS
            · have h := e_f c7 h
              refine lv_aload_n hx hb dX6_shift_42 rfl (lv_at hl 0 rfl) ?_
              refine lv_iload hx hb dX6_shift_43 (lv_at hl 4 rfl) ?_
              refine lv_iload_n hx hb dX6_shift_45 rfl (lv_at hl 1 rfl) ?_
              refine lv_iload hx hb dX6_shift_46 (lv_at hl 4 rfl) ?_
              refine lv_iload_n hx hb dX6_shift_48 rfl (lv_at hl 1 rfl) ?_
              refine lv_isub hx hb dX6_shift_49 ?_
              refine lv_iload_n hx hb dX6_shift_50 rfl (lv_at hl 3 rfl) ?_
              refine lv_iadd hx hb dX6_shift_51 ?_
              refine lv_iload_n hx hb dX6_shift_52 rfl (lv_at hl 2 rfl) ?_
              refine lv_iload_n hx hb dX6_shift_53 rfl (lv_at hl 1 rfl) ?_
              refine lv_isub hx hb dX6_shift_54 ?_
              refine lv_iconst (v := 1) hx hb dX6_shift_55 (by decide) ?_
              refine lv_iadd hx hb dX6_shift_56 ?_
              obtain ⟨v8, ev8, nv8, h⟩ := e_rm h
              refine xa_irem hx hb dX6_shift_57 nv8 ev8 ?_
              refine lv_iadd hx hb dX6_shift_58 ?_
              obtain ⟨q9, eq9, h⟩ := e_b h
              refine xv_v0 (As := [.int x4, .int (x1 + v8)]) (rest := []) (ci := 6) (b := ad 0) ⟨hx, hb, hml, hown, hts⟩ hl.1 (kX6_lies l D cA ad thrown tape taped value weight many block ties lines pastValue pastWeight pastMany undos fresh newValue newWeight newMany newBlock newTies newLines hasBlock hasTies size att place sort number fault faultPlace lastFault lastPlace toValue toWeight toMany often firstOf lastOf unlikes unlikeMany isCandidate modes fewest x4 (x1 + v8)  _ eq9) (cwV 2 hts gX6_shift_X6_lies rfl rfl rfl (by decide +kernel) ⟨Nat.le_of_ble_eq_true rfl, Nat.le_of_ble_eq_true rfl⟩) rfl hK hP hD hS hA 0 rfl rfl rfl rfl (Nat.le_of_ble_eq_true rfl) dX6_shift_59 ⟨Nat.zero_le _, Nat.zero_le _⟩ (fun H locs hP hD hS => ?_)
              have hP : va_P D vwCl (wX6 cA ad thrown tape taped value weight many block ties lines pastValue pastWeight pastMany undos fresh newValue newWeight newMany newBlock newTies newLines hasBlock hasTies size att place sort number fault faultPlace lastFault lastPlace q9.1 q9.2 toMany often firstOf lastOf unlikes unlikeMany isCandidate modes fewest) H := hP
              have hD : va_D A (wX6 cA ad thrown tape taped value weight many block ties lines pastValue pastWeight pastMany undos fresh newValue newWeight newMany newBlock newTies newLines hasBlock hasTies size att place sort number fault faultPlace lastFault lastPlace q9.1 q9.2 toMany often firstOf lastOf unlikes unlikeMany isCandidate modes fewest) := hD
              refine lv_iinc (v := (x4 + 1)) (lv' := [(4, .int (x4 + 1)), (0, .ref (ad 0)), (1, .int x1), (2, .int x2), (3, .int x3)]) hx hb dX6_shift_62 hl (k := 4) rfl rfl (by decide) rfl (fun ls hl => ?_)
              refine lv_goto (tgt := 36) hx hb dX6_shift_65 (by decide) ?_
              exact ih36 x1 x2 x3 (x4 + 1) thrown tape taped value weight many block ties lines pastValue pastWeight pastMany undos fresh newValue newWeight newMany newBlock newTies newLines hasBlock hasTies size att place sort number fault faultPlace lastFault lastPlace q9.1 q9.2 toMany often firstOf lastOf unlikes unlikeMany isCandidate modes fewest z6 _ _ _ (lv_sub hl [1, 2, 3, 4, 0] rfl) hP hD hS h hk36
        obtain ⟨z10, ez10, h⟩ := e_b h
        refine hL36 FU x1 x2 x3 x1 0 tape taped value weight many block ties lines pastValue pastWeight pastMany undos fresh newValue newWeight newMany newBlock newTies newLines hasBlock hasTies size att place sort number fault faultPlace lastFault lastPlace q5.1 q5.2.1 q5.2.2 often firstOf lastOf unlikes unlikeMany isCandidate modes fewest z10 _ _ _ (lv_sub hl [1, 2, 3, 4, 0] rfl) hP hD hS ez10 (fun ls H locs hl hP hD hS => ?_)
        refine lv_aload_n hx hb dX6_shift_68 rfl (lv_at hl 0 rfl) ?_
        obtain ⟨q11, eq11, h⟩ := e_b h
        refine xv_i0 (As := []) (rest := []) (ci := 6) (b := ad 0) ⟨hx, hb, hml, hown, hts⟩ hl.1 (kX6_done l D cA ad 0 tape taped value weight many block ties lines pastValue pastWeight pastMany undos fresh newValue newWeight newMany newBlock newTies newLines hasBlock hasTies size att place sort number fault faultPlace lastFault lastPlace z10.1 z10.2 q5.2.2 often firstOf lastOf unlikes unlikeMany isCandidate modes fewest   _ eq11) (cwV 0 hts gX6_shift_X6_done rfl rfl rfl (by decide +kernel) ⟨Nat.le_of_ble_eq_true rfl, Nat.le_of_ble_eq_true rfl⟩) rfl hK hP hD hS hA 0 rfl rfl rfl rfl (Nat.le_of_ble_eq_true rfl) dX6_shift_69 ⟨Nat.zero_le _, Nat.zero_le _⟩ (fun H locs hP hD hS hnq11 => ?_)
        have hP : va_P D vwCl (wX6 cA ad 0 tape taped q11.2.1 q11.2.2.1 q11.2.2.2.1 block ties lines q11.2.2.2.2.1 q11.2.2.2.2.2.1 q11.2.2.2.2.2.2.1 q11.2.2.2.2.2.2.2.1 q11.2.2.2.2.2.2.2.2 newValue newWeight newMany newBlock newTies newLines hasBlock hasTies size att place sort number fault faultPlace lastFault lastPlace z10.1 z10.2 q5.2.2 often firstOf lastOf unlikes unlikeMany isCandidate modes fewest) H := hP
        have hD : va_D A (wX6 cA ad 0 tape taped q11.2.1 q11.2.2.1 q11.2.2.2.1 block ties lines q11.2.2.2.2.1 q11.2.2.2.2.2.1 q11.2.2.2.2.2.2.1 q11.2.2.2.2.2.2.2.1 q11.2.2.2.2.2.2.2.2 newValue newWeight newMany newBlock newTies newLines hasBlock hasTies size att place sort number fault faultPlace lastFault lastPlace z10.1 z10.2 q5.2.2 often firstOf lastOf unlikes unlikeMany isCandidate modes fewest) := hD
        obtain rfl := e_s h
        exact hret hP hS rfl dX6_shift_72
      · have h := e_f c4 h
        refine lv_iconst (v := (-1)) hx hb dX6_shift_27 (by decide) ?_
        obtain rfl := e_s h
        exact hret hP hS rfl dX6_shift_28
set_option maxHeartbeats 4000000 in
set_option maxRecDepth 100000 in
theorem kX6_replace (l : Launch) (D : va_G) (cA : Nat → ClassId) (ad : Nat → Nat) (thrown : Int32) (tape : Nat → Int32) (taped : Int32) (value : Nat → Int32) (weight : Nat → Int32) (many : Int32) (block : Int32) (ties : Int32) (lines : Int32) (pastValue : Nat → Int32) (pastWeight : Nat → Int32) (pastMany : Nat → Int32) (undos : Int32) (fresh : Int32) (newValue : Nat → Int32) (newWeight : Nat → Int32) (newMany : Int32) (newBlock : Int32) (newTies : Int32) (newLines : Int32) (hasBlock : Int32) (hasTies : Int32) (size : Int32) (att : Int32) (place : Int32) (sort : Int32) (number : Int32) (fault : Int32) (faultPlace : Int32) (lastFault : Int32) (lastPlace : Int32) (toValue : Nat → Int32) (toWeight : Nat → Int32) (toMany : Int32) (often : Nat → Int32) (firstOf : Nat → Int32) (lastOf : Nat → Int32) (unlikes : Nat → Int32) (unlikeMany : Int32) (isCandidate : Nat → Int32) (modes : Nat → Int32) (fewest : Nat → Int32) (x1 : Int32) (x2 : Int32) (q : Int32 × Int32 × (Nat → Int32) × (Nat → Int32) × Int32 × (Nat → Int32) × (Nat → Int32) × (Nat → Int32) × Int32 × Int32 × (Nat → Int32) × (Nat → Int32) × Int32) (h : mX6_replace thrown value weight many block pastValue pastWeight pastMany undos fresh toValue toWeight toMany x1 x2 = some q) : MI l yX6_replace wsX6_replace { frames := 6, cells := 0, slots := 0, locals := 133 } D cA .int [.ref (ad 0), .int x1, .int x2] (wX6 cA ad thrown tape taped value weight many block ties lines pastValue pastWeight pastMany undos fresh newValue newWeight newMany newBlock newTies newLines hasBlock hasTies size att place sort number fault faultPlace lastFault lastPlace toValue toWeight toMany often firstOf lastOf unlikes unlikeMany isCandidate modes fewest) (wX6 cA ad q.2.1 tape taped q.2.2.1 q.2.2.2.1 q.2.2.2.2.1 block ties lines q.2.2.2.2.2.1 q.2.2.2.2.2.2.1 q.2.2.2.2.2.2.2.1 q.2.2.2.2.2.2.2.2.1 q.2.2.2.2.2.2.2.2.2.1 newValue newWeight newMany newBlock newTies newLines hasBlock hasTies size att place sort number fault faultPlace lastFault lastPlace q.2.2.2.2.2.2.2.2.2.2.1 q.2.2.2.2.2.2.2.2.2.2.2.1 q.2.2.2.2.2.2.2.2.2.2.2.2 often firstOf lastOf unlikes unlikeMany isCandidate modes fewest) q.1 := by
  refine MI.of (cc := cX6_replace) (maxL := 4) (by decide +kernel) rfl rfl rfl (Nat.le_of_ble_eq_true rfl) ?_
  intro p e s m args below meth c A ls Q hx hb hml hts hown hK hP hD hA hS hl hret
  have hl : lv_has ls 4 [(0, .ref (ad 0)), (1, .int x1), (2, .int x2)] := hl
  have f13 := hts (.fieldLink RX6 13 "ModeDeskModel" "value" "[I") (by decide +kernel)
  have f175 := hts (.fieldLink RX6 175 "ModeDeskModel" "many" "I") (by decide +kernel)
  have f41 := hts (.fieldLink RX6 41 "ModeDeskModel" "toValue" "[I") (by decide +kernel)
  have f72 := hts (.fieldLink RX6 72 "ModeDeskModel" "thrown" "I") (by decide +kernel)
  have iX6 : ∀ w ∈ wsX60, w ∈ wsX6_replace := by decide +kernel
  unfold mX6_replace at h
  refine lv_aload_n hx hb dX6_replace_0 rfl (lv_at hl 0 rfl) ?_
  refine lv_iconst (v := 0) hx hb dX6_replace_1 (by decide) ?_
  refine va_put (D := D) (ci := 6) (v := .int 0) (ty := .int) (C := RX6) (T := TX6) (N := 42) hx hb hts iX6 tyX6 tyX6_ok nmX6 hown hK hP hD hS 0 rfl rfl 0 (Nat.le_of_ble_eq_true rfl) f72 (fun _ h9 => h9) rfl (tyX6_ok 0 (Nat.le_of_ble_eq_true rfl)) rfl rfl (Nat.le_of_ble_eq_true rfl) dX6_replace_2 (fun H locs hP hD hS => ?_)
  have hP : va_P D vwCl (wX6 cA ad 0 tape taped value weight many block ties lines pastValue pastWeight pastMany undos fresh newValue newWeight newMany newBlock newTies newLines hasBlock hasTies size att place sort number fault faultPlace lastFault lastPlace toValue toWeight toMany often firstOf lastOf unlikes unlikeMany isCandidate modes fewest) H := hP
  have hD : va_D A (wX6 cA ad 0 tape taped value weight many block ties lines pastValue pastWeight pastMany undos fresh newValue newWeight newMany newBlock newTies newLines hasBlock hasTies size att place sort number fault faultPlace lastFault lastPlace toValue toWeight toMany often firstOf lastOf unlikes unlikeMany isCandidate modes fewest) := hD
  refine lv_iload_n hx hb dX6_replace_5 rfl (lv_at hl 1 rfl) ?_
  obtain ⟨q1, eq1, h⟩ := e_b h
  refine xs_i (As := [.int x1]) (rest := []) ⟨hx, hb, hml, hown, hts⟩ hl.1 (kX6_isValue l D cA   x1  _ eq1) (va_cwS 1 hts gX6_replace_X6_isValue rfl rfl rfl (by decide +kernel) ⟨Nat.le_of_ble_eq_true rfl, Nat.le_of_ble_eq_true rfl⟩) rfl hK hP hD hS hA [] rfl (by decide +kernel) rfl (Nat.le_of_ble_eq_true rfl) dX6_replace_6 ⟨Nat.zero_le _, Nat.zero_le _⟩ (fun H locs hP hD hS hnq1 => ?_)
  have hP : va_P D vwCl (wX6 cA ad 0 tape taped value weight many block ties lines pastValue pastWeight pastMany undos fresh newValue newWeight newMany newBlock newTies newLines hasBlock hasTies size att place sort number fault faultPlace lastFault lastPlace toValue toWeight toMany often firstOf lastOf unlikes unlikeMany isCandidate modes fewest) H := hP
  have hD : va_D A (wX6 cA ad 0 tape taped value weight many block ties lines pastValue pastWeight pastMany undos fresh newValue newWeight newMany newBlock newTies newLines hasBlock hasTies size att place sort number fault faultPlace lastFault lastPlace toValue toWeight toMany often firstOf lastOf unlikes unlikeMany isCandidate modes fewest) := hD
  refine lv_if_eq (tgt := 19) hx hb dX6_replace_9 (by decide) (fun c2 => ?_) (fun c2 => ?_)
  · have h := e_t c2 h
    refine lv_iconst (v := (-1)) hx hb dX6_replace_19 (by decide) ?_
    obtain rfl := e_s h
    exact hret hP hS rfl dX6_replace_20
  · have h := e_f c2 h
    refine lv_iload_n hx hb dX6_replace_12 rfl (lv_at hl 2 rfl) ?_
    obtain ⟨q3, eq3, h⟩ := e_b h
    refine xs_i (As := [.int x2]) (rest := []) ⟨hx, hb, hml, hown, hts⟩ hl.1 (kX6_isValue l D cA   x2  _ eq3) (va_cwS 1 hts gX6_replace_X6_isValue rfl rfl rfl (by decide +kernel) ⟨Nat.le_of_ble_eq_true rfl, Nat.le_of_ble_eq_true rfl⟩) rfl hK hP hD hS hA [] rfl (by decide +kernel) rfl (Nat.le_of_ble_eq_true rfl) dX6_replace_13 ⟨Nat.zero_le _, Nat.zero_le _⟩ (fun H locs hP hD hS hnq3 => ?_)
    have hP : va_P D vwCl (wX6 cA ad 0 tape taped value weight many block ties lines pastValue pastWeight pastMany undos fresh newValue newWeight newMany newBlock newTies newLines hasBlock hasTies size att place sort number fault faultPlace lastFault lastPlace toValue toWeight toMany often firstOf lastOf unlikes unlikeMany isCandidate modes fewest) H := hP
    have hD : va_D A (wX6 cA ad 0 tape taped value weight many block ties lines pastValue pastWeight pastMany undos fresh newValue newWeight newMany newBlock newTies newLines hasBlock hasTies size att place sort number fault faultPlace lastFault lastPlace toValue toWeight toMany often firstOf lastOf unlikes unlikeMany isCandidate modes fewest) := hD
    refine lv_if_ne (tgt := 21) hx hb dX6_replace_16 (by decide) (fun c4 => ?_) (fun c4 => ?_)
    · have h := e_t c4 h
      refine lv_aload_n hx hb dX6_replace_21 rfl (lv_at hl 0 rfl) ?_
      obtain ⟨q5, eq5, h⟩ := e_b h
      refine xv_v0 (As := []) (rest := []) (ci := 6) (b := ad 0) ⟨hx, hb, hml, hown, hts⟩ hl.1 (kX6_begins l D cA ad 0 tape taped value weight many block ties lines pastValue pastWeight pastMany undos fresh newValue newWeight newMany newBlock newTies newLines hasBlock hasTies size att place sort number fault faultPlace lastFault lastPlace toValue toWeight toMany often firstOf lastOf unlikes unlikeMany isCandidate modes fewest   _ eq5) (cwV 0 hts gX6_replace_X6_begins rfl rfl rfl (by decide +kernel) ⟨Nat.le_of_ble_eq_true rfl, Nat.le_of_ble_eq_true rfl⟩) rfl hK hP hD hS hA 0 rfl rfl rfl rfl (Nat.le_of_ble_eq_true rfl) dX6_replace_22 ⟨Nat.zero_le _, Nat.zero_le _⟩ (fun H locs hP hD hS => ?_)
      have hP : va_P D vwCl (wX6 cA ad 0 tape taped value weight many block ties lines pastValue pastWeight pastMany undos fresh newValue newWeight newMany newBlock newTies newLines hasBlock hasTies size att place sort number fault faultPlace lastFault lastPlace q5.1 q5.2.1 q5.2.2 often firstOf lastOf unlikes unlikeMany isCandidate modes fewest) H := hP
      have hD : va_D A (wX6 cA ad 0 tape taped value weight many block ties lines pastValue pastWeight pastMany undos fresh newValue newWeight newMany newBlock newTies newLines hasBlock hasTies size att place sort number fault faultPlace lastFault lastPlace q5.1 q5.2.1 q5.2.2 often firstOf lastOf unlikes unlikeMany isCandidate modes fewest) := hD
      refine lv_iconst (v := 0) hx hb dX6_replace_25 (by decide) ?_
      refine lv_istore_n (lv' := [(3, .int 0), (0, .ref (ad 0)), (1, .int x1), (2, .int x2)]) hx hb dX6_replace_26 rfl hl (by decide) rfl (fun ls hl => ?_)
      have hL27 : ∀ (n : Nat) (x1 : Int32) (x2 : Int32) (x3 : Int32) (thrown : Int32) (tape : Nat → Int32) (taped : Int32) (value : Nat → Int32) (weight : Nat → Int32) (many : Int32) (block : Int32) (ties : Int32) (lines : Int32) (pastValue : Nat → Int32) (pastWeight : Nat → Int32) (pastMany : Nat → Int32) (undos : Int32) (fresh : Int32) (newValue : Nat → Int32) (newWeight : Nat → Int32) (newMany : Int32) (newBlock : Int32) (newTies : Int32) (newLines : Int32) (hasBlock : Int32) (hasTies : Int32) (size : Int32) (att : Int32) (place : Int32) (sort : Int32) (number : Int32) (fault : Int32) (faultPlace : Int32) (lastFault : Int32) (lastPlace : Int32) (toValue : Nat → Int32) (toWeight : Nat → Int32) (toMany : Int32) (often : Nat → Int32) (firstOf : Nat → Int32) (lastOf : Nat → Int32) (unlikes : Nat → Int32) (unlikeMany : Int32) (isCandidate : Nat → Int32) (modes : Nat → Int32) (fewest : Nat → Int32) (z6 : (Nat → Int32)) (ls : Array Slot) (H : Heap) (locs : List Loc), lv_has ls 4 [(0, .ref (ad 0)), (1, .int x1), (2, .int x2), (3, .int x3)] → va_P D vwCl (wX6 cA ad thrown tape taped value weight many block ties lines pastValue pastWeight pastMany undos fresh newValue newWeight newMany newBlock newTies newLines hasBlock hasTies size att place sort number fault faultPlace lastFault lastPlace toValue toWeight toMany often firstOf lastOf unlikes unlikeMany isCandidate modes fewest) H → va_D A (wX6 cA ad thrown tape taped value weight many block ties lines pastValue pastWeight pastMany undos fresh newValue newWeight newMany newBlock newTies newLines hasBlock hasTies size att place sort number fault faultPlace lastFault lastPlace toValue toWeight toMany often firstOf lastOf unlikes unlikeMany isCandidate modes fewest) → va_S A s.heap H locs → mX6_replace_L27 value many x1 x2 n x3 toValue = some z6 → (∀ (ls : Array Slot) (H : Heap) (locs : List Loc), lv_has ls 4 [(0, .ref (ad 0))] → va_P D vwCl (wX6 cA ad thrown tape taped value weight many block ties lines pastValue pastWeight pastMany undos fresh newValue newWeight newMany newBlock newTies newLines hasBlock hasTies size att place sort number fault faultPlace lastFault lastPlace z6 toWeight toMany often firstOf lastOf unlikes unlikeMany isCandidate modes fewest) H → va_D A (wX6 cA ad thrown tape taped value weight many block ties lines pastValue pastWeight pastMany undos fresh newValue newWeight newMany newBlock newTies newLines hasBlock hasTies size att place sort number fault faultPlace lastFault lastPlace z6 toWeight toMany often firstOf lastOf unlikes unlikeMany isCandidate modes fewest) → va_S A s.heap H locs → W p l e (headSpec wsX6_replace { frames := 6, cells := 0, slots := 0, locals := 133 }).room s m args below meth c H locs 0 0 Q (F0 m 58 ls [])) → W p l e (headSpec wsX6_replace { frames := 6, cells := 0, slots := 0, locals := 133 }).room s m args below meth c H locs 0 0 Q (F0 m 27 ls []) := by
        intro n
        induction n with
        | zero => intro x1 x2 x3 thrown tape taped value weight many block ties lines pastValue pastWeight pastMany undos fresh newValue newWeight newMany newBlock newTies newLines hasBlock hasTies size att place sort number fault faultPlace lastFault lastPlace toValue toWeight toMany often firstOf lastOf unlikes unlikeMany isCandidate modes fewest z6 ls H locs hl hP hD hS h hk27; exact e_n h
        | succ n ih27 =>
          intro x1 x2 x3 thrown tape taped value weight many block ties lines pastValue pastWeight pastMany undos fresh newValue newWeight newMany newBlock newTies newLines hasBlock hasTies size att place sort number fault faultPlace lastFault lastPlace toValue toWeight toMany often firstOf lastOf unlikes unlikeMany isCandidate modes fewest z6 ls H locs hl hP hD hS h hk27
          rw [mX6_replace_L27.eq_2] at h
          refine lv_iload_n hx hb dX6_replace_27 rfl (lv_at hl 3 rfl) ?_
          refine lv_aload_n hx hb dX6_replace_28 rfl (lv_at hl 0 rfl) ?_
          refine va_get (D := D) (ci := 6) (v := .int many) (C := RX6) (T := TX6) (N := 42) hx hb hts iX6 hown hK hP 0 rfl rfl 5 (Nat.le_of_ble_eq_true rfl) f175 (fun _ h9 => h9) rfl dX6_replace_29 ?_
          refine lv_icmp_ge (tgt := 58) hx hb dX6_replace_32 (by decide) (fun c7 => ?_) (fun c7 => ?_)
          · have h := e_t c7 h
            obtain rfl := e_s h
            exact hk27 _ _ _ (lv_sub hl [0] rfl) hP hD hS
          · have h := e_f c7 h
            refine lv_aload_n hx hb dX6_replace_35 rfl (lv_at hl 0 rfl) ?_
            refine va_get (D := D) (ci := 6) (v := .ref (ad 2)) (C := RX6) (T := TX6) (N := 42) hx hb hts iX6 hown hK hP 0 rfl rfl 3 (Nat.le_of_ble_eq_true rfl) f13 (fun _ h9 => h9) rfl dX6_replace_36 ?_
            refine lv_iload_n hx hb dX6_replace_39 rfl (lv_at hl 3 rfl) ?_
            obtain ⟨v8, ev8, nv8, h⟩ := e_rd h
            refine xa_iald hx hb hK hP 2 rfl nv8 ev8 dX6_replace_40 ?_
            refine lv_iload_n hx hb dX6_replace_41 rfl (lv_at hl 1 rfl) ?_
            refine lv_icmp_ne (tgt := 52) hx hb dX6_replace_42 (by decide) (fun c9 => ?_) (fun c9 => ?_)
            · have h := e_t c9 h
              refine lv_iinc (v := (x3 + 1)) (lv' := [(3, .int (x3 + 1)), (0, .ref (ad 0)), (1, .int x1), (2, .int x2)]) hx hb dX6_replace_52 hl (k := 3) rfl rfl (by decide) rfl (fun ls hl => ?_)
              refine lv_goto (tgt := 27) hx hb dX6_replace_55 (by decide) ?_
              exact ih27 x1 x2 (x3 + 1) thrown tape taped value weight many block ties lines pastValue pastWeight pastMany undos fresh newValue newWeight newMany newBlock newTies newLines hasBlock hasTies size att place sort number fault faultPlace lastFault lastPlace toValue toWeight toMany often firstOf lastOf unlikes unlikeMany isCandidate modes fewest z6 _ _ _ (lv_sub hl [1, 2, 3, 0] rfl) hP hD hS h hk27
            · have h := e_f (not_not_intro c9) h
              refine lv_aload_n hx hb dX6_replace_45 rfl (lv_at hl 0 rfl) ?_
              refine va_get (D := D) (ci := 6) (v := .ref (ad 9)) (C := RX6) (T := TX6) (N := 42) hx hb hts iX6 hown hK hP 0 rfl rfl 31 (Nat.le_of_ble_eq_true rfl) f41 (fun _ h9 => h9) rfl dX6_replace_46 ?_
              refine lv_iload_n hx hb dX6_replace_49 rfl (lv_at hl 3 rfl) ?_
              refine lv_iload_n hx hb dX6_replace_50 rfl (lv_at hl 2 rfl) ?_
              obtain ⟨a10, ea10, na10, h⟩ := e_wr h
              refine xa_iast hx hb hK hP hD hS 9 rfl na10 ea10 dX6_replace_51 (fun H locs hP hD hS => ?_)
              have hP : va_P D vwCl (wX6 cA ad thrown tape taped value weight many block ties lines pastValue pastWeight pastMany undos fresh newValue newWeight newMany newBlock newTies newLines hasBlock hasTies size att place sort number fault faultPlace lastFault lastPlace a10 toWeight toMany often firstOf lastOf unlikes unlikeMany isCandidate modes fewest) H := hP
              have hD : va_D A (wX6 cA ad thrown tape taped value weight many block ties lines pastValue pastWeight pastMany undos fresh newValue newWeight newMany newBlock newTies newLines hasBlock hasTies size att place sort number fault faultPlace lastFault lastPlace a10 toWeight toMany often firstOf lastOf unlikes unlikeMany isCandidate modes fewest) := hD
              refine lv_iinc (v := (x3 + 1)) (lv' := [(3, .int (x3 + 1)), (0, .ref (ad 0)), (1, .int x1), (2, .int x2)]) hx hb dX6_replace_52 hl (k := 3) rfl rfl (by decide) rfl (fun ls hl => ?_)
              refine lv_goto (tgt := 27) hx hb dX6_replace_55 (by decide) ?_
              exact ih27 x1 x2 (x3 + 1) thrown tape taped value weight many block ties lines pastValue pastWeight pastMany undos fresh newValue newWeight newMany newBlock newTies newLines hasBlock hasTies size att place sort number fault faultPlace lastFault lastPlace a10 toWeight toMany often firstOf lastOf unlikes unlikeMany isCandidate modes fewest z6 _ _ _ (lv_sub hl [1, 2, 3, 0] rfl) hP hD hS h hk27
      obtain ⟨z11, ez11, h⟩ := e_b h
      refine hL27 FU x1 x2 0 0 tape taped value weight many block ties lines pastValue pastWeight pastMany undos fresh newValue newWeight newMany newBlock newTies newLines hasBlock hasTies size att place sort number fault faultPlace lastFault lastPlace q5.1 q5.2.1 q5.2.2 often firstOf lastOf unlikes unlikeMany isCandidate modes fewest z11 _ _ _ (lv_sub hl [1, 2, 3, 0] rfl) hP hD hS ez11 (fun ls H locs hl hP hD hS => ?_)
      refine lv_aload_n hx hb dX6_replace_58 rfl (lv_at hl 0 rfl) ?_
      obtain ⟨q12, eq12, h⟩ := e_b h
      refine xv_i0 (As := []) (rest := []) (ci := 6) (b := ad 0) ⟨hx, hb, hml, hown, hts⟩ hl.1 (kX6_done l D cA ad 0 tape taped value weight many block ties lines pastValue pastWeight pastMany undos fresh newValue newWeight newMany newBlock newTies newLines hasBlock hasTies size att place sort number fault faultPlace lastFault lastPlace z11 q5.2.1 q5.2.2 often firstOf lastOf unlikes unlikeMany isCandidate modes fewest   _ eq12) (cwV 0 hts gX6_replace_X6_done rfl rfl rfl (by decide +kernel) ⟨Nat.le_of_ble_eq_true rfl, Nat.le_of_ble_eq_true rfl⟩) rfl hK hP hD hS hA 0 rfl rfl rfl rfl (Nat.le_of_ble_eq_true rfl) dX6_replace_59 ⟨Nat.zero_le _, Nat.zero_le _⟩ (fun H locs hP hD hS hnq12 => ?_)
      have hP : va_P D vwCl (wX6 cA ad 0 tape taped q12.2.1 q12.2.2.1 q12.2.2.2.1 block ties lines q12.2.2.2.2.1 q12.2.2.2.2.2.1 q12.2.2.2.2.2.2.1 q12.2.2.2.2.2.2.2.1 q12.2.2.2.2.2.2.2.2 newValue newWeight newMany newBlock newTies newLines hasBlock hasTies size att place sort number fault faultPlace lastFault lastPlace z11 q5.2.1 q5.2.2 often firstOf lastOf unlikes unlikeMany isCandidate modes fewest) H := hP
      have hD : va_D A (wX6 cA ad 0 tape taped q12.2.1 q12.2.2.1 q12.2.2.2.1 block ties lines q12.2.2.2.2.1 q12.2.2.2.2.2.1 q12.2.2.2.2.2.2.1 q12.2.2.2.2.2.2.2.1 q12.2.2.2.2.2.2.2.2 newValue newWeight newMany newBlock newTies newLines hasBlock hasTies size att place sort number fault faultPlace lastFault lastPlace z11 q5.2.1 q5.2.2 often firstOf lastOf unlikes unlikeMany isCandidate modes fewest) := hD
      obtain rfl := e_s h
      exact hret hP hS rfl dX6_replace_62
    · have h := e_f (not_not_intro c4) h
      refine lv_iconst (v := (-1)) hx hb dX6_replace_19 (by decide) ?_
      obtain rfl := e_s h
      exact hret hP hS rfl dX6_replace_20
set_option maxHeartbeats 4000000 in
set_option maxRecDepth 100000 in
theorem kX6_sort (l : Launch) (D : va_G) (cA : Nat → ClassId) (ad : Nat → Nat) (thrown : Int32) (tape : Nat → Int32) (taped : Int32) (value : Nat → Int32) (weight : Nat → Int32) (many : Int32) (block : Int32) (ties : Int32) (lines : Int32) (pastValue : Nat → Int32) (pastWeight : Nat → Int32) (pastMany : Nat → Int32) (undos : Int32) (fresh : Int32) (newValue : Nat → Int32) (newWeight : Nat → Int32) (newMany : Int32) (newBlock : Int32) (newTies : Int32) (newLines : Int32) (hasBlock : Int32) (hasTies : Int32) (size : Int32) (att : Int32) (place : Int32) (sort : Int32) (number : Int32) (fault : Int32) (faultPlace : Int32) (lastFault : Int32) (lastPlace : Int32) (toValue : Nat → Int32) (toWeight : Nat → Int32) (toMany : Int32) (often : Nat → Int32) (firstOf : Nat → Int32) (lastOf : Nat → Int32) (unlikes : Nat → Int32) (unlikeMany : Int32) (isCandidate : Nat → Int32) (modes : Nat → Int32) (fewest : Nat → Int32) (x1 : Int32) (x2 : Int32) (x3 : Int32) (q : Int32 × Int32 × (Nat → Int32) × (Nat → Int32) × Int32 × (Nat → Int32) × (Nat → Int32) × (Nat → Int32) × Int32 × Int32 × (Nat → Int32) × (Nat → Int32) × Int32) (h : mX6_sort thrown value weight many block pastValue pastWeight pastMany undos fresh toValue toWeight toMany x1 x2 x3 = some q) : MI l yX6_sort wsX6_sort { frames := 6, cells := 0, slots := 0, locals := 133 } D cA .int [.ref (ad 0), .int x1, .int x2, .int x3] (wX6 cA ad thrown tape taped value weight many block ties lines pastValue pastWeight pastMany undos fresh newValue newWeight newMany newBlock newTies newLines hasBlock hasTies size att place sort number fault faultPlace lastFault lastPlace toValue toWeight toMany often firstOf lastOf unlikes unlikeMany isCandidate modes fewest) (wX6 cA ad q.2.1 tape taped q.2.2.1 q.2.2.2.1 q.2.2.2.2.1 block ties lines q.2.2.2.2.2.1 q.2.2.2.2.2.2.1 q.2.2.2.2.2.2.2.1 q.2.2.2.2.2.2.2.2.1 q.2.2.2.2.2.2.2.2.2.1 newValue newWeight newMany newBlock newTies newLines hasBlock hasTies size att place sort number fault faultPlace lastFault lastPlace q.2.2.2.2.2.2.2.2.2.2.1 q.2.2.2.2.2.2.2.2.2.2.2.1 q.2.2.2.2.2.2.2.2.2.2.2.2 often firstOf lastOf unlikes unlikeMany isCandidate modes fewest) q.1 := by
  refine MI.of (cc := cX6_sort) (maxL := 8) (by decide +kernel) rfl rfl rfl (Nat.le_of_ble_eq_true rfl) ?_
  intro p e s m args below meth c A ls Q hx hb hml hts hown hK hP hD hA hS hl hret
  have hl : lv_has ls 8 [(0, .ref (ad 0)), (1, .int x1), (2, .int x2), (3, .int x3)] := hl
  have f13 := hts (.fieldLink RX6 13 "ModeDeskModel" "value" "[I") (by decide +kernel)
  have f72 := hts (.fieldLink RX6 72 "ModeDeskModel" "thrown" "I") (by decide +kernel)
  have iX6 : ∀ w ∈ wsX60, w ∈ wsX6_sort := by decide +kernel
  unfold mX6_sort at h
  refine lv_aload_n hx hb dX6_sort_0 rfl (lv_at hl 0 rfl) ?_
  refine lv_iconst (v := 0) hx hb dX6_sort_1 (by decide) ?_
  refine va_put (D := D) (ci := 6) (v := .int 0) (ty := .int) (C := RX6) (T := TX6) (N := 42) hx hb hts iX6 tyX6 tyX6_ok nmX6 hown hK hP hD hS 0 rfl rfl 0 (Nat.le_of_ble_eq_true rfl) f72 (fun _ h9 => h9) rfl (tyX6_ok 0 (Nat.le_of_ble_eq_true rfl)) rfl rfl (Nat.le_of_ble_eq_true rfl) dX6_sort_2 (fun H locs hP hD hS => ?_)
  have hP : va_P D vwCl (wX6 cA ad 0 tape taped value weight many block ties lines pastValue pastWeight pastMany undos fresh newValue newWeight newMany newBlock newTies newLines hasBlock hasTies size att place sort number fault faultPlace lastFault lastPlace toValue toWeight toMany often firstOf lastOf unlikes unlikeMany isCandidate modes fewest) H := hP
  have hD : va_D A (wX6 cA ad 0 tape taped value weight many block ties lines pastValue pastWeight pastMany undos fresh newValue newWeight newMany newBlock newTies newLines hasBlock hasTies size att place sort number fault faultPlace lastFault lastPlace toValue toWeight toMany often firstOf lastOf unlikes unlikeMany isCandidate modes fewest) := hD
  refine lv_aload_n hx hb dX6_sort_5 rfl (lv_at hl 0 rfl) ?_
  refine lv_iload_n hx hb dX6_sort_6 rfl (lv_at hl 1 rfl) ?_
  refine lv_iload_n hx hb dX6_sort_7 rfl (lv_at hl 2 rfl) ?_
  obtain ⟨q1, eq1, h⟩ := e_b h
  refine xv_i0 (As := [.int x1, .int x2]) (rest := []) (ci := 6) (b := ad 0) ⟨hx, hb, hml, hown, hts⟩ hl.1 (kX6_isSpan l D cA ad 0 tape taped value weight many block ties lines pastValue pastWeight pastMany undos fresh newValue newWeight newMany newBlock newTies newLines hasBlock hasTies size att place sort number fault faultPlace lastFault lastPlace toValue toWeight toMany often firstOf lastOf unlikes unlikeMany isCandidate modes fewest x1 x2  _ eq1) (cwV 2 hts gX6_sort_X6_isSpan rfl rfl rfl (by decide +kernel) ⟨Nat.le_of_ble_eq_true rfl, Nat.le_of_ble_eq_true rfl⟩) rfl hK hP hD hS hA 0 rfl rfl rfl rfl (Nat.le_of_ble_eq_true rfl) dX6_sort_8 ⟨Nat.zero_le _, Nat.zero_le _⟩ (fun H locs hP hD hS hnq1 => ?_)
  have hP : va_P D vwCl (wX6 cA ad 0 tape taped value weight many block ties lines pastValue pastWeight pastMany undos fresh newValue newWeight newMany newBlock newTies newLines hasBlock hasTies size att place sort number fault faultPlace lastFault lastPlace toValue toWeight toMany often firstOf lastOf unlikes unlikeMany isCandidate modes fewest) H := hP
  have hD : va_D A (wX6 cA ad 0 tape taped value weight many block ties lines pastValue pastWeight pastMany undos fresh newValue newWeight newMany newBlock newTies newLines hasBlock hasTies size att place sort number fault faultPlace lastFault lastPlace toValue toWeight toMany often firstOf lastOf unlikes unlikeMany isCandidate modes fewest) := hD
  refine lv_if_ne (tgt := 16) hx hb dX6_sort_11 (by decide) (fun c2 => ?_) (fun c2 => ?_)
  · have h := e_t c2 h
    refine lv_aload_n hx hb dX6_sort_16 rfl (lv_at hl 0 rfl) ?_
    obtain ⟨q3, eq3, h⟩ := e_b h
    refine xv_v0 (As := []) (rest := []) (ci := 6) (b := ad 0) ⟨hx, hb, hml, hown, hts⟩ hl.1 (kX6_begins l D cA ad 0 tape taped value weight many block ties lines pastValue pastWeight pastMany undos fresh newValue newWeight newMany newBlock newTies newLines hasBlock hasTies size att place sort number fault faultPlace lastFault lastPlace toValue toWeight toMany often firstOf lastOf unlikes unlikeMany isCandidate modes fewest   _ eq3) (cwV 0 hts gX6_sort_X6_begins rfl rfl rfl (by decide +kernel) ⟨Nat.le_of_ble_eq_true rfl, Nat.le_of_ble_eq_true rfl⟩) rfl hK hP hD hS hA 0 rfl rfl rfl rfl (Nat.le_of_ble_eq_true rfl) dX6_sort_17 ⟨Nat.zero_le _, Nat.zero_le _⟩ (fun H locs hP hD hS => ?_)
    have hP : va_P D vwCl (wX6 cA ad 0 tape taped value weight many block ties lines pastValue pastWeight pastMany undos fresh newValue newWeight newMany newBlock newTies newLines hasBlock hasTies size att place sort number fault faultPlace lastFault lastPlace q3.1 q3.2.1 q3.2.2 often firstOf lastOf unlikes unlikeMany isCandidate modes fewest) H := hP
    have hD : va_D A (wX6 cA ad 0 tape taped value weight many block ties lines pastValue pastWeight pastMany undos fresh newValue newWeight newMany newBlock newTies newLines hasBlock hasTies size att place sort number fault faultPlace lastFault lastPlace q3.1 q3.2.1 q3.2.2 often firstOf lastOf unlikes unlikeMany isCandidate modes fewest) := hD
    refine lv_iload_n hx hb dX6_sort_20 rfl (lv_at hl 1 rfl) ?_
    refine lv_istore (lv' := [(4, .int x1), (0, .ref (ad 0)), (1, .int x1), (2, .int x2), (3, .int x3)]) hx hb dX6_sort_21 hl (by decide) rfl (fun ls hl => ?_)
    have hL23 : ∀ (n : Nat) (x1 : Int32) (x2 : Int32) (x3 : Int32) (x4 : Int32) (thrown : Int32) (tape : Nat → Int32) (taped : Int32) (value : Nat → Int32) (weight : Nat → Int32) (many : Int32) (block : Int32) (ties : Int32) (lines : Int32) (pastValue : Nat → Int32) (pastWeight : Nat → Int32) (pastMany : Nat → Int32) (undos : Int32) (fresh : Int32) (newValue : Nat → Int32) (newWeight : Nat → Int32) (newMany : Int32) (newBlock : Int32) (newTies : Int32) (newLines : Int32) (hasBlock : Int32) (hasTies : Int32) (size : Int32) (att : Int32) (place : Int32) (sort : Int32) (number : Int32) (fault : Int32) (faultPlace : Int32) (lastFault : Int32) (lastPlace : Int32) (toValue : Nat → Int32) (toWeight : Nat → Int32) (toMany : Int32) (often : Nat → Int32) (firstOf : Nat → Int32) (lastOf : Nat → Int32) (unlikes : Nat → Int32) (unlikeMany : Int32) (isCandidate : Nat → Int32) (modes : Nat → Int32) (fewest : Nat → Int32) (z4 : (Nat → Int32) × (Nat → Int32)) (ls : Array Slot) (H : Heap) (locs : List Loc), lv_has ls 8 [(0, .ref (ad 0)), (1, .int x1), (2, .int x2), (3, .int x3), (4, .int x4)] → va_P D vwCl (wX6 cA ad thrown tape taped value weight many block ties lines pastValue pastWeight pastMany undos fresh newValue newWeight newMany newBlock newTies newLines hasBlock hasTies size att place sort number fault faultPlace lastFault lastPlace toValue toWeight toMany often firstOf lastOf unlikes unlikeMany isCandidate modes fewest) H → va_D A (wX6 cA ad thrown tape taped value weight many block ties lines pastValue pastWeight pastMany undos fresh newValue newWeight newMany newBlock newTies newLines hasBlock hasTies size att place sort number fault faultPlace lastFault lastPlace toValue toWeight toMany often firstOf lastOf unlikes unlikeMany isCandidate modes fewest) → va_S A s.heap H locs → mX6_sort_L23 value weight x1 x2 x3 n x4 toValue toWeight = some z4 → (∀ (ls : Array Slot) (H : Heap) (locs : List Loc), lv_has ls 8 [(0, .ref (ad 0))] → va_P D vwCl (wX6 cA ad thrown tape taped value weight many block ties lines pastValue pastWeight pastMany undos fresh newValue newWeight newMany newBlock newTies newLines hasBlock hasTies size att place sort number fault faultPlace lastFault lastPlace z4.1 z4.2 toMany often firstOf lastOf unlikes unlikeMany isCandidate modes fewest) H → va_D A (wX6 cA ad thrown tape taped value weight many block ties lines pastValue pastWeight pastMany undos fresh newValue newWeight newMany newBlock newTies newLines hasBlock hasTies size att place sort number fault faultPlace lastFault lastPlace z4.1 z4.2 toMany often firstOf lastOf unlikes unlikeMany isCandidate modes fewest) → va_S A s.heap H locs → W p l e (headSpec wsX6_sort { frames := 6, cells := 0, slots := 0, locals := 133 }).room s m args below meth c H locs 0 0 Q (F0 m 155 ls [])) → W p l e (headSpec wsX6_sort { frames := 6, cells := 0, slots := 0, locals := 133 }).room s m args below meth c H locs 0 0 Q (F0 m 23 ls []) := by
      intro n
      induction n with
      | zero => intro x1 x2 x3 x4 thrown tape taped value weight many block ties lines pastValue pastWeight pastMany undos fresh newValue newWeight newMany newBlock newTies newLines hasBlock hasTies size att place sort number fault faultPlace lastFault lastPlace toValue toWeight toMany often firstOf lastOf unlikes unlikeMany isCandidate modes fewest z4 ls H locs hl hP hD hS h hk23; exact e_n h
      | succ n ih23 =>
        intro x1 x2 x3 x4 thrown tape taped value weight many block ties lines pastValue pastWeight pastMany undos fresh newValue newWeight newMany newBlock newTies newLines hasBlock hasTies size att place sort number fault faultPlace lastFault lastPlace toValue toWeight toMany often firstOf lastOf unlikes unlikeMany isCandidate modes fewest z4 ls H locs hl hP hD hS h hk23
        rw [mX6_sort_L23.eq_2] at h
        refine lv_iload hx hb dX6_sort_23 (lv_at hl 4 rfl) ?_
        refine lv_iload_n hx hb dX6_sort_25 rfl (lv_at hl 2 rfl) ?_
        refine lv_icmp_gt (tgt := 155) hx hb dX6_sort_26 (by decide) (fun c5 => ?_) (fun c5 => ?_)
        · have h := e_t c5 h
          obtain rfl := e_s h
          exact hk23 _ _ _ (lv_sub hl [0] rfl) hP hD hS
        · have h := e_f c5 h
          refine lv_iconst (v := 0) hx hb dX6_sort_29 (by decide) ?_
          refine lv_istore (lv' := [(5, .int 0), (0, .ref (ad 0)), (1, .int x1), (2, .int x2), (3, .int x3), (4, .int x4)]) hx hb dX6_sort_30 hl (by decide) rfl (fun ls hl => ?_)
          refine lv_iload_n hx hb dX6_sort_32 rfl (lv_at hl 2 rfl) ?_
          refine lv_istore (lv' := [(6, .int x1), (5, .int 0), (0, .ref (ad 0)), (1, .int x1), (2, .int x2), (3, .int x3), (4, .int x4)]) hx hb dX6_sort_33 hl (by decide) rfl (fun ls hl => ?_)
          have hL35 : ∀ (n : Nat) (x1 : Int32) (x2 : Int32) (x3 : Int32) (x4 : Int32) (x5 : Int32) (x6 : Int32) (thrown : Int32) (tape : Nat → Int32) (taped : Int32) (value : Nat → Int32) (weight : Nat → Int32) (many : Int32) (block : Int32) (ties : Int32) (lines : Int32) (pastValue : Nat → Int32) (pastWeight : Nat → Int32) (pastMany : Nat → Int32) (undos : Int32) (fresh : Int32) (newValue : Nat → Int32) (newWeight : Nat → Int32) (newMany : Int32) (newBlock : Int32) (newTies : Int32) (newLines : Int32) (hasBlock : Int32) (hasTies : Int32) (size : Int32) (att : Int32) (place : Int32) (sort : Int32) (number : Int32) (fault : Int32) (faultPlace : Int32) (lastFault : Int32) (lastPlace : Int32) (toValue : Nat → Int32) (toWeight : Nat → Int32) (toMany : Int32) (often : Nat → Int32) (firstOf : Nat → Int32) (lastOf : Nat → Int32) (unlikes : Nat → Int32) (unlikeMany : Int32) (isCandidate : Nat → Int32) (modes : Nat → Int32) (fewest : Nat → Int32) (z6 : Int32) (ls : Array Slot) (H : Heap) (locs : List Loc), lv_has ls 8 [(0, .ref (ad 0)), (1, .int x1), (2, .int x2), (3, .int x3), (4, .int x4), (5, .int x5), (6, .int x6)] → va_P D vwCl (wX6 cA ad thrown tape taped value weight many block ties lines pastValue pastWeight pastMany undos fresh newValue newWeight newMany newBlock newTies newLines hasBlock hasTies size att place sort number fault faultPlace lastFault lastPlace toValue toWeight toMany often firstOf lastOf unlikes unlikeMany isCandidate modes fewest) H → va_D A (wX6 cA ad thrown tape taped value weight many block ties lines pastValue pastWeight pastMany undos fresh newValue newWeight newMany newBlock newTies newLines hasBlock hasTies size att place sort number fault faultPlace lastFault lastPlace toValue toWeight toMany often firstOf lastOf unlikes unlikeMany isCandidate modes fewest) → va_S A s.heap H locs → mX6_sort_L35 value x2 x3 x4 n x5 x6 = some z6 → (∀ (ls : Array Slot) (H : Heap) (locs : List Loc), lv_has ls 8 [(0, .ref (ad 0)), (1, .int x1), (2, .int x2), (3, .int x3), (4, .int x4), (5, .int z6)] → va_P D vwCl (wX6 cA ad thrown tape taped value weight many block ties lines pastValue pastWeight pastMany undos fresh newValue newWeight newMany newBlock newTies newLines hasBlock hasTies size att place sort number fault faultPlace lastFault lastPlace toValue toWeight toMany often firstOf lastOf unlikes unlikeMany isCandidate modes fewest) H → va_D A (wX6 cA ad thrown tape taped value weight many block ties lines pastValue pastWeight pastMany undos fresh newValue newWeight newMany newBlock newTies newLines hasBlock hasTies size att place sort number fault faultPlace lastFault lastPlace toValue toWeight toMany often firstOf lastOf unlikes unlikeMany isCandidate modes fewest) → va_S A s.heap H locs → W p l e (headSpec wsX6_sort { frames := 6, cells := 0, slots := 0, locals := 133 }).room s m args below meth c H locs 0 0 Q (F0 m 139 ls [])) → W p l e (headSpec wsX6_sort { frames := 6, cells := 0, slots := 0, locals := 133 }).room s m args below meth c H locs 0 0 Q (F0 m 35 ls []) := by
            intro n
            induction n with
            | zero => intro x1 x2 x3 x4 x5 x6 thrown tape taped value weight many block ties lines pastValue pastWeight pastMany undos fresh newValue newWeight newMany newBlock newTies newLines hasBlock hasTies size att place sort number fault faultPlace lastFault lastPlace toValue toWeight toMany often firstOf lastOf unlikes unlikeMany isCandidate modes fewest z6 ls H locs hl hP hD hS h hk35; exact e_n h
            | succ n ih35 =>
              intro x1 x2 x3 x4 x5 x6 thrown tape taped value weight many block ties lines pastValue pastWeight pastMany undos fresh newValue newWeight newMany newBlock newTies newLines hasBlock hasTies size att place sort number fault faultPlace lastFault lastPlace toValue toWeight toMany often firstOf lastOf unlikes unlikeMany isCandidate modes fewest z6 ls H locs hl hP hD hS h hk35
              rw [mX6_sort_L35.eq_2] at h
              refine lv_iload hx hb dX6_sort_35 (lv_at hl 6 rfl) ?_
              refine lv_iload_n hx hb dX6_sort_37 rfl (lv_at hl 2 rfl) ?_
              refine lv_icmp_gt (tgt := 139) hx hb dX6_sort_38 (by decide) (fun c7 => ?_) (fun c7 => ?_)
              · have h := e_t c7 h
                obtain rfl := e_s h
                exact hk35 _ _ _ (lv_sub hl [0, 1, 2, 3, 4, 5] rfl) hP hD hS
              · have h := e_f c7 h
                refine lv_iload_n hx hb dX6_sort_41 rfl (lv_at hl 3 rfl) ?_
                obtain ⟨z8, ez8, h⟩ := e_b h
                have hJ9 : ∀ (ls : Array Slot) (H : Heap) (locs : List Loc), lv_has ls 8 [(0, .ref (ad 0)), (1, .int x1), (2, .int x2), (3, .int x3), (4, .int x4), (5, .int x5), (6, .int x6)] → va_P D vwCl (wX6 cA ad thrown tape taped value weight many block ties lines pastValue pastWeight pastMany undos fresh newValue newWeight newMany newBlock newTies newLines hasBlock hasTies size att place sort number fault faultPlace lastFault lastPlace toValue toWeight toMany often firstOf lastOf unlikes unlikeMany isCandidate modes fewest) H → va_D A (wX6 cA ad thrown tape taped value weight many block ties lines pastValue pastWeight pastMany undos fresh newValue newWeight newMany newBlock newTies newLines hasBlock hasTies size att place sort number fault faultPlace lastFault lastPlace toValue toWeight toMany often firstOf lastOf unlikes unlikeMany isCandidate modes fewest) → va_S A s.heap H locs → W p l e (headSpec wsX6_sort { frames := 6, cells := 0, slots := 0, locals := 133 }).room s m args below meth c H locs 0 0 Q (F0 m 92 ls [.int z8]) := by
                  intro ls H locs hl hP hD hS
                  refine lv_istore (lv' := [(7, .int z8), (0, .ref (ad 0)), (1, .int x1), (2, .int x2), (3, .int x3), (4, .int x4), (5, .int x5), (6, .int x6)]) hx hb dX6_sort_92 hl (by decide) rfl (fun ls hl => ?_)
                  refine lv_iload hx hb dX6_sort_94 (lv_at hl 6 rfl) ?_
                  refine lv_iload hx hb dX6_sort_96 (lv_at hl 0 rfl) ?_
                  refine lv_if_ne (tgt := 125) hx hb dX6_sort_98 (by decide) (fun c10 => ?_) (fun c10 => ?_)
                  · have h := e_t c10 h
                    refine lv_iconst (v := 1) hx hb dX6_sort_125 (by decide) ?_
                    refine lv_goto (tgt := 130) hx hb dX6_sort_126 (by decide) ?_
                    refine lv_iadd hx hb dX6_sort_130 ?_
                    refine lv_istore (lv' := [(5, .int (x5 + 1)), (7, .int z8), (0, .ref (ad 0)), (1, .int x1), (2, .int x2), (3, .int x3), (4, .int x4), (6, .int x6)]) hx hb dX6_sort_131 hl (by decide) rfl (fun ls hl => ?_)
                    refine lv_iinc (v := (x6 + 1)) (lv' := [(6, .int (x6 + 1)), (5, .int (x5 + 1)), (7, .int z8), (0, .ref (ad 0)), (1, .int x1), (2, .int x2), (3, .int x3), (4, .int x4)]) hx hb dX6_sort_133 hl (k := 7) rfl rfl (by decide) rfl (fun ls hl => ?_)
                    refine lv_goto (tgt := 35) hx hb dX6_sort_136 (by decide) ?_
                    exact ih35 x1 x2 x3 x4 (x5 + 1) (x6 + 1) thrown tape taped value weight many block ties lines pastValue pastWeight pastMany undos fresh newValue newWeight newMany newBlock newTies newLines hasBlock hasTies size att place sort number fault faultPlace lastFault lastPlace toValue toWeight toMany often firstOf lastOf unlikes unlikeMany isCandidate modes fewest z6 _ _ _ (lv_sub hl [3, 4, 5, 6, 7, 1, 0] rfl) hP hD hS h hk35
                  · have h := e_f (not_not_intro c10) h
                    refine lv_aload_n hx hb dX6_sort_101 rfl (lv_at hl 1 rfl) ?_
                    refine va_get (D := D) (ci := 6) (v := .ref (ad 2)) (C := RX6) (T := TX6) (N := 42) hx hb hts iX6 hown hK hP 0 rfl rfl 3 (Nat.le_of_ble_eq_true rfl) f13 (fun _ h9 => h9) rfl dX6_sort_102 ?_
                    refine lv_iload hx hb dX6_sort_105 (lv_at hl 7 rfl) ?_
                    obtain ⟨v11, ev11, nv11, h⟩ := e_rd h
                    refine xa_iald hx hb hK hP 2 rfl nv11 ev11 dX6_sort_107 ?_
                    refine lv_aload_n hx hb dX6_sort_108 rfl (lv_at hl 1 rfl) ?_
                    refine va_get (D := D) (ci := 6) (v := .ref (ad 2)) (C := RX6) (T := TX6) (N := 42) hx hb hts iX6 hown hK hP 0 rfl rfl 3 (Nat.le_of_ble_eq_true rfl) f13 (fun _ h9 => h9) rfl dX6_sort_109 ?_
                    refine lv_iload hx hb dX6_sort_112 (lv_at hl 5 rfl) ?_
                    obtain ⟨v12, ev12, nv12, h⟩ := e_rd h
                    refine xa_iald hx hb hK hP 2 rfl nv12 ev12 dX6_sort_114 ?_
                    refine lv_icmp_ne (tgt := 129) hx hb dX6_sort_115 (by decide) (fun c13 => ?_) (fun c13 => ?_)
                    · have h := e_t c13 h
                      refine lv_iconst (v := 0) hx hb dX6_sort_129 (by decide) ?_
                      refine lv_iadd hx hb dX6_sort_130 ?_
                      refine lv_istore (lv' := [(5, .int (x5 + 0)), (7, .int z8), (0, .ref (ad 0)), (1, .int x1), (2, .int x2), (3, .int x3), (4, .int x4), (6, .int x6)]) hx hb dX6_sort_131 hl (by decide) rfl (fun ls hl => ?_)
                      refine lv_iinc (v := (x6 + 1)) (lv' := [(6, .int (x6 + 1)), (5, .int (x5 + 0)), (7, .int z8), (0, .ref (ad 0)), (1, .int x1), (2, .int x2), (3, .int x3), (4, .int x4)]) hx hb dX6_sort_133 hl (k := 7) rfl rfl (by decide) rfl (fun ls hl => ?_)
                      refine lv_goto (tgt := 35) hx hb dX6_sort_136 (by decide) ?_
                      exact ih35 x1 x2 x3 x4 (x5 + 0) (x6 + 1) thrown tape taped value weight many block ties lines pastValue pastWeight pastMany undos fresh newValue newWeight newMany newBlock newTies newLines hasBlock hasTies size att place sort number fault faultPlace lastFault lastPlace toValue toWeight toMany often firstOf lastOf unlikes unlikeMany isCandidate modes fewest z6 _ _ _ (lv_sub hl [3, 4, 5, 6, 7, 1, 0] rfl) hP hD hS h hk35
                    · have h := e_f (not_not_intro c13) h
                      refine lv_iload hx hb dX6_sort_118 (lv_at hl 7 rfl) ?_
                      refine lv_iload hx hb dX6_sort_120 (lv_at hl 5 rfl) ?_
                      refine lv_icmp_ge (tgt := 129) hx hb dX6_sort_122 (by decide) (fun c14 => ?_) (fun c14 => ?_)
                      · have h := e_t c14 h
                        refine lv_iconst (v := 0) hx hb dX6_sort_129 (by decide) ?_
                        refine lv_iadd hx hb dX6_sort_130 ?_
                        refine lv_istore (lv' := [(5, .int (x5 + 0)), (7, .int z8), (0, .ref (ad 0)), (1, .int x1), (2, .int x2), (3, .int x3), (4, .int x4), (6, .int x6)]) hx hb dX6_sort_131 hl (by decide) rfl (fun ls hl => ?_)
                        refine lv_iinc (v := (x6 + 1)) (lv' := [(6, .int (x6 + 1)), (5, .int (x5 + 0)), (7, .int z8), (0, .ref (ad 0)), (1, .int x1), (2, .int x2), (3, .int x3), (4, .int x4)]) hx hb dX6_sort_133 hl (k := 7) rfl rfl (by decide) rfl (fun ls hl => ?_)
                        refine lv_goto (tgt := 35) hx hb dX6_sort_136 (by decide) ?_
                        exact ih35 x1 x2 x3 x4 (x5 + 0) (x6 + 1) thrown tape taped value weight many block ties lines pastValue pastWeight pastMany undos fresh newValue newWeight newMany newBlock newTies newLines hasBlock hasTies size att place sort number fault faultPlace lastFault lastPlace toValue toWeight toMany often firstOf lastOf unlikes unlikeMany isCandidate modes fewest z6 _ _ _ (lv_sub hl [3, 4, 5, 6, 7, 1, 0] rfl) hP hD hS h hk35
                      · have h := e_f c14 h
                        refine lv_iconst (v := 1) hx hb dX6_sort_125 (by decide) ?_
                        refine lv_goto (tgt := 130) hx hb dX6_sort_126 (by decide) ?_
                        refine lv_iadd hx hb dX6_sort_130 ?_
                        refine lv_istore (lv' := [(5, .int (x5 + 1)), (7, .int z8), (0, .ref (ad 0)), (1, .int x1), (2, .int x2), (3, .int x3), (4, .int x4), (6, .int x6)]) hx hb dX6_sort_131 hl (by decide) rfl (fun ls hl => ?_)
                        refine lv_iinc (v := (x6 + 1)) (lv' := [(6, .int (x6 + 1)), (5, .int (x5 + 1)), (7, .int z8), (0, .ref (ad 0)), (1, .int x1), (2, .int x2), (3, .int x3), (4, .int x4)]) hx hb dX6_sort_133 hl (k := 7) rfl rfl (by decide) rfl (fun ls hl => ?_)
                        refine lv_goto (tgt := 35) hx hb dX6_sort_136 (by decide) ?_
                        exact ih35 x1 x2 x3 x4 (x5 + 1) (x6 + 1) thrown tape taped value weight many block ties lines pastValue pastWeight pastMany undos fresh newValue newWeight newMany newBlock newTies newLines hasBlock hasTies size att place sort number fault faultPlace lastFault lastPlace toValue toWeight toMany often firstOf lastOf unlikes unlikeMany isCandidate modes fewest z6 _ _ _ (lv_sub hl [3, 4, 5, 6, 7, 1, 0] rfl) hP hD hS h hk35
                have h := ez8
                refine lv_if_eq (tgt := 70) hx hb dX6_sort_42 (by decide) (fun c15 => ?_) (fun c15 => ?_)
                · have h := e_t c15 h
                  refine lv_aload_n hx hb dX6_sort_70 rfl (lv_at hl 0 rfl) ?_
                  refine va_get (D := D) (ci := 6) (v := .ref (ad 2)) (C := RX6) (T := TX6) (N := 42) hx hb hts iX6 hown hK hP 0 rfl rfl 3 (Nat.le_of_ble_eq_true rfl) f13 (fun _ h9 => h9) rfl dX6_sort_71 ?_
                  refine lv_iload hx hb dX6_sort_74 (lv_at hl 6 rfl) ?_
                  obtain ⟨v16, ev16, nv16, h⟩ := e_rd h
                  refine xa_iald hx hb hK hP 2 rfl nv16 ev16 dX6_sort_76 ?_
                  refine lv_aload_n hx hb dX6_sort_77 rfl (lv_at hl 0 rfl) ?_
                  refine va_get (D := D) (ci := 6) (v := .ref (ad 2)) (C := RX6) (T := TX6) (N := 42) hx hb hts iX6 hown hK hP 0 rfl rfl 3 (Nat.le_of_ble_eq_true rfl) f13 (fun _ h9 => h9) rfl dX6_sort_78 ?_
                  refine lv_iload hx hb dX6_sort_81 (lv_at hl 4 rfl) ?_
                  obtain ⟨v17, ev17, nv17, h⟩ := e_rd h
                  refine xa_iald hx hb hK hP 2 rfl nv17 ev17 dX6_sort_83 ?_
                  refine lv_icmp_le (tgt := 91) hx hb dX6_sort_84 (by decide) (fun c18 => ?_) (fun c18 => ?_)
                  · have h := e_t c18 h
                    refine lv_iconst (v := 0) hx hb dX6_sort_91 (by decide) ?_
                    obtain rfl := e_s h
                    exact hJ9 _ _ _ (lv_sub hl [0, 1, 2, 3, 4, 5, 6] rfl) hP hD hS
                  · have h := e_f c18 h
                    refine lv_iconst (v := 1) hx hb dX6_sort_87 (by decide) ?_
                    refine lv_goto (tgt := 92) hx hb dX6_sort_88 (by decide) ?_
                    obtain rfl := e_s h
                    exact hJ9 _ _ _ (lv_sub hl [0, 1, 2, 3, 4, 5, 6] rfl) hP hD hS
                · have h := e_f c15 h
                  refine lv_aload_n hx hb dX6_sort_45 rfl (lv_at hl 0 rfl) ?_
                  refine va_get (D := D) (ci := 6) (v := .ref (ad 2)) (C := RX6) (T := TX6) (N := 42) hx hb hts iX6 hown hK hP 0 rfl rfl 3 (Nat.le_of_ble_eq_true rfl) f13 (fun _ h9 => h9) rfl dX6_sort_46 ?_
                  refine lv_iload hx hb dX6_sort_49 (lv_at hl 6 rfl) ?_
                  obtain ⟨v19, ev19, nv19, h⟩ := e_rd h
                  refine xa_iald hx hb hK hP 2 rfl nv19 ev19 dX6_sort_51 ?_
                  refine lv_aload_n hx hb dX6_sort_52 rfl (lv_at hl 0 rfl) ?_
                  refine va_get (D := D) (ci := 6) (v := .ref (ad 2)) (C := RX6) (T := TX6) (N := 42) hx hb hts iX6 hown hK hP 0 rfl rfl 3 (Nat.le_of_ble_eq_true rfl) f13 (fun _ h9 => h9) rfl dX6_sort_53 ?_
                  refine lv_iload hx hb dX6_sort_56 (lv_at hl 4 rfl) ?_
                  obtain ⟨v20, ev20, nv20, h⟩ := e_rd h
                  refine xa_iald hx hb hK hP 2 rfl nv20 ev20 dX6_sort_58 ?_
                  refine lv_icmp_ge (tgt := 66) hx hb dX6_sort_59 (by decide) (fun c21 => ?_) (fun c21 => ?_)
                  · have h := e_t c21 h
                    refine lv_iconst (v := 0) hx hb dX6_sort_66 (by decide) ?_
                    refine lv_goto (tgt := 92) hx hb dX6_sort_67 (by decide) ?_
                    obtain rfl := e_s h
                    exact hJ9 _ _ _ (lv_sub hl [0, 1, 2, 3, 4, 5, 6] rfl) hP hD hS
                  · have h := e_f c21 h
                    refine lv_iconst (v := 1) hx hb dX6_sort_62 (by decide) ?_
                    refine lv_goto (tgt := 92) hx hb dX6_sort_63 (by decide) ?_
                    obtain rfl := e_s h
                    exact hJ9 _ _ _ (lv_sub hl [0, 1, 2, 3, 4, 5, 6] rfl) hP hD hS
          obtain ⟨z22, ez22, h⟩ := e_b h
          refine hL35 FU x1 x2 x3 x4 0 x1 thrown tape taped value weight many block ties lines pastValue pastWeight pastMany undos fresh newValue newWeight newMany newBlock newTies newLines hasBlock hasTies size att place sort number fault faultPlace lastFault lastPlace toValue toWeight toMany often firstOf lastOf unlikes unlikeMany isCandidate modes fewest z22 _ _ _ (lv_sub hl [2, 3, 4, 5, 6, 1, 0] rfl) hP hD hS ez22 (fun ls H locs hl hP hD hS => ?_)
          refine lv_aload_n hx hb dX6_sort_139 rfl (lv_at hl 0 rfl) ?_
          refine lv_iload hx hb dX6_sort_140 (lv_at hl 4 rfl) ?_
          refine lv_iload_n hx hb dX6_sort_142 rfl (lv_at hl 1 rfl) ?_
          refine lv_iload hx hb dX6_sort_143 (lv_at hl 5 rfl) ?_
          refine lv_iadd hx hb dX6_sort_145 ?_
          obtain ⟨q23, eq23, h⟩ := e_b h
          refine xv_v0 (As := [.int x4, .int (x1 + z22)]) (rest := []) (ci := 6) (b := ad 0) ⟨hx, hb, hml, hown, hts⟩ hl.1 (kX6_lies l D cA ad thrown tape taped value weight many block ties lines pastValue pastWeight pastMany undos fresh newValue newWeight newMany newBlock newTies newLines hasBlock hasTies size att place sort number fault faultPlace lastFault lastPlace toValue toWeight toMany often firstOf lastOf unlikes unlikeMany isCandidate modes fewest x4 (x1 + z22)  _ eq23) (cwV 2 hts gX6_sort_X6_lies rfl rfl rfl (by decide +kernel) ⟨Nat.le_of_ble_eq_true rfl, Nat.le_of_ble_eq_true rfl⟩) rfl hK hP hD hS hA 0 rfl rfl rfl rfl (Nat.le_of_ble_eq_true rfl) dX6_sort_146 ⟨Nat.zero_le _, Nat.zero_le _⟩ (fun H locs hP hD hS => ?_)
          have hP : va_P D vwCl (wX6 cA ad thrown tape taped value weight many block ties lines pastValue pastWeight pastMany undos fresh newValue newWeight newMany newBlock newTies newLines hasBlock hasTies size att place sort number fault faultPlace lastFault lastPlace q23.1 q23.2 toMany often firstOf lastOf unlikes unlikeMany isCandidate modes fewest) H := hP
          have hD : va_D A (wX6 cA ad thrown tape taped value weight many block ties lines pastValue pastWeight pastMany undos fresh newValue newWeight newMany newBlock newTies newLines hasBlock hasTies size att place sort number fault faultPlace lastFault lastPlace q23.1 q23.2 toMany often firstOf lastOf unlikes unlikeMany isCandidate modes fewest) := hD
          refine lv_iinc (v := (x4 + 1)) (lv' := [(4, .int (x4 + 1)), (0, .ref (ad 0)), (1, .int x1), (2, .int x2), (3, .int x3), (5, .int z22)]) hx hb dX6_sort_149 hl (k := 4) rfl rfl (by decide) rfl (fun ls hl => ?_)
          refine lv_goto (tgt := 23) hx hb dX6_sort_152 (by decide) ?_
          exact ih23 x1 x2 x3 (x4 + 1) thrown tape taped value weight many block ties lines pastValue pastWeight pastMany undos fresh newValue newWeight newMany newBlock newTies newLines hasBlock hasTies size att place sort number fault faultPlace lastFault lastPlace q23.1 q23.2 toMany often firstOf lastOf unlikes unlikeMany isCandidate modes fewest z4 _ _ _ (lv_sub hl [1, 2, 3, 4, 0] rfl) hP hD hS h hk23
    obtain ⟨z24, ez24, h⟩ := e_b h
    refine hL23 FU x1 x2 x3 x1 0 tape taped value weight many block ties lines pastValue pastWeight pastMany undos fresh newValue newWeight newMany newBlock newTies newLines hasBlock hasTies size att place sort number fault faultPlace lastFault lastPlace q3.1 q3.2.1 q3.2.2 often firstOf lastOf unlikes unlikeMany isCandidate modes fewest z24 _ _ _ (lv_sub hl [1, 2, 3, 4, 0] rfl) hP hD hS ez24 (fun ls H locs hl hP hD hS => ?_)
    refine lv_aload_n hx hb dX6_sort_155 rfl (lv_at hl 0 rfl) ?_
    obtain ⟨q25, eq25, h⟩ := e_b h
    refine xv_i0 (As := []) (rest := []) (ci := 6) (b := ad 0) ⟨hx, hb, hml, hown, hts⟩ hl.1 (kX6_done l D cA ad 0 tape taped value weight many block ties lines pastValue pastWeight pastMany undos fresh newValue newWeight newMany newBlock newTies newLines hasBlock hasTies size att place sort number fault faultPlace lastFault lastPlace z24.1 z24.2 q3.2.2 often firstOf lastOf unlikes unlikeMany isCandidate modes fewest   _ eq25) (cwV 0 hts gX6_sort_X6_done rfl rfl rfl (by decide +kernel) ⟨Nat.le_of_ble_eq_true rfl, Nat.le_of_ble_eq_true rfl⟩) rfl hK hP hD hS hA 0 rfl rfl rfl rfl (Nat.le_of_ble_eq_true rfl) dX6_sort_156 ⟨Nat.zero_le _, Nat.zero_le _⟩ (fun H locs hP hD hS hnq25 => ?_)
    have hP : va_P D vwCl (wX6 cA ad 0 tape taped q25.2.1 q25.2.2.1 q25.2.2.2.1 block ties lines q25.2.2.2.2.1 q25.2.2.2.2.2.1 q25.2.2.2.2.2.2.1 q25.2.2.2.2.2.2.2.1 q25.2.2.2.2.2.2.2.2 newValue newWeight newMany newBlock newTies newLines hasBlock hasTies size att place sort number fault faultPlace lastFault lastPlace z24.1 z24.2 q3.2.2 often firstOf lastOf unlikes unlikeMany isCandidate modes fewest) H := hP
    have hD : va_D A (wX6 cA ad 0 tape taped q25.2.1 q25.2.2.1 q25.2.2.2.1 block ties lines q25.2.2.2.2.1 q25.2.2.2.2.2.1 q25.2.2.2.2.2.2.1 q25.2.2.2.2.2.2.2.1 q25.2.2.2.2.2.2.2.2 newValue newWeight newMany newBlock newTies newLines hasBlock hasTies size att place sort number fault faultPlace lastFault lastPlace z24.1 z24.2 q3.2.2 often firstOf lastOf unlikes unlikeMany isCandidate modes fewest) := hD
    obtain rfl := e_s h
    exact hret hP hS rfl dX6_sort_159
  · have h := e_f (not_not_intro c2) h
    refine lv_iconst (v := (-1)) hx hb dX6_sort_14 (by decide) ?_
    obtain rfl := e_s h
    exact hret hP hS rfl dX6_sort_15
set_option maxHeartbeats 4000000 in
set_option maxRecDepth 100000 in
theorem kX6_refreshed (l : Launch) (D : va_G) (cA : Nat → ClassId) (ad : Nat → Nat) (thrown : Int32) (tape : Nat → Int32) (taped : Int32) (value : Nat → Int32) (weight : Nat → Int32) (many : Int32) (block : Int32) (ties : Int32) (lines : Int32) (pastValue : Nat → Int32) (pastWeight : Nat → Int32) (pastMany : Nat → Int32) (undos : Int32) (fresh : Int32) (newValue : Nat → Int32) (newWeight : Nat → Int32) (newMany : Int32) (newBlock : Int32) (newTies : Int32) (newLines : Int32) (hasBlock : Int32) (hasTies : Int32) (size : Int32) (att : Int32) (place : Int32) (sort : Int32) (number : Int32) (fault : Int32) (faultPlace : Int32) (lastFault : Int32) (lastPlace : Int32) (toValue : Nat → Int32) (toWeight : Nat → Int32) (toMany : Int32) (often : Nat → Int32) (firstOf : Nat → Int32) (lastOf : Nat → Int32) (unlikes : Nat → Int32) (unlikeMany : Int32) (isCandidate : Nat → Int32) (modes : Nat → Int32) (fewest : Nat → Int32)  (q : Int32 × Int32) (h : mX6_refreshed thrown fresh  = some q) : MI l yX6_refreshed wsX6_refreshed { frames := 0, cells := 0, slots := 0, locals := 0 } D cA .int [.ref (ad 0)] (wX6 cA ad thrown tape taped value weight many block ties lines pastValue pastWeight pastMany undos fresh newValue newWeight newMany newBlock newTies newLines hasBlock hasTies size att place sort number fault faultPlace lastFault lastPlace toValue toWeight toMany often firstOf lastOf unlikes unlikeMany isCandidate modes fewest) (wX6 cA ad q.2 tape taped value weight many block ties lines pastValue pastWeight pastMany undos fresh newValue newWeight newMany newBlock newTies newLines hasBlock hasTies size att place sort number fault faultPlace lastFault lastPlace toValue toWeight toMany often firstOf lastOf unlikes unlikeMany isCandidate modes fewest) q.1 := by
  refine MI.of (cc := cX6_refreshed) (maxL := 1) (by decide +kernel) rfl rfl rfl (Nat.le_of_ble_eq_true rfl) ?_
  intro p e s m args below meth c A ls Q hx hb hml hts hown hK hP hD hA hS hl hret
  have hl : lv_has ls 1 [(0, .ref (ad 0))] := hl
  have f28 := hts (.fieldLink RX6 28 "ModeDeskModel" "fresh" "I") (by decide +kernel)
  have f72 := hts (.fieldLink RX6 72 "ModeDeskModel" "thrown" "I") (by decide +kernel)
  have iX6 : ∀ w ∈ wsX60, w ∈ wsX6_refreshed := by decide +kernel
  unfold mX6_refreshed at h
  refine lv_aload_n hx hb dX6_refreshed_0 rfl (lv_at hl 0 rfl) ?_
  refine lv_iconst (v := 0) hx hb dX6_refreshed_1 (by decide) ?_
  refine va_put (D := D) (ci := 6) (v := .int 0) (ty := .int) (C := RX6) (T := TX6) (N := 42) hx hb hts iX6 tyX6 tyX6_ok nmX6 hown hK hP hD hS 0 rfl rfl 0 (Nat.le_of_ble_eq_true rfl) f72 (fun _ h9 => h9) rfl (tyX6_ok 0 (Nat.le_of_ble_eq_true rfl)) rfl rfl (Nat.le_of_ble_eq_true rfl) dX6_refreshed_2 (fun H locs hP hD hS => ?_)
  have hP : va_P D vwCl (wX6 cA ad 0 tape taped value weight many block ties lines pastValue pastWeight pastMany undos fresh newValue newWeight newMany newBlock newTies newLines hasBlock hasTies size att place sort number fault faultPlace lastFault lastPlace toValue toWeight toMany often firstOf lastOf unlikes unlikeMany isCandidate modes fewest) H := hP
  have hD : va_D A (wX6 cA ad 0 tape taped value weight many block ties lines pastValue pastWeight pastMany undos fresh newValue newWeight newMany newBlock newTies newLines hasBlock hasTies size att place sort number fault faultPlace lastFault lastPlace toValue toWeight toMany often firstOf lastOf unlikes unlikeMany isCandidate modes fewest) := hD
  refine lv_aload_n hx hb dX6_refreshed_5 rfl (lv_at hl 0 rfl) ?_
  refine va_get (D := D) (ci := 6) (v := .int fresh) (C := RX6) (T := TX6) (N := 42) hx hb hts iX6 hown hK hP 0 rfl rfl 13 (Nat.le_of_ble_eq_true rfl) f28 (fun _ h9 => h9) rfl dX6_refreshed_6 ?_
  obtain rfl := e_s h
  exact hret hP hS rfl dX6_refreshed_9
set_option maxHeartbeats 4000000 in
set_option maxRecDepth 100000 in
theorem kX6_was (l : Launch) (D : va_G) (cA : Nat → ClassId) (ad : Nat → Nat) (thrown : Int32) (tape : Nat → Int32) (taped : Int32) (value : Nat → Int32) (weight : Nat → Int32) (many : Int32) (block : Int32) (ties : Int32) (lines : Int32) (pastValue : Nat → Int32) (pastWeight : Nat → Int32) (pastMany : Nat → Int32) (undos : Int32) (fresh : Int32) (newValue : Nat → Int32) (newWeight : Nat → Int32) (newMany : Int32) (newBlock : Int32) (newTies : Int32) (newLines : Int32) (hasBlock : Int32) (hasTies : Int32) (size : Int32) (att : Int32) (place : Int32) (sort : Int32) (number : Int32) (fault : Int32) (faultPlace : Int32) (lastFault : Int32) (lastPlace : Int32) (toValue : Nat → Int32) (toWeight : Nat → Int32) (toMany : Int32) (often : Nat → Int32) (firstOf : Nat → Int32) (lastOf : Nat → Int32) (unlikes : Nat → Int32) (unlikeMany : Int32) (isCandidate : Nat → Int32) (modes : Nat → Int32) (fewest : Nat → Int32) (x1 : Int32) (x2 : Int32) (q : Int32 × Int32) (h : mX6_was thrown value many pastValue pastMany undos x1 x2 = some q) : MI l yX6_was wsX6_was { frames := 0, cells := 0, slots := 0, locals := 0 } D cA .int [.ref (ad 0), .int x1, .int x2] (wX6 cA ad thrown tape taped value weight many block ties lines pastValue pastWeight pastMany undos fresh newValue newWeight newMany newBlock newTies newLines hasBlock hasTies size att place sort number fault faultPlace lastFault lastPlace toValue toWeight toMany often firstOf lastOf unlikes unlikeMany isCandidate modes fewest) (wX6 cA ad q.2 tape taped value weight many block ties lines pastValue pastWeight pastMany undos fresh newValue newWeight newMany newBlock newTies newLines hasBlock hasTies size att place sort number fault faultPlace lastFault lastPlace toValue toWeight toMany often firstOf lastOf unlikes unlikeMany isCandidate modes fewest) q.1 := by
  refine MI.of (cc := cX6_was) (maxL := 4) (by decide +kernel) rfl rfl rfl (Nat.le_of_ble_eq_true rfl) ?_
  intro p e s m args below meth c A ls Q hx hb hml hts hown hK hP hD hA hS hl hret
  have hl : lv_has ls 4 [(0, .ref (ad 0)), (1, .int x1), (2, .int x2)] := hl
  have f13 := hts (.fieldLink RX6 13 "ModeDeskModel" "value" "[I") (by decide +kernel)
  have f175 := hts (.fieldLink RX6 175 "ModeDeskModel" "many" "I") (by decide +kernel)
  have f184 := hts (.fieldLink RX6 184 "ModeDeskModel" "undos" "I") (by decide +kernel)
  have f19 := hts (.fieldLink RX6 19 "ModeDeskModel" "pastValue" "[I") (by decide +kernel)
  have f25 := hts (.fieldLink RX6 25 "ModeDeskModel" "pastMany" "[I") (by decide +kernel)
  have f72 := hts (.fieldLink RX6 72 "ModeDeskModel" "thrown" "I") (by decide +kernel)
  have iX6 : ∀ w ∈ wsX60, w ∈ wsX6_was := by decide +kernel
  unfold mX6_was at h
  refine lv_aload_n hx hb dX6_was_0 rfl (lv_at hl 0 rfl) ?_
  refine lv_iconst (v := 0) hx hb dX6_was_1 (by decide) ?_
  refine va_put (D := D) (ci := 6) (v := .int 0) (ty := .int) (C := RX6) (T := TX6) (N := 42) hx hb hts iX6 tyX6 tyX6_ok nmX6 hown hK hP hD hS 0 rfl rfl 0 (Nat.le_of_ble_eq_true rfl) f72 (fun _ h9 => h9) rfl (tyX6_ok 0 (Nat.le_of_ble_eq_true rfl)) rfl rfl (Nat.le_of_ble_eq_true rfl) dX6_was_2 (fun H locs hP hD hS => ?_)
  have hP : va_P D vwCl (wX6 cA ad 0 tape taped value weight many block ties lines pastValue pastWeight pastMany undos fresh newValue newWeight newMany newBlock newTies newLines hasBlock hasTies size att place sort number fault faultPlace lastFault lastPlace toValue toWeight toMany often firstOf lastOf unlikes unlikeMany isCandidate modes fewest) H := hP
  have hD : va_D A (wX6 cA ad 0 tape taped value weight many block ties lines pastValue pastWeight pastMany undos fresh newValue newWeight newMany newBlock newTies newLines hasBlock hasTies size att place sort number fault faultPlace lastFault lastPlace toValue toWeight toMany often firstOf lastOf unlikes unlikeMany isCandidate modes fewest) := hD
  refine lv_iload_n hx hb dX6_was_5 rfl (lv_at hl 1 rfl) ?_
  refine lv_if_lt (tgt := 21) hx hb dX6_was_6 (by decide) (fun c1 => ?_) (fun c1 => ?_)
  · have h := e_t c1 h
    refine lv_iconst (v := (-1)) hx hb dX6_was_21 (by decide) ?_
    obtain rfl := e_s h
    exact hret hP hS rfl dX6_was_22
  · have h := e_f c1 h
    refine lv_iload_n hx hb dX6_was_9 rfl (lv_at hl 1 rfl) ?_
    refine lv_aload_n hx hb dX6_was_10 rfl (lv_at hl 0 rfl) ?_
    refine va_get (D := D) (ci := 6) (v := .int undos) (C := RX6) (T := TX6) (N := 42) hx hb hts iX6 hown hK hP 0 rfl rfl 12 (Nat.le_of_ble_eq_true rfl) f184 (fun _ h9 => h9) rfl dX6_was_11 ?_
    refine lv_icmp_gt (tgt := 21) hx hb dX6_was_14 (by decide) (fun c2 => ?_) (fun c2 => ?_)
    · have h := e_t c2 h
      refine lv_iconst (v := (-1)) hx hb dX6_was_21 (by decide) ?_
      obtain rfl := e_s h
      exact hret hP hS rfl dX6_was_22
    · have h := e_f c2 h
      refine lv_iload_n hx hb dX6_was_17 rfl (lv_at hl 2 rfl) ?_
      refine lv_if_ge (tgt := 23) hx hb dX6_was_18 (by decide) (fun c3 => ?_) (fun c3 => ?_)
      · have h := e_t c3 h
        refine lv_iload_n hx hb dX6_was_23 rfl (lv_at hl 1 rfl) ?_
        refine lv_if_ne (tgt := 47) hx hb dX6_was_24 (by decide) (fun c4 => ?_) (fun c4 => ?_)
        · have h := e_t c4 h
          refine lv_aload_n hx hb dX6_was_47 rfl (lv_at hl 0 rfl) ?_
          refine va_get (D := D) (ci := 6) (v := .int undos) (C := RX6) (T := TX6) (N := 42) hx hb hts iX6 hown hK hP 0 rfl rfl 12 (Nat.le_of_ble_eq_true rfl) f184 (fun _ h9 => h9) rfl dX6_was_48 ?_
          refine lv_iload_n hx hb dX6_was_51 rfl (lv_at hl 1 rfl) ?_
          refine lv_isub hx hb dX6_was_52 ?_
          refine lv_istore_n (lv' := [(3, .int (undos - x1)), (0, .ref (ad 0)), (1, .int x1), (2, .int x2)]) hx hb dX6_was_53 rfl hl (by decide) rfl (fun ls hl => ?_)
          refine lv_iload_n hx hb dX6_was_54 rfl (lv_at hl 3 rfl) ?_
          refine lv_aload_n hx hb dX6_was_55 rfl (lv_at hl 1 rfl) ?_
          refine va_get (D := D) (ci := 6) (v := .ref (ad 6)) (C := RX6) (T := TX6) (N := 42) hx hb hts iX6 hown hK hP 0 rfl rfl 11 (Nat.le_of_ble_eq_true rfl) f25 (fun _ h9 => h9) rfl dX6_was_56 ?_
          refine lv_iload_n hx hb dX6_was_59 rfl (lv_at hl 0 rfl) ?_
          obtain ⟨v5, ev5, nv5, h⟩ := e_rd h
          refine xa_iald hx hb hK hP 6 rfl nv5 ev5 dX6_was_60 ?_
          refine lv_icmp_ge (tgt := 78) hx hb dX6_was_61 (by decide) (fun c6 => ?_) (fun c6 => ?_)
          · have h := e_t c6 h
            refine lv_bipush (v := (-2)) hx hb dX6_was_78 (by decide) ?_
            obtain rfl := e_s h
            exact hret hP hS rfl dX6_was_80
          · have h := e_f c6 h
            refine lv_aload_n hx hb dX6_was_64 rfl (lv_at hl 1 rfl) ?_
            refine va_get (D := D) (ci := 6) (v := .ref (ad 4)) (C := RX6) (T := TX6) (N := 42) hx hb hts iX6 hown hK hP 0 rfl rfl 9 (Nat.le_of_ble_eq_true rfl) f19 (fun _ h9 => h9) rfl dX6_was_65 ?_
            refine lv_bipush (v := 120) hx hb dX6_was_68 (by decide) ?_
            refine lv_iload_n hx hb dX6_was_70 rfl (lv_at hl 0 rfl) ?_
            refine lv_imul hx hb dX6_was_71 ?_
            refine lv_iload_n hx hb dX6_was_72 rfl (lv_at hl 3 rfl) ?_
            refine lv_iadd hx hb dX6_was_73 ?_
            obtain ⟨v7, ev7, nv7, h⟩ := e_rd h
            refine xa_iald hx hb hK hP 4 rfl nv7 ev7 dX6_was_74 ?_
            refine lv_goto (tgt := 80) hx hb dX6_was_75 (by decide) ?_
            obtain rfl := e_s h
            exact hret hP hS rfl dX6_was_80
        · have h := e_f (not_not_intro c4) h
          refine lv_iload_n hx hb dX6_was_27 rfl (lv_at hl 2 rfl) ?_
          refine lv_aload_n hx hb dX6_was_28 rfl (lv_at hl 0 rfl) ?_
          refine va_get (D := D) (ci := 6) (v := .int many) (C := RX6) (T := TX6) (N := 42) hx hb hts iX6 hown hK hP 0 rfl rfl 5 (Nat.le_of_ble_eq_true rfl) f175 (fun _ h9 => h9) rfl dX6_was_29 ?_
          refine lv_icmp_ge (tgt := 44) hx hb dX6_was_32 (by decide) (fun c8 => ?_) (fun c8 => ?_)
          · have h := e_t c8 h
            refine lv_bipush (v := (-2)) hx hb dX6_was_44 (by decide) ?_
            obtain rfl := e_s h
            exact hret hP hS rfl dX6_was_46
          · have h := e_f c8 h
            refine lv_aload_n hx hb dX6_was_35 rfl (lv_at hl 0 rfl) ?_
            refine va_get (D := D) (ci := 6) (v := .ref (ad 2)) (C := RX6) (T := TX6) (N := 42) hx hb hts iX6 hown hK hP 0 rfl rfl 3 (Nat.le_of_ble_eq_true rfl) f13 (fun _ h9 => h9) rfl dX6_was_36 ?_
            refine lv_iload_n hx hb dX6_was_39 rfl (lv_at hl 2 rfl) ?_
            obtain ⟨v9, ev9, nv9, h⟩ := e_rd h
            refine xa_iald hx hb hK hP 2 rfl nv9 ev9 dX6_was_40 ?_
            refine lv_goto (tgt := 46) hx hb dX6_was_41 (by decide) ?_
            obtain rfl := e_s h
            exact hret hP hS rfl dX6_was_46
      · have h := e_f c3 h
        refine lv_iconst (v := (-1)) hx hb dX6_was_21 (by decide) ?_
        obtain rfl := e_s h
        exact hret hP hS rfl dX6_was_22
set_option maxHeartbeats 4000000 in
set_option maxRecDepth 100000 in
theorem kX6_counts (l : Launch) (D : va_G) (cA : Nat → ClassId) (ad : Nat → Nat) (thrown : Int32) (tape : Nat → Int32) (taped : Int32) (value : Nat → Int32) (weight : Nat → Int32) (many : Int32) (block : Int32) (ties : Int32) (lines : Int32) (pastValue : Nat → Int32) (pastWeight : Nat → Int32) (pastMany : Nat → Int32) (undos : Int32) (fresh : Int32) (newValue : Nat → Int32) (newWeight : Nat → Int32) (newMany : Int32) (newBlock : Int32) (newTies : Int32) (newLines : Int32) (hasBlock : Int32) (hasTies : Int32) (size : Int32) (att : Int32) (place : Int32) (sort : Int32) (number : Int32) (fault : Int32) (faultPlace : Int32) (lastFault : Int32) (lastPlace : Int32) (toValue : Nat → Int32) (toWeight : Nat → Int32) (toMany : Int32) (often : Nat → Int32) (firstOf : Nat → Int32) (lastOf : Nat → Int32) (unlikes : Nat → Int32) (unlikeMany : Int32) (isCandidate : Nat → Int32) (modes : Nat → Int32) (fewest : Nat → Int32) (x1 : Int32) (x2 : Int32) (x3 : Int32) (q : (Nat → Int32) × (Nat → Int32) × (Nat → Int32) × (Nat → Int32) × Int32) (h : mX6_counts value often firstOf lastOf unlikes unlikeMany x1 x2 x3 = some q) : MV l yX6_counts wsX6_counts { frames := 0, cells := 0, slots := 0, locals := 0 } D cA [.ref (ad 0), .int x1, .int x2, .int x3] (wX6 cA ad thrown tape taped value weight many block ties lines pastValue pastWeight pastMany undos fresh newValue newWeight newMany newBlock newTies newLines hasBlock hasTies size att place sort number fault faultPlace lastFault lastPlace toValue toWeight toMany often firstOf lastOf unlikes unlikeMany isCandidate modes fewest) (wX6 cA ad thrown tape taped value weight many block ties lines pastValue pastWeight pastMany undos fresh newValue newWeight newMany newBlock newTies newLines hasBlock hasTies size att place sort number fault faultPlace lastFault lastPlace toValue toWeight toMany q.1 q.2.1 q.2.2.1 q.2.2.2.1 q.2.2.2.2 isCandidate modes fewest) := by
  refine MV.of (cc := cX6_counts) (maxL := 6) (by decide) rfl rfl rfl (Nat.le_of_ble_eq_true rfl) ?_
  intro p e s m args below meth c A ls Q hx hb hml hts hown hK hP hD hA hS hl hret
  have hl : lv_has ls 6 [(0, .ref (ad 0)), (1, .int x1), (2, .int x2), (3, .int x3)] := hl
  have f13 := hts (.fieldLink RX6 13 "ModeDeskModel" "value" "[I") (by decide +kernel)
  have f242 := hts (.fieldLink RX6 242 "ModeDeskModel" "unlikeMany" "I") (by decide +kernel)
  have f47 := hts (.fieldLink RX6 47 "ModeDeskModel" "often" "[I") (by decide +kernel)
  have f50 := hts (.fieldLink RX6 50 "ModeDeskModel" "firstOf" "[I") (by decide +kernel)
  have f53 := hts (.fieldLink RX6 53 "ModeDeskModel" "lastOf" "[I") (by decide +kernel)
  have f56 := hts (.fieldLink RX6 56 "ModeDeskModel" "unlikes" "[I") (by decide +kernel)
  have iX6 : ∀ w ∈ wsX60, w ∈ wsX6_counts := by decide +kernel
  unfold mX6_counts at h
  refine lv_iconst (v := 0) hx hb dX6_counts_0 (by decide) ?_
  refine lv_istore (lv' := [(4, .int 0), (0, .ref (ad 0)), (1, .int x1), (2, .int x2), (3, .int x3)]) hx hb dX6_counts_1 hl (by decide) rfl (fun ls hl => ?_)
  have hL3 : ∀ (n : Nat) (x1 : Int32) (x2 : Int32) (x3 : Int32) (x4 : Int32) (thrown : Int32) (tape : Nat → Int32) (taped : Int32) (value : Nat → Int32) (weight : Nat → Int32) (many : Int32) (block : Int32) (ties : Int32) (lines : Int32) (pastValue : Nat → Int32) (pastWeight : Nat → Int32) (pastMany : Nat → Int32) (undos : Int32) (fresh : Int32) (newValue : Nat → Int32) (newWeight : Nat → Int32) (newMany : Int32) (newBlock : Int32) (newTies : Int32) (newLines : Int32) (hasBlock : Int32) (hasTies : Int32) (size : Int32) (att : Int32) (place : Int32) (sort : Int32) (number : Int32) (fault : Int32) (faultPlace : Int32) (lastFault : Int32) (lastPlace : Int32) (toValue : Nat → Int32) (toWeight : Nat → Int32) (toMany : Int32) (often : Nat → Int32) (firstOf : Nat → Int32) (lastOf : Nat → Int32) (unlikes : Nat → Int32) (unlikeMany : Int32) (isCandidate : Nat → Int32) (modes : Nat → Int32) (fewest : Nat → Int32) (z1 : (Nat → Int32)) (ls : Array Slot) (H : Heap) (locs : List Loc), lv_has ls 6 [(0, .ref (ad 0)), (1, .int x1), (2, .int x2), (3, .int x3), (4, .int x4)] → va_P D vwCl (wX6 cA ad thrown tape taped value weight many block ties lines pastValue pastWeight pastMany undos fresh newValue newWeight newMany newBlock newTies newLines hasBlock hasTies size att place sort number fault faultPlace lastFault lastPlace toValue toWeight toMany often firstOf lastOf unlikes unlikeMany isCandidate modes fewest) H → va_D A (wX6 cA ad thrown tape taped value weight many block ties lines pastValue pastWeight pastMany undos fresh newValue newWeight newMany newBlock newTies newLines hasBlock hasTies size att place sort number fault faultPlace lastFault lastPlace toValue toWeight toMany often firstOf lastOf unlikes unlikeMany isCandidate modes fewest) → va_S A s.heap H locs → mX6_counts_L3  n x4 often = some z1 → (∀ (ls : Array Slot) (H : Heap) (locs : List Loc), lv_has ls 6 [(0, .ref (ad 0)), (1, .int x1), (2, .int x2), (3, .int x3)] → va_P D vwCl (wX6 cA ad thrown tape taped value weight many block ties lines pastValue pastWeight pastMany undos fresh newValue newWeight newMany newBlock newTies newLines hasBlock hasTies size att place sort number fault faultPlace lastFault lastPlace toValue toWeight toMany z1 firstOf lastOf unlikes unlikeMany isCandidate modes fewest) H → va_D A (wX6 cA ad thrown tape taped value weight many block ties lines pastValue pastWeight pastMany undos fresh newValue newWeight newMany newBlock newTies newLines hasBlock hasTies size att place sort number fault faultPlace lastFault lastPlace toValue toWeight toMany z1 firstOf lastOf unlikes unlikeMany isCandidate modes fewest) → va_S A s.heap H locs → W p l e (headSpec wsX6_counts { frames := 0, cells := 0, slots := 0, locals := 0 }).room s m args below meth c H locs 0 0 Q (F0 m 25 ls [])) → W p l e (headSpec wsX6_counts { frames := 0, cells := 0, slots := 0, locals := 0 }).room s m args below meth c H locs 0 0 Q (F0 m 3 ls []) := by
    intro n
    induction n with
    | zero => intro x1 x2 x3 x4 thrown tape taped value weight many block ties lines pastValue pastWeight pastMany undos fresh newValue newWeight newMany newBlock newTies newLines hasBlock hasTies size att place sort number fault faultPlace lastFault lastPlace toValue toWeight toMany often firstOf lastOf unlikes unlikeMany isCandidate modes fewest z1 ls H locs hl hP hD hS h hk3; exact e_n h
    | succ n ih3 =>
      intro x1 x2 x3 x4 thrown tape taped value weight many block ties lines pastValue pastWeight pastMany undos fresh newValue newWeight newMany newBlock newTies newLines hasBlock hasTies size att place sort number fault faultPlace lastFault lastPlace toValue toWeight toMany often firstOf lastOf unlikes unlikeMany isCandidate modes fewest z1 ls H locs hl hP hD hS h hk3
      rw [mX6_counts_L3.eq_2] at h
      refine lv_iload hx hb dX6_counts_3 (lv_at hl 4 rfl) ?_
      refine lv_sipush (v := 1000) hx hb dX6_counts_5 (by decide) ?_
      refine lv_icmp_ge (tgt := 25) hx hb dX6_counts_8 (by decide) (fun c2 => ?_) (fun c2 => ?_)
      · have h := e_t c2 h
        obtain rfl := e_s h
        exact hk3 _ _ _ (lv_sub hl [0, 1, 2, 3] rfl) hP hD hS
      · have h := e_f c2 h
        refine lv_aload_n hx hb dX6_counts_11 rfl (lv_at hl 0 rfl) ?_
        refine va_get (D := D) (ci := 6) (v := .ref (ad 11)) (C := RX6) (T := TX6) (N := 42) hx hb hts iX6 hown hK hP 0 rfl rfl 34 (Nat.le_of_ble_eq_true rfl) f47 (fun _ h9 => h9) rfl dX6_counts_12 ?_
        refine lv_iload hx hb dX6_counts_15 (lv_at hl 4 rfl) ?_
        refine lv_iconst (v := 0) hx hb dX6_counts_17 (by decide) ?_
        obtain ⟨a3, ea3, na3, h⟩ := e_wr h
        refine xa_iast hx hb hK hP hD hS 11 rfl na3 ea3 dX6_counts_18 (fun H locs hP hD hS => ?_)
        have hP : va_P D vwCl (wX6 cA ad thrown tape taped value weight many block ties lines pastValue pastWeight pastMany undos fresh newValue newWeight newMany newBlock newTies newLines hasBlock hasTies size att place sort number fault faultPlace lastFault lastPlace toValue toWeight toMany a3 firstOf lastOf unlikes unlikeMany isCandidate modes fewest) H := hP
        have hD : va_D A (wX6 cA ad thrown tape taped value weight many block ties lines pastValue pastWeight pastMany undos fresh newValue newWeight newMany newBlock newTies newLines hasBlock hasTies size att place sort number fault faultPlace lastFault lastPlace toValue toWeight toMany a3 firstOf lastOf unlikes unlikeMany isCandidate modes fewest) := hD
        refine lv_iinc (v := (x4 + 1)) (lv' := [(4, .int (x4 + 1)), (0, .ref (ad 0)), (1, .int x1), (2, .int x2), (3, .int x3)]) hx hb dX6_counts_19 hl (k := 4) rfl rfl (by decide) rfl (fun ls hl => ?_)
        refine lv_goto (tgt := 3) hx hb dX6_counts_22 (by decide) ?_
        exact ih3 x1 x2 x3 (x4 + 1) thrown tape taped value weight many block ties lines pastValue pastWeight pastMany undos fresh newValue newWeight newMany newBlock newTies newLines hasBlock hasTies size att place sort number fault faultPlace lastFault lastPlace toValue toWeight toMany a3 firstOf lastOf unlikes unlikeMany isCandidate modes fewest z1 _ _ _ (lv_sub hl [1, 2, 3, 4, 0] rfl) hP hD hS h hk3
  obtain ⟨z4, ez4, h⟩ := e_b h
  refine hL3 FU x1 x2 x3 0 thrown tape taped value weight many block ties lines pastValue pastWeight pastMany undos fresh newValue newWeight newMany newBlock newTies newLines hasBlock hasTies size att place sort number fault faultPlace lastFault lastPlace toValue toWeight toMany often firstOf lastOf unlikes unlikeMany isCandidate modes fewest z4 _ _ _ (lv_sub hl [1, 2, 3, 4, 0] rfl) hP hD hS ez4 (fun ls H locs hl hP hD hS => ?_)
  refine lv_aload_n hx hb dX6_counts_25 rfl (lv_at hl 0 rfl) ?_
  refine lv_iconst (v := 0) hx hb dX6_counts_26 (by decide) ?_
  refine va_put (D := D) (ci := 6) (v := .int 0) (ty := .int) (C := RX6) (T := TX6) (N := 42) hx hb hts iX6 tyX6 tyX6_ok nmX6 hown hK hP hD hS 0 rfl rfl 38 (Nat.le_of_ble_eq_true rfl) f242 (fun _ h9 => h9) rfl (tyX6_ok 38 (Nat.le_of_ble_eq_true rfl)) rfl rfl (Nat.le_of_ble_eq_true rfl) dX6_counts_27 (fun H locs hP hD hS => ?_)
  have hP : va_P D vwCl (wX6 cA ad thrown tape taped value weight many block ties lines pastValue pastWeight pastMany undos fresh newValue newWeight newMany newBlock newTies newLines hasBlock hasTies size att place sort number fault faultPlace lastFault lastPlace toValue toWeight toMany z4 firstOf lastOf unlikes 0 isCandidate modes fewest) H := hP
  have hD : va_D A (wX6 cA ad thrown tape taped value weight many block ties lines pastValue pastWeight pastMany undos fresh newValue newWeight newMany newBlock newTies newLines hasBlock hasTies size att place sort number fault faultPlace lastFault lastPlace toValue toWeight toMany z4 firstOf lastOf unlikes 0 isCandidate modes fewest) := hD
  refine lv_iload_n hx hb dX6_counts_30 rfl (lv_at hl 1 rfl) ?_
  refine lv_istore (lv' := [(4, .int x1), (0, .ref (ad 0)), (1, .int x1), (2, .int x2), (3, .int x3)]) hx hb dX6_counts_31 hl (by decide) rfl (fun ls hl => ?_)
  have hL33 : ∀ (n : Nat) (x2 : Int32) (x3 : Int32) (x4 : Int32) (thrown : Int32) (tape : Nat → Int32) (taped : Int32) (value : Nat → Int32) (weight : Nat → Int32) (many : Int32) (block : Int32) (ties : Int32) (lines : Int32) (pastValue : Nat → Int32) (pastWeight : Nat → Int32) (pastMany : Nat → Int32) (undos : Int32) (fresh : Int32) (newValue : Nat → Int32) (newWeight : Nat → Int32) (newMany : Int32) (newBlock : Int32) (newTies : Int32) (newLines : Int32) (hasBlock : Int32) (hasTies : Int32) (size : Int32) (att : Int32) (place : Int32) (sort : Int32) (number : Int32) (fault : Int32) (faultPlace : Int32) (lastFault : Int32) (lastPlace : Int32) (toValue : Nat → Int32) (toWeight : Nat → Int32) (toMany : Int32) (often : Nat → Int32) (firstOf : Nat → Int32) (lastOf : Nat → Int32) (unlikes : Nat → Int32) (unlikeMany : Int32) (isCandidate : Nat → Int32) (modes : Nat → Int32) (fewest : Nat → Int32) (z5 : (Nat → Int32) × (Nat → Int32) × (Nat → Int32) × (Nat → Int32) × Int32) (ls : Array Slot) (H : Heap) (locs : List Loc), lv_has ls 6 [(0, .ref (ad 0)), (2, .int x2), (3, .int x3), (4, .int x4)] → va_P D vwCl (wX6 cA ad thrown tape taped value weight many block ties lines pastValue pastWeight pastMany undos fresh newValue newWeight newMany newBlock newTies newLines hasBlock hasTies size att place sort number fault faultPlace lastFault lastPlace toValue toWeight toMany often firstOf lastOf unlikes unlikeMany isCandidate modes fewest) H → va_D A (wX6 cA ad thrown tape taped value weight many block ties lines pastValue pastWeight pastMany undos fresh newValue newWeight newMany newBlock newTies newLines hasBlock hasTies size att place sort number fault faultPlace lastFault lastPlace toValue toWeight toMany often firstOf lastOf unlikes unlikeMany isCandidate modes fewest) → va_S A s.heap H locs → mX6_counts_L33 value x2 x3 n x4 often firstOf lastOf unlikes unlikeMany = some z5 → (∀ (ls : Array Slot) (H : Heap) (locs : List Loc), lv_has ls 6 [] → va_P D vwCl (wX6 cA ad thrown tape taped value weight many block ties lines pastValue pastWeight pastMany undos fresh newValue newWeight newMany newBlock newTies newLines hasBlock hasTies size att place sort number fault faultPlace lastFault lastPlace toValue toWeight toMany z5.1 z5.2.1 z5.2.2.1 z5.2.2.2.1 z5.2.2.2.2 isCandidate modes fewest) H → va_D A (wX6 cA ad thrown tape taped value weight many block ties lines pastValue pastWeight pastMany undos fresh newValue newWeight newMany newBlock newTies newLines hasBlock hasTies size att place sort number fault faultPlace lastFault lastPlace toValue toWeight toMany z5.1 z5.2.1 z5.2.2.1 z5.2.2.2.1 z5.2.2.2.2 isCandidate modes fewest) → va_S A s.heap H locs → W p l e (headSpec wsX6_counts { frames := 0, cells := 0, slots := 0, locals := 0 }).room s m args below meth c H locs 0 0 Q (F0 m 123 ls [])) → W p l e (headSpec wsX6_counts { frames := 0, cells := 0, slots := 0, locals := 0 }).room s m args below meth c H locs 0 0 Q (F0 m 33 ls []) := by
    intro n
    induction n with
    | zero => intro x2 x3 x4 thrown tape taped value weight many block ties lines pastValue pastWeight pastMany undos fresh newValue newWeight newMany newBlock newTies newLines hasBlock hasTies size att place sort number fault faultPlace lastFault lastPlace toValue toWeight toMany often firstOf lastOf unlikes unlikeMany isCandidate modes fewest z5 ls H locs hl hP hD hS h hk33; exact e_n h
    | succ n ih33 =>
      intro x2 x3 x4 thrown tape taped value weight many block ties lines pastValue pastWeight pastMany undos fresh newValue newWeight newMany newBlock newTies newLines hasBlock hasTies size att place sort number fault faultPlace lastFault lastPlace toValue toWeight toMany often firstOf lastOf unlikes unlikeMany isCandidate modes fewest z5 ls H locs hl hP hD hS h hk33
      rw [mX6_counts_L33.eq_2] at h
      refine lv_iload hx hb dX6_counts_33 (lv_at hl 3 rfl) ?_
      refine lv_iload_n hx hb dX6_counts_35 rfl (lv_at hl 1 rfl) ?_
      refine lv_icmp_gt (tgt := 123) hx hb dX6_counts_36 (by decide) (fun c6 => ?_) (fun c6 => ?_)
      · have h := e_t c6 h
        obtain rfl := e_s h
        exact hk33 _ _ _ (lv_sub hl [] rfl) hP hD hS
      · have h := e_f c6 h
        refine lv_iload hx hb dX6_counts_39 (lv_at hl 3 rfl) ?_
        refine lv_iload_n hx hb dX6_counts_41 rfl (lv_at hl 2 rfl) ?_
        refine lv_icmp_ne (tgt := 48) hx hb dX6_counts_42 (by decide) (fun c7 => ?_) (fun c7 => ?_)
        · have h := e_t c7 h
          refine lv_aload_n hx hb dX6_counts_48 rfl (lv_at hl 0 rfl) ?_
          refine va_get (D := D) (ci := 6) (v := .ref (ad 2)) (C := RX6) (T := TX6) (N := 42) hx hb hts iX6 hown hK hP 0 rfl rfl 3 (Nat.le_of_ble_eq_true rfl) f13 (fun _ h9 => h9) rfl dX6_counts_49 ?_
          refine lv_iload hx hb dX6_counts_52 (lv_at hl 3 rfl) ?_
          obtain ⟨v8, ev8, nv8, h⟩ := e_rd h
          refine xa_iald hx hb hK hP 2 rfl nv8 ev8 dX6_counts_54 ?_
          refine lv_istore (lv' := [(5, .int v8), (0, .ref (ad 0)), (2, .int x2), (3, .int x3), (4, .int x4)]) hx hb dX6_counts_55 hl (by decide) rfl (fun ls hl => ?_)
          refine lv_aload_n hx hb dX6_counts_57 rfl (lv_at hl 1 rfl) ?_
          refine va_get (D := D) (ci := 6) (v := .ref (ad 11)) (C := RX6) (T := TX6) (N := 42) hx hb hts iX6 hown hK hP 0 rfl rfl 34 (Nat.le_of_ble_eq_true rfl) f47 (fun _ h9 => h9) rfl dX6_counts_58 ?_
          refine lv_iload hx hb dX6_counts_61 (lv_at hl 0 rfl) ?_
          obtain ⟨v9, ev9, nv9, h⟩ := e_rd h
          refine xa_iald hx hb hK hP 11 rfl nv9 ev9 dX6_counts_63 ?_
          obtain ⟨z10, ez10, h⟩ := e_b h
          have hJ11 : ∀ (ls : Array Slot) (H : Heap) (locs : List Loc), lv_has ls 6 [(0, .ref (ad 0)), (2, .int x2), (3, .int x3), (4, .int x4), (5, .int v8)] → va_P D vwCl (wX6 cA ad thrown tape taped value weight many block ties lines pastValue pastWeight pastMany undos fresh newValue newWeight newMany newBlock newTies newLines hasBlock hasTies size att place sort number fault faultPlace lastFault lastPlace toValue toWeight toMany often z10.1 lastOf z10.2.1 z10.2.2 isCandidate modes fewest) H → va_D A (wX6 cA ad thrown tape taped value weight many block ties lines pastValue pastWeight pastMany undos fresh newValue newWeight newMany newBlock newTies newLines hasBlock hasTies size att place sort number fault faultPlace lastFault lastPlace toValue toWeight toMany often z10.1 lastOf z10.2.1 z10.2.2 isCandidate modes fewest) → va_S A s.heap H locs → W p l e (headSpec wsX6_counts { frames := 0, cells := 0, slots := 0, locals := 0 }).room s m args below meth c H locs 0 0 Q (F0 m 97 ls []) := by
            intro ls H locs hl hP hD hS
            refine lv_aload_n hx hb dX6_counts_97 rfl (lv_at hl 0 rfl) ?_
            refine va_get (D := D) (ci := 6) (v := .ref (ad 13)) (C := RX6) (T := TX6) (N := 42) hx hb hts iX6 hown hK hP 0 rfl rfl 36 (Nat.le_of_ble_eq_true rfl) f53 (fun _ h9 => h9) rfl dX6_counts_98 ?_
            refine lv_iload hx hb dX6_counts_101 (lv_at hl 4 rfl) ?_
            refine lv_iload hx hb dX6_counts_103 (lv_at hl 3 rfl) ?_
            obtain ⟨a12, ea12, na12, h⟩ := e_wr h
            refine xa_iast hx hb hK hP hD hS 13 rfl na12 ea12 dX6_counts_105 (fun H locs hP hD hS => ?_)
            have hP : va_P D vwCl (wX6 cA ad thrown tape taped value weight many block ties lines pastValue pastWeight pastMany undos fresh newValue newWeight newMany newBlock newTies newLines hasBlock hasTies size att place sort number fault faultPlace lastFault lastPlace toValue toWeight toMany often z10.1 a12 z10.2.1 z10.2.2 isCandidate modes fewest) H := hP
            have hD : va_D A (wX6 cA ad thrown tape taped value weight many block ties lines pastValue pastWeight pastMany undos fresh newValue newWeight newMany newBlock newTies newLines hasBlock hasTies size att place sort number fault faultPlace lastFault lastPlace toValue toWeight toMany often z10.1 a12 z10.2.1 z10.2.2 isCandidate modes fewest) := hD
            refine lv_aload_n hx hb dX6_counts_106 rfl (lv_at hl 0 rfl) ?_
            refine va_get (D := D) (ci := 6) (v := .ref (ad 11)) (C := RX6) (T := TX6) (N := 42) hx hb hts iX6 hown hK hP 0 rfl rfl 34 (Nat.le_of_ble_eq_true rfl) f47 (fun _ h9 => h9) rfl dX6_counts_107 ?_
            refine lv_iload hx hb dX6_counts_110 (lv_at hl 4 rfl) ?_
            refine lv_dup2_11 hx hb dX6_counts_112 rfl rfl ?_
            obtain ⟨v13, ev13, nv13, h⟩ := e_rd h
            refine xa_iald hx hb hK hP 11 rfl nv13 ev13 dX6_counts_113 ?_
            refine lv_iconst (v := 1) hx hb dX6_counts_114 (by decide) ?_
            refine lv_iadd hx hb dX6_counts_115 ?_
            obtain ⟨a14, ea14, na14, h⟩ := e_wr h
            refine xa_iast hx hb hK hP hD hS 11 rfl na14 ea14 dX6_counts_116 (fun H locs hP hD hS => ?_)
            have hP : va_P D vwCl (wX6 cA ad thrown tape taped value weight many block ties lines pastValue pastWeight pastMany undos fresh newValue newWeight newMany newBlock newTies newLines hasBlock hasTies size att place sort number fault faultPlace lastFault lastPlace toValue toWeight toMany a14 z10.1 a12 z10.2.1 z10.2.2 isCandidate modes fewest) H := hP
            have hD : va_D A (wX6 cA ad thrown tape taped value weight many block ties lines pastValue pastWeight pastMany undos fresh newValue newWeight newMany newBlock newTies newLines hasBlock hasTies size att place sort number fault faultPlace lastFault lastPlace toValue toWeight toMany a14 z10.1 a12 z10.2.1 z10.2.2 isCandidate modes fewest) := hD
            refine lv_iinc (v := (x4 + 1)) (lv' := [(4, .int (x4 + 1)), (0, .ref (ad 0)), (2, .int x2), (3, .int x3), (5, .int v8)]) hx hb dX6_counts_117 hl (k := 3) rfl rfl (by decide) rfl (fun ls hl => ?_)
            refine lv_goto (tgt := 33) hx hb dX6_counts_120 (by decide) ?_
            exact ih33 x2 x3 (x4 + 1) thrown tape taped value weight many block ties lines pastValue pastWeight pastMany undos fresh newValue newWeight newMany newBlock newTies newLines hasBlock hasTies size att place sort number fault faultPlace lastFault lastPlace toValue toWeight toMany a14 z10.1 a12 z10.2.1 z10.2.2 isCandidate modes fewest z5 _ _ _ (lv_sub hl [1, 2, 3, 0] rfl) hP hD hS h hk33
          have h := ez10
          refine lv_if_ne (tgt := 97) hx hb dX6_counts_64 (by decide) (fun c15 => ?_) (fun c15 => ?_)
          · have h := e_t c15 h
            obtain rfl := e_s h
            exact hJ11 _ _ _ (lv_sub hl [1, 2, 3, 4, 0] rfl) hP hD hS
          · have h := e_f (not_not_intro c15) h
            refine lv_aload_n hx hb dX6_counts_67 rfl (lv_at hl 1 rfl) ?_
            refine va_get (D := D) (ci := 6) (v := .ref (ad 12)) (C := RX6) (T := TX6) (N := 42) hx hb hts iX6 hown hK hP 0 rfl rfl 35 (Nat.le_of_ble_eq_true rfl) f50 (fun _ h9 => h9) rfl dX6_counts_68 ?_
            refine lv_iload hx hb dX6_counts_71 (lv_at hl 0 rfl) ?_
            refine lv_iload hx hb dX6_counts_73 (lv_at hl 4 rfl) ?_
            obtain ⟨a16, ea16, na16, h⟩ := e_wr h
            refine xa_iast hx hb hK hP hD hS 12 rfl na16 ea16 dX6_counts_75 (fun H locs hP hD hS => ?_)
            have hP : va_P D vwCl (wX6 cA ad thrown tape taped value weight many block ties lines pastValue pastWeight pastMany undos fresh newValue newWeight newMany newBlock newTies newLines hasBlock hasTies size att place sort number fault faultPlace lastFault lastPlace toValue toWeight toMany often a16 lastOf unlikes unlikeMany isCandidate modes fewest) H := hP
            have hD : va_D A (wX6 cA ad thrown tape taped value weight many block ties lines pastValue pastWeight pastMany undos fresh newValue newWeight newMany newBlock newTies newLines hasBlock hasTies size att place sort number fault faultPlace lastFault lastPlace toValue toWeight toMany often a16 lastOf unlikes unlikeMany isCandidate modes fewest) := hD
            refine lv_aload_n hx hb dX6_counts_76 rfl (lv_at hl 1 rfl) ?_
            refine va_get (D := D) (ci := 6) (v := .ref (ad 14)) (C := RX6) (T := TX6) (N := 42) hx hb hts iX6 hown hK hP 0 rfl rfl 37 (Nat.le_of_ble_eq_true rfl) f56 (fun _ h9 => h9) rfl dX6_counts_77 ?_
            refine lv_aload_n hx hb dX6_counts_80 rfl (lv_at hl 1 rfl) ?_
            refine va_get (D := D) (ci := 6) (v := .int unlikeMany) (C := RX6) (T := TX6) (N := 42) hx hb hts iX6 hown hK hP 0 rfl rfl 38 (Nat.le_of_ble_eq_true rfl) f242 (fun _ h9 => h9) rfl dX6_counts_81 ?_
            refine lv_iload hx hb dX6_counts_84 (lv_at hl 0 rfl) ?_
            obtain ⟨a17, ea17, na17, h⟩ := e_wr h
            refine xa_iast hx hb hK hP hD hS 14 rfl na17 ea17 dX6_counts_86 (fun H locs hP hD hS => ?_)
            have hP : va_P D vwCl (wX6 cA ad thrown tape taped value weight many block ties lines pastValue pastWeight pastMany undos fresh newValue newWeight newMany newBlock newTies newLines hasBlock hasTies size att place sort number fault faultPlace lastFault lastPlace toValue toWeight toMany often a16 lastOf a17 unlikeMany isCandidate modes fewest) H := hP
            have hD : va_D A (wX6 cA ad thrown tape taped value weight many block ties lines pastValue pastWeight pastMany undos fresh newValue newWeight newMany newBlock newTies newLines hasBlock hasTies size att place sort number fault faultPlace lastFault lastPlace toValue toWeight toMany often a16 lastOf a17 unlikeMany isCandidate modes fewest) := hD
            refine lv_aload_n hx hb dX6_counts_87 rfl (lv_at hl 1 rfl) ?_
            refine lv_dup hx hb dX6_counts_88 rfl ?_
            refine va_get (D := D) (ci := 6) (v := .int unlikeMany) (C := RX6) (T := TX6) (N := 42) hx hb hts iX6 hown hK hP 0 rfl rfl 38 (Nat.le_of_ble_eq_true rfl) f242 (fun _ h9 => h9) rfl dX6_counts_89 ?_
            refine lv_iconst (v := 1) hx hb dX6_counts_92 (by decide) ?_
            refine lv_iadd hx hb dX6_counts_93 ?_
            refine va_put (D := D) (ci := 6) (v := .int (unlikeMany + 1)) (ty := .int) (C := RX6) (T := TX6) (N := 42) hx hb hts iX6 tyX6 tyX6_ok nmX6 hown hK hP hD hS 0 rfl rfl 38 (Nat.le_of_ble_eq_true rfl) f242 (fun _ h9 => h9) rfl (tyX6_ok 38 (Nat.le_of_ble_eq_true rfl)) rfl rfl (Nat.le_of_ble_eq_true rfl) dX6_counts_94 (fun H locs hP hD hS => ?_)
            have hP : va_P D vwCl (wX6 cA ad thrown tape taped value weight many block ties lines pastValue pastWeight pastMany undos fresh newValue newWeight newMany newBlock newTies newLines hasBlock hasTies size att place sort number fault faultPlace lastFault lastPlace toValue toWeight toMany often a16 lastOf a17 (unlikeMany + 1) isCandidate modes fewest) H := hP
            have hD : va_D A (wX6 cA ad thrown tape taped value weight many block ties lines pastValue pastWeight pastMany undos fresh newValue newWeight newMany newBlock newTies newLines hasBlock hasTies size att place sort number fault faultPlace lastFault lastPlace toValue toWeight toMany often a16 lastOf a17 (unlikeMany + 1) isCandidate modes fewest) := hD
            obtain rfl := e_s h
            exact hJ11 _ _ _ (lv_sub hl [1, 2, 3, 4, 0] rfl) hP hD hS
        · have h := e_f (not_not_intro c7) h
          refine lv_goto (tgt := 117) hx hb dX6_counts_45 (by decide) ?_
          refine lv_iinc (v := (x4 + 1)) (lv' := [(4, .int (x4 + 1)), (0, .ref (ad 0)), (2, .int x2), (3, .int x3)]) hx hb dX6_counts_117 hl (k := 3) rfl rfl (by decide) rfl (fun ls hl => ?_)
          refine lv_goto (tgt := 33) hx hb dX6_counts_120 (by decide) ?_
          exact ih33 x2 x3 (x4 + 1) thrown tape taped value weight many block ties lines pastValue pastWeight pastMany undos fresh newValue newWeight newMany newBlock newTies newLines hasBlock hasTies size att place sort number fault faultPlace lastFault lastPlace toValue toWeight toMany often firstOf lastOf unlikes unlikeMany isCandidate modes fewest z5 _ _ _ (lv_sub hl [1, 2, 3, 0] rfl) hP hD hS h hk33
  obtain ⟨z18, ez18, h⟩ := e_b h
  refine hL33 FU x2 x3 x1 thrown tape taped value weight many block ties lines pastValue pastWeight pastMany undos fresh newValue newWeight newMany newBlock newTies newLines hasBlock hasTies size att place sort number fault faultPlace lastFault lastPlace toValue toWeight toMany z4 firstOf lastOf unlikes 0 isCandidate modes fewest z18 _ _ _ (lv_sub hl [1, 3, 4, 0] rfl) hP hD hS ez18 (fun ls H locs hl hP hD hS => ?_)
  obtain rfl := e_s h
  exact hret hP hS dX6_counts_123
set_option maxHeartbeats 4000000 in
set_option maxRecDepth 100000 in
theorem kX6_isAhead (l : Launch) (D : va_G) (cA : Nat → ClassId) (ad : Nat → Nat) (thrown : Int32) (tape : Nat → Int32) (taped : Int32) (value : Nat → Int32) (weight : Nat → Int32) (many : Int32) (block : Int32) (ties : Int32) (lines : Int32) (pastValue : Nat → Int32) (pastWeight : Nat → Int32) (pastMany : Nat → Int32) (undos : Int32) (fresh : Int32) (newValue : Nat → Int32) (newWeight : Nat → Int32) (newMany : Int32) (newBlock : Int32) (newTies : Int32) (newLines : Int32) (hasBlock : Int32) (hasTies : Int32) (size : Int32) (att : Int32) (place : Int32) (sort : Int32) (number : Int32) (fault : Int32) (faultPlace : Int32) (lastFault : Int32) (lastPlace : Int32) (toValue : Nat → Int32) (toWeight : Nat → Int32) (toMany : Int32) (often : Nat → Int32) (firstOf : Nat → Int32) (lastOf : Nat → Int32) (unlikes : Nat → Int32) (unlikeMany : Int32) (isCandidate : Nat → Int32) (modes : Nat → Int32) (fewest : Nat → Int32) (x1 : Int32) (x2 : Int32) (x3 : Int32) (q : Int32) (h : mX6_isAhead often firstOf lastOf x1 x2 x3 = some q) : MI l yX6_isAhead wsX6_isAhead { frames := 0, cells := 0, slots := 0, locals := 0 } D cA .boolean [.ref (ad 0), .int x1, .int x2, .int x3] (wX6 cA ad thrown tape taped value weight many block ties lines pastValue pastWeight pastMany undos fresh newValue newWeight newMany newBlock newTies newLines hasBlock hasTies size att place sort number fault faultPlace lastFault lastPlace toValue toWeight toMany often firstOf lastOf unlikes unlikeMany isCandidate modes fewest) (wX6 cA ad thrown tape taped value weight many block ties lines pastValue pastWeight pastMany undos fresh newValue newWeight newMany newBlock newTies newLines hasBlock hasTies size att place sort number fault faultPlace lastFault lastPlace toValue toWeight toMany often firstOf lastOf unlikes unlikeMany isCandidate modes fewest) q := by
  refine MI.of (cc := cX6_isAhead) (maxL := 4) (by decide +kernel) rfl rfl rfl (Nat.le_of_ble_eq_true rfl) ?_
  intro p e s m args below meth c A ls Q hx hb hml hts hown hK hP hD hA hS hl hret
  have hl : lv_has ls 4 [(0, .ref (ad 0)), (1, .int x1), (2, .int x2), (3, .int x3)] := hl
  have f47 := hts (.fieldLink RX6 47 "ModeDeskModel" "often" "[I") (by decide +kernel)
  have f50 := hts (.fieldLink RX6 50 "ModeDeskModel" "firstOf" "[I") (by decide +kernel)
  have f53 := hts (.fieldLink RX6 53 "ModeDeskModel" "lastOf" "[I") (by decide +kernel)
  have iX6 : ∀ w ∈ wsX60, w ∈ wsX6_isAhead := by decide +kernel
  unfold mX6_isAhead at h
  refine lv_aload_n hx hb dX6_isAhead_0 rfl (lv_at hl 0 rfl) ?_
  refine va_get (D := D) (ci := 6) (v := .ref (ad 11)) (C := RX6) (T := TX6) (N := 42) hx hb hts iX6 hown hK hP 0 rfl rfl 34 (Nat.le_of_ble_eq_true rfl) f47 (fun _ h9 => h9) rfl dX6_isAhead_1 ?_
  refine lv_iload_n hx hb dX6_isAhead_4 rfl (lv_at hl 1 rfl) ?_
  obtain ⟨v1, ev1, nv1, h⟩ := e_rd h
  refine xa_iald hx hb hK hP 11 rfl nv1 ev1 dX6_isAhead_5 ?_
  refine lv_aload_n hx hb dX6_isAhead_6 rfl (lv_at hl 0 rfl) ?_
  refine va_get (D := D) (ci := 6) (v := .ref (ad 11)) (C := RX6) (T := TX6) (N := 42) hx hb hts iX6 hown hK hP 0 rfl rfl 34 (Nat.le_of_ble_eq_true rfl) f47 (fun _ h9 => h9) rfl dX6_isAhead_7 ?_
  refine lv_iload_n hx hb dX6_isAhead_10 rfl (lv_at hl 2 rfl) ?_
  obtain ⟨v2, ev2, nv2, h⟩ := e_rd h
  refine xa_iald hx hb hK hP 11 rfl nv2 ev2 dX6_isAhead_11 ?_
  refine lv_icmp_eq (tgt := 36) hx hb dX6_isAhead_12 (by decide) (fun c3 => ?_) (fun c3 => ?_)
  · have h := e_t c3 h
    refine lv_iload_n hx hb dX6_isAhead_36 rfl (lv_at hl 3 rfl) ?_
    by_cases c7 : x3 = 0
    · have h := e_t c7 h
      refine lv_tableIn (off := 27) (tgt := 64) hx hb dX6_isAhead_37 (by rw [c7]; decide) (by rw [c7]; decide) (by rw [c7]; rfl) (by decide) ?_
      refine lv_aload_n hx hb dX6_isAhead_64 rfl (lv_at hl 0 rfl) ?_
      refine va_get (D := D) (ci := 6) (v := .ref (ad 12)) (C := RX6) (T := TX6) (N := 42) hx hb hts iX6 hown hK hP 0 rfl rfl 35 (Nat.le_of_ble_eq_true rfl) f50 (fun _ h9 => h9) rfl dX6_isAhead_65 ?_
      refine lv_iload_n hx hb dX6_isAhead_68 rfl (lv_at hl 1 rfl) ?_
      obtain ⟨v4, ev4, nv4, h⟩ := e_rd h
      refine xa_iald hx hb hK hP 12 rfl nv4 ev4 dX6_isAhead_69 ?_
      refine lv_aload_n hx hb dX6_isAhead_70 rfl (lv_at hl 0 rfl) ?_
      refine va_get (D := D) (ci := 6) (v := .ref (ad 12)) (C := RX6) (T := TX6) (N := 42) hx hb hts iX6 hown hK hP 0 rfl rfl 35 (Nat.le_of_ble_eq_true rfl) f50 (fun _ h9 => h9) rfl dX6_isAhead_71 ?_
      refine lv_iload_n hx hb dX6_isAhead_74 rfl (lv_at hl 2 rfl) ?_
      obtain ⟨v5, ev5, nv5, h⟩ := e_rd h
      refine xa_iald hx hb hK hP 12 rfl nv5 ev5 dX6_isAhead_75 ?_
      refine lv_icmp_ge (tgt := 83) hx hb dX6_isAhead_76 (by decide) (fun c6 => ?_) (fun c6 => ?_)
      · have h := e_t c6 h
        refine lv_iconst (v := 0) hx hb dX6_isAhead_83 (by decide) ?_
        obtain rfl := e_s h
        exact hret hP hS (show narrow .boolean (.int 0) = .int 0 from rfl) dX6_isAhead_84
      · have h := e_f c6 h
        refine lv_iconst (v := 1) hx hb dX6_isAhead_79 (by decide) ?_
        refine lv_goto (tgt := 84) hx hb dX6_isAhead_80 (by decide) ?_
        obtain rfl := e_s h
        exact hret hP hS (show narrow .boolean (.int 1) = .int 1 from rfl) dX6_isAhead_84
    have h := e_f c7 h
    by_cases c11 : x3 = 1
    · have h := e_t c11 h
      refine lv_tableIn (off := 48) (tgt := 85) hx hb dX6_isAhead_37 (by rw [c11]; decide) (by rw [c11]; decide) (by rw [c11]; rfl) (by decide) ?_
      refine lv_aload_n hx hb dX6_isAhead_85 rfl (lv_at hl 0 rfl) ?_
      refine va_get (D := D) (ci := 6) (v := .ref (ad 13)) (C := RX6) (T := TX6) (N := 42) hx hb hts iX6 hown hK hP 0 rfl rfl 36 (Nat.le_of_ble_eq_true rfl) f53 (fun _ h9 => h9) rfl dX6_isAhead_86 ?_
      refine lv_iload_n hx hb dX6_isAhead_89 rfl (lv_at hl 1 rfl) ?_
      obtain ⟨v8, ev8, nv8, h⟩ := e_rd h
      refine xa_iald hx hb hK hP 13 rfl nv8 ev8 dX6_isAhead_90 ?_
      refine lv_aload_n hx hb dX6_isAhead_91 rfl (lv_at hl 0 rfl) ?_
      refine va_get (D := D) (ci := 6) (v := .ref (ad 13)) (C := RX6) (T := TX6) (N := 42) hx hb hts iX6 hown hK hP 0 rfl rfl 36 (Nat.le_of_ble_eq_true rfl) f53 (fun _ h9 => h9) rfl dX6_isAhead_92 ?_
      refine lv_iload_n hx hb dX6_isAhead_95 rfl (lv_at hl 2 rfl) ?_
      obtain ⟨v9, ev9, nv9, h⟩ := e_rd h
      refine xa_iald hx hb hK hP 13 rfl nv9 ev9 dX6_isAhead_96 ?_
      refine lv_icmp_le (tgt := 104) hx hb dX6_isAhead_97 (by decide) (fun c10 => ?_) (fun c10 => ?_)
      · have h := e_t c10 h
        refine lv_iconst (v := 0) hx hb dX6_isAhead_104 (by decide) ?_
        obtain rfl := e_s h
        exact hret hP hS (show narrow .boolean (.int 0) = .int 0 from rfl) dX6_isAhead_105
      · have h := e_f c10 h
        refine lv_iconst (v := 1) hx hb dX6_isAhead_100 (by decide) ?_
        refine lv_goto (tgt := 105) hx hb dX6_isAhead_101 (by decide) ?_
        obtain rfl := e_s h
        exact hret hP hS (show narrow .boolean (.int 1) = .int 1 from rfl) dX6_isAhead_105
    have h := e_f c11 h
    by_cases c13 : x3 = 2
    · have h := e_t c13 h
      refine lv_tableIn (off := 69) (tgt := 106) hx hb dX6_isAhead_37 (by rw [c13]; decide) (by rw [c13]; decide) (by rw [c13]; rfl) (by decide) ?_
      refine lv_iload_n hx hb dX6_isAhead_106 rfl (lv_at hl 1 rfl) ?_
      refine lv_iload_n hx hb dX6_isAhead_107 rfl (lv_at hl 2 rfl) ?_
      refine lv_icmp_ge (tgt := 115) hx hb dX6_isAhead_108 (by decide) (fun c12 => ?_) (fun c12 => ?_)
      · have h := e_t c12 h
        refine lv_iconst (v := 0) hx hb dX6_isAhead_115 (by decide) ?_
        obtain rfl := e_s h
        exact hret hP hS (show narrow .boolean (.int 0) = .int 0 from rfl) dX6_isAhead_116
      · have h := e_f c12 h
        refine lv_iconst (v := 1) hx hb dX6_isAhead_111 (by decide) ?_
        refine lv_goto (tgt := 116) hx hb dX6_isAhead_112 (by decide) ?_
        obtain rfl := e_s h
        exact hret hP hS (show narrow .boolean (.int 1) = .int 1 from rfl) dX6_isAhead_116
    have h := e_f c13 h
    refine lv_tableOut (tgt := 117) hx hb dX6_isAhead_37 (sw_out 2 (fun k hk => by match k, hk with | 0, _ => exact c7 | 1, _ => exact c11 | 2, _ => exact c13 | (n + 3), hk => exact absurd hk (by omega)) (by decide)) (by decide) ?_
    refine lv_iload_n hx hb dX6_isAhead_117 rfl (lv_at hl 1 rfl) ?_
    refine lv_iload_n hx hb dX6_isAhead_118 rfl (lv_at hl 2 rfl) ?_
    refine lv_icmp_le (tgt := 126) hx hb dX6_isAhead_119 (by decide) (fun c14 => ?_) (fun c14 => ?_)
    · have h := e_t c14 h
      refine lv_iconst (v := 0) hx hb dX6_isAhead_126 (by decide) ?_
      obtain rfl := e_s h
      exact hret hP hS (show narrow .boolean (.int 0) = .int 0 from rfl) dX6_isAhead_127
    · have h := e_f c14 h
      refine lv_iconst (v := 1) hx hb dX6_isAhead_122 (by decide) ?_
      refine lv_goto (tgt := 127) hx hb dX6_isAhead_123 (by decide) ?_
      obtain rfl := e_s h
      exact hret hP hS (show narrow .boolean (.int 1) = .int 1 from rfl) dX6_isAhead_127
  · have h := e_f c3 h
    refine lv_aload_n hx hb dX6_isAhead_15 rfl (lv_at hl 0 rfl) ?_
    refine va_get (D := D) (ci := 6) (v := .ref (ad 11)) (C := RX6) (T := TX6) (N := 42) hx hb hts iX6 hown hK hP 0 rfl rfl 34 (Nat.le_of_ble_eq_true rfl) f47 (fun _ h9 => h9) rfl dX6_isAhead_16 ?_
    refine lv_iload_n hx hb dX6_isAhead_19 rfl (lv_at hl 1 rfl) ?_
    obtain ⟨v15, ev15, nv15, h⟩ := e_rd h
    refine xa_iald hx hb hK hP 11 rfl nv15 ev15 dX6_isAhead_20 ?_
    refine lv_aload_n hx hb dX6_isAhead_21 rfl (lv_at hl 0 rfl) ?_
    refine va_get (D := D) (ci := 6) (v := .ref (ad 11)) (C := RX6) (T := TX6) (N := 42) hx hb hts iX6 hown hK hP 0 rfl rfl 34 (Nat.le_of_ble_eq_true rfl) f47 (fun _ h9 => h9) rfl dX6_isAhead_22 ?_
    refine lv_iload_n hx hb dX6_isAhead_25 rfl (lv_at hl 2 rfl) ?_
    obtain ⟨v16, ev16, nv16, h⟩ := e_rd h
    refine xa_iald hx hb hK hP 11 rfl nv16 ev16 dX6_isAhead_26 ?_
    refine lv_icmp_le (tgt := 34) hx hb dX6_isAhead_27 (by decide) (fun c17 => ?_) (fun c17 => ?_)
    · have h := e_t c17 h
      refine lv_iconst (v := 0) hx hb dX6_isAhead_34 (by decide) ?_
      obtain rfl := e_s h
      exact hret hP hS (show narrow .boolean (.int 0) = .int 0 from rfl) dX6_isAhead_35
    · have h := e_f c17 h
      refine lv_iconst (v := 1) hx hb dX6_isAhead_30 (by decide) ?_
      refine lv_goto (tgt := 35) hx hb dX6_isAhead_31 (by decide) ?_
      obtain rfl := e_s h
      exact hret hP hS (show narrow .boolean (.int 1) = .int 1 from rfl) dX6_isAhead_35
set_option maxHeartbeats 4000000 in
set_option maxRecDepth 100000 in
theorem kX6_rankOf (l : Launch) (D : va_G) (cA : Nat → ClassId) (ad : Nat → Nat) (thrown : Int32) (tape : Nat → Int32) (taped : Int32) (value : Nat → Int32) (weight : Nat → Int32) (many : Int32) (block : Int32) (ties : Int32) (lines : Int32) (pastValue : Nat → Int32) (pastWeight : Nat → Int32) (pastMany : Nat → Int32) (undos : Int32) (fresh : Int32) (newValue : Nat → Int32) (newWeight : Nat → Int32) (newMany : Int32) (newBlock : Int32) (newTies : Int32) (newLines : Int32) (hasBlock : Int32) (hasTies : Int32) (size : Int32) (att : Int32) (place : Int32) (sort : Int32) (number : Int32) (fault : Int32) (faultPlace : Int32) (lastFault : Int32) (lastPlace : Int32) (toValue : Nat → Int32) (toWeight : Nat → Int32) (toMany : Int32) (often : Nat → Int32) (firstOf : Nat → Int32) (lastOf : Nat → Int32) (unlikes : Nat → Int32) (unlikeMany : Int32) (isCandidate : Nat → Int32) (modes : Nat → Int32) (fewest : Nat → Int32) (x1 : Int32) (x2 : Int32) (q : Int32) (h : mX6_rankOf often firstOf lastOf unlikes unlikeMany x1 x2 = some q) : MI l yX6_rankOf wsX6_rankOf { frames := 1, cells := 0, slots := 0, locals := 23 } D cA .int [.ref (ad 0), .int x1, .int x2] (wX6 cA ad thrown tape taped value weight many block ties lines pastValue pastWeight pastMany undos fresh newValue newWeight newMany newBlock newTies newLines hasBlock hasTies size att place sort number fault faultPlace lastFault lastPlace toValue toWeight toMany often firstOf lastOf unlikes unlikeMany isCandidate modes fewest) (wX6 cA ad thrown tape taped value weight many block ties lines pastValue pastWeight pastMany undos fresh newValue newWeight newMany newBlock newTies newLines hasBlock hasTies size att place sort number fault faultPlace lastFault lastPlace toValue toWeight toMany often firstOf lastOf unlikes unlikeMany isCandidate modes fewest) q := by
  refine MI.of (cc := cX6_rankOf) (maxL := 5) (by decide +kernel) rfl rfl rfl (Nat.le_of_ble_eq_true rfl) ?_
  intro p e s m args below meth c A ls Q hx hb hml hts hown hK hP hD hA hS hl hret
  have hl : lv_has ls 5 [(0, .ref (ad 0)), (1, .int x1), (2, .int x2)] := hl
  have f242 := hts (.fieldLink RX6 242 "ModeDeskModel" "unlikeMany" "I") (by decide +kernel)
  have f56 := hts (.fieldLink RX6 56 "ModeDeskModel" "unlikes" "[I") (by decide +kernel)
  have iX6 : ∀ w ∈ wsX60, w ∈ wsX6_rankOf := by decide +kernel
  unfold mX6_rankOf at h
  refine lv_iconst (v := 0) hx hb dX6_rankOf_0 (by decide) ?_
  refine lv_istore_n (lv' := [(3, .int 0), (0, .ref (ad 0)), (1, .int x1), (2, .int x2)]) hx hb dX6_rankOf_1 rfl hl (by decide) rfl (fun ls hl => ?_)
  refine lv_iconst (v := 0) hx hb dX6_rankOf_2 (by decide) ?_
  refine lv_istore (lv' := [(4, .int 0), (3, .int 0), (0, .ref (ad 0)), (1, .int x1), (2, .int x2)]) hx hb dX6_rankOf_3 hl (by decide) rfl (fun ls hl => ?_)
  have hL5 : ∀ (n : Nat) (x1 : Int32) (x2 : Int32) (x3 : Int32) (x4 : Int32) (thrown : Int32) (tape : Nat → Int32) (taped : Int32) (value : Nat → Int32) (weight : Nat → Int32) (many : Int32) (block : Int32) (ties : Int32) (lines : Int32) (pastValue : Nat → Int32) (pastWeight : Nat → Int32) (pastMany : Nat → Int32) (undos : Int32) (fresh : Int32) (newValue : Nat → Int32) (newWeight : Nat → Int32) (newMany : Int32) (newBlock : Int32) (newTies : Int32) (newLines : Int32) (hasBlock : Int32) (hasTies : Int32) (size : Int32) (att : Int32) (place : Int32) (sort : Int32) (number : Int32) (fault : Int32) (faultPlace : Int32) (lastFault : Int32) (lastPlace : Int32) (toValue : Nat → Int32) (toWeight : Nat → Int32) (toMany : Int32) (often : Nat → Int32) (firstOf : Nat → Int32) (lastOf : Nat → Int32) (unlikes : Nat → Int32) (unlikeMany : Int32) (isCandidate : Nat → Int32) (modes : Nat → Int32) (fewest : Nat → Int32) (z1 : Int32) (ls : Array Slot) (H : Heap) (locs : List Loc), lv_has ls 5 [(0, .ref (ad 0)), (1, .int x1), (2, .int x2), (3, .int x3), (4, .int x4)] → va_P D vwCl (wX6 cA ad thrown tape taped value weight many block ties lines pastValue pastWeight pastMany undos fresh newValue newWeight newMany newBlock newTies newLines hasBlock hasTies size att place sort number fault faultPlace lastFault lastPlace toValue toWeight toMany often firstOf lastOf unlikes unlikeMany isCandidate modes fewest) H → va_D A (wX6 cA ad thrown tape taped value weight many block ties lines pastValue pastWeight pastMany undos fresh newValue newWeight newMany newBlock newTies newLines hasBlock hasTies size att place sort number fault faultPlace lastFault lastPlace toValue toWeight toMany often firstOf lastOf unlikes unlikeMany isCandidate modes fewest) → va_S A s.heap H locs → mX6_rankOf_L5 often firstOf lastOf unlikes unlikeMany x1 x2 n x3 x4 = some z1 → (∀ (ls : Array Slot) (H : Heap) (locs : List Loc), lv_has ls 5 [(3, .int z1)] → va_P D vwCl (wX6 cA ad thrown tape taped value weight many block ties lines pastValue pastWeight pastMany undos fresh newValue newWeight newMany newBlock newTies newLines hasBlock hasTies size att place sort number fault faultPlace lastFault lastPlace toValue toWeight toMany often firstOf lastOf unlikes unlikeMany isCandidate modes fewest) H → va_D A (wX6 cA ad thrown tape taped value weight many block ties lines pastValue pastWeight pastMany undos fresh newValue newWeight newMany newBlock newTies newLines hasBlock hasTies size att place sort number fault faultPlace lastFault lastPlace toValue toWeight toMany often firstOf lastOf unlikes unlikeMany isCandidate modes fewest) → va_S A s.heap H locs → W p l e (headSpec wsX6_rankOf { frames := 1, cells := 0, slots := 0, locals := 23 }).room s m args below meth c H locs 0 0 Q (F0 m 55 ls [])) → W p l e (headSpec wsX6_rankOf { frames := 1, cells := 0, slots := 0, locals := 23 }).room s m args below meth c H locs 0 0 Q (F0 m 5 ls []) := by
    intro n
    induction n with
    | zero => intro x1 x2 x3 x4 thrown tape taped value weight many block ties lines pastValue pastWeight pastMany undos fresh newValue newWeight newMany newBlock newTies newLines hasBlock hasTies size att place sort number fault faultPlace lastFault lastPlace toValue toWeight toMany often firstOf lastOf unlikes unlikeMany isCandidate modes fewest z1 ls H locs hl hP hD hS h hk5; exact e_n h
    | succ n ih5 =>
      intro x1 x2 x3 x4 thrown tape taped value weight many block ties lines pastValue pastWeight pastMany undos fresh newValue newWeight newMany newBlock newTies newLines hasBlock hasTies size att place sort number fault faultPlace lastFault lastPlace toValue toWeight toMany often firstOf lastOf unlikes unlikeMany isCandidate modes fewest z1 ls H locs hl hP hD hS h hk5
      rw [mX6_rankOf_L5.eq_2] at h
      refine lv_iload hx hb dX6_rankOf_5 (lv_at hl 4 rfl) ?_
      refine lv_aload_n hx hb dX6_rankOf_7 rfl (lv_at hl 0 rfl) ?_
      refine va_get (D := D) (ci := 6) (v := .int unlikeMany) (C := RX6) (T := TX6) (N := 42) hx hb hts iX6 hown hK hP 0 rfl rfl 38 (Nat.le_of_ble_eq_true rfl) f242 (fun _ h9 => h9) rfl dX6_rankOf_8 ?_
      refine lv_icmp_ge (tgt := 55) hx hb dX6_rankOf_11 (by decide) (fun c2 => ?_) (fun c2 => ?_)
      · have h := e_t c2 h
        obtain rfl := e_s h
        exact hk5 _ _ _ (lv_sub hl [3] rfl) hP hD hS
      · have h := e_f c2 h
        refine lv_iload_n hx hb dX6_rankOf_14 rfl (lv_at hl 3 rfl) ?_
        refine lv_aload_n hx hb dX6_rankOf_15 rfl (lv_at hl 0 rfl) ?_
        refine va_get (D := D) (ci := 6) (v := .ref (ad 14)) (C := RX6) (T := TX6) (N := 42) hx hb hts iX6 hown hK hP 0 rfl rfl 37 (Nat.le_of_ble_eq_true rfl) f56 (fun _ h9 => h9) rfl dX6_rankOf_16 ?_
        refine lv_iload hx hb dX6_rankOf_19 (lv_at hl 4 rfl) ?_
        obtain ⟨v3, ev3, nv3, h⟩ := e_rd h
        refine xa_iald hx hb hK hP 14 rfl nv3 ev3 dX6_rankOf_21 ?_
        refine lv_iload_n hx hb dX6_rankOf_22 rfl (lv_at hl 1 rfl) ?_
        refine lv_icmp_eq (tgt := 46) hx hb dX6_rankOf_23 (by decide) (fun c4 => ?_) (fun c4 => ?_)
        · have h := e_t c4 h
          refine lv_iconst (v := 0) hx hb dX6_rankOf_46 (by decide) ?_
          refine lv_iadd hx hb dX6_rankOf_47 ?_
          refine lv_istore_n (lv' := [(3, .int (x3 + 0)), (0, .ref (ad 0)), (1, .int x1), (2, .int x2), (4, .int x4)]) hx hb dX6_rankOf_48 rfl hl (by decide) rfl (fun ls hl => ?_)
          refine lv_iinc (v := (x4 + 1)) (lv' := [(4, .int (x4 + 1)), (3, .int (x3 + 0)), (0, .ref (ad 0)), (1, .int x1), (2, .int x2)]) hx hb dX6_rankOf_49 hl (k := 4) rfl rfl (by decide) rfl (fun ls hl => ?_)
          refine lv_goto (tgt := 5) hx hb dX6_rankOf_52 (by decide) ?_
          exact ih5 x1 x2 (x3 + 0) (x4 + 1) thrown tape taped value weight many block ties lines pastValue pastWeight pastMany undos fresh newValue newWeight newMany newBlock newTies newLines hasBlock hasTies size att place sort number fault faultPlace lastFault lastPlace toValue toWeight toMany often firstOf lastOf unlikes unlikeMany isCandidate modes fewest z1 _ _ _ (lv_sub hl [2, 3, 4, 1, 0] rfl) hP hD hS h hk5
        · have h := e_f c4 h
          refine lv_aload_n hx hb dX6_rankOf_26 rfl (lv_at hl 0 rfl) ?_
          refine lv_aload_n hx hb dX6_rankOf_27 rfl (lv_at hl 0 rfl) ?_
          refine va_get (D := D) (ci := 6) (v := .ref (ad 14)) (C := RX6) (T := TX6) (N := 42) hx hb hts iX6 hown hK hP 0 rfl rfl 37 (Nat.le_of_ble_eq_true rfl) f56 (fun _ h9 => h9) rfl dX6_rankOf_28 ?_
          refine lv_iload hx hb dX6_rankOf_31 (lv_at hl 4 rfl) ?_
          obtain ⟨v5, ev5, nv5, h⟩ := e_rd h
          refine xa_iald hx hb hK hP 14 rfl nv5 ev5 dX6_rankOf_33 ?_
          refine lv_iload_n hx hb dX6_rankOf_34 rfl (lv_at hl 1 rfl) ?_
          refine lv_iload_n hx hb dX6_rankOf_35 rfl (lv_at hl 2 rfl) ?_
          obtain ⟨q6, eq6, h⟩ := e_b h
          refine xv_i0 (As := [.int v5, .int x1, .int x2]) (rest := [.int x3]) (ci := 6) (b := ad 0) ⟨hx, hb, hml, hown, hts⟩ hl.1 (kX6_isAhead l D cA ad thrown tape taped value weight many block ties lines pastValue pastWeight pastMany undos fresh newValue newWeight newMany newBlock newTies newLines hasBlock hasTies size att place sort number fault faultPlace lastFault lastPlace toValue toWeight toMany often firstOf lastOf unlikes unlikeMany isCandidate modes fewest v5 x1 x2  _ eq6) (cwV 3 hts gX6_rankOf_X6_isAhead rfl rfl rfl (by decide +kernel) ⟨Nat.le_of_ble_eq_true rfl, Nat.le_of_ble_eq_true rfl⟩) rfl hK hP hD hS hA 0 rfl rfl rfl rfl (Nat.le_of_ble_eq_true rfl) dX6_rankOf_36 ⟨Nat.zero_le _, Nat.zero_le _⟩ (fun H locs hP hD hS hnq6 => ?_)
          have hP : va_P D vwCl (wX6 cA ad thrown tape taped value weight many block ties lines pastValue pastWeight pastMany undos fresh newValue newWeight newMany newBlock newTies newLines hasBlock hasTies size att place sort number fault faultPlace lastFault lastPlace toValue toWeight toMany often firstOf lastOf unlikes unlikeMany isCandidate modes fewest) H := hP
          have hD : va_D A (wX6 cA ad thrown tape taped value weight many block ties lines pastValue pastWeight pastMany undos fresh newValue newWeight newMany newBlock newTies newLines hasBlock hasTies size att place sort number fault faultPlace lastFault lastPlace toValue toWeight toMany often firstOf lastOf unlikes unlikeMany isCandidate modes fewest) := hD
          refine lv_if_eq (tgt := 46) hx hb dX6_rankOf_39 (by decide) (fun c7 => ?_) (fun c7 => ?_)
          · have h := e_t c7 h
            refine lv_iconst (v := 0) hx hb dX6_rankOf_46 (by decide) ?_
            refine lv_iadd hx hb dX6_rankOf_47 ?_
            refine lv_istore_n (lv' := [(3, .int (x3 + 0)), (0, .ref (ad 0)), (1, .int x1), (2, .int x2), (4, .int x4)]) hx hb dX6_rankOf_48 rfl hl (by decide) rfl (fun ls hl => ?_)
            refine lv_iinc (v := (x4 + 1)) (lv' := [(4, .int (x4 + 1)), (3, .int (x3 + 0)), (0, .ref (ad 0)), (1, .int x1), (2, .int x2)]) hx hb dX6_rankOf_49 hl (k := 4) rfl rfl (by decide) rfl (fun ls hl => ?_)
            refine lv_goto (tgt := 5) hx hb dX6_rankOf_52 (by decide) ?_
            exact ih5 x1 x2 (x3 + 0) (x4 + 1) thrown tape taped value weight many block ties lines pastValue pastWeight pastMany undos fresh newValue newWeight newMany newBlock newTies newLines hasBlock hasTies size att place sort number fault faultPlace lastFault lastPlace toValue toWeight toMany often firstOf lastOf unlikes unlikeMany isCandidate modes fewest z1 _ _ _ (lv_sub hl [2, 3, 4, 1, 0] rfl) hP hD hS h hk5
          · have h := e_f c7 h
            refine lv_iconst (v := 1) hx hb dX6_rankOf_42 (by decide) ?_
            refine lv_goto (tgt := 47) hx hb dX6_rankOf_43 (by decide) ?_
            refine lv_iadd hx hb dX6_rankOf_47 ?_
            refine lv_istore_n (lv' := [(3, .int (x3 + 1)), (0, .ref (ad 0)), (1, .int x1), (2, .int x2), (4, .int x4)]) hx hb dX6_rankOf_48 rfl hl (by decide) rfl (fun ls hl => ?_)
            refine lv_iinc (v := (x4 + 1)) (lv' := [(4, .int (x4 + 1)), (3, .int (x3 + 1)), (0, .ref (ad 0)), (1, .int x1), (2, .int x2)]) hx hb dX6_rankOf_49 hl (k := 4) rfl rfl (by decide) rfl (fun ls hl => ?_)
            refine lv_goto (tgt := 5) hx hb dX6_rankOf_52 (by decide) ?_
            exact ih5 x1 x2 (x3 + 1) (x4 + 1) thrown tape taped value weight many block ties lines pastValue pastWeight pastMany undos fresh newValue newWeight newMany newBlock newTies newLines hasBlock hasTies size att place sort number fault faultPlace lastFault lastPlace toValue toWeight toMany often firstOf lastOf unlikes unlikeMany isCandidate modes fewest z1 _ _ _ (lv_sub hl [2, 3, 4, 1, 0] rfl) hP hD hS h hk5
  obtain ⟨z8, ez8, h⟩ := e_b h
  refine hL5 FU x1 x2 0 0 thrown tape taped value weight many block ties lines pastValue pastWeight pastMany undos fresh newValue newWeight newMany newBlock newTies newLines hasBlock hasTies size att place sort number fault faultPlace lastFault lastPlace toValue toWeight toMany often firstOf lastOf unlikes unlikeMany isCandidate modes fewest z8 _ _ _ (lv_sub hl [2, 3, 4, 1, 0] rfl) hP hD hS ez8 (fun ls H locs hl hP hD hS => ?_)
  refine lv_iload_n hx hb dX6_rankOf_55 rfl (lv_at hl 0 rfl) ?_
  obtain rfl := e_s h
  exact hret hP hS rfl dX6_rankOf_56
set_option maxHeartbeats 4000000 in
set_option maxRecDepth 100000 in
theorem kX6_ofRank (l : Launch) (D : va_G) (cA : Nat → ClassId) (ad : Nat → Nat) (thrown : Int32) (tape : Nat → Int32) (taped : Int32) (value : Nat → Int32) (weight : Nat → Int32) (many : Int32) (block : Int32) (ties : Int32) (lines : Int32) (pastValue : Nat → Int32) (pastWeight : Nat → Int32) (pastMany : Nat → Int32) (undos : Int32) (fresh : Int32) (newValue : Nat → Int32) (newWeight : Nat → Int32) (newMany : Int32) (newBlock : Int32) (newTies : Int32) (newLines : Int32) (hasBlock : Int32) (hasTies : Int32) (size : Int32) (att : Int32) (place : Int32) (sort : Int32) (number : Int32) (fault : Int32) (faultPlace : Int32) (lastFault : Int32) (lastPlace : Int32) (toValue : Nat → Int32) (toWeight : Nat → Int32) (toMany : Int32) (often : Nat → Int32) (firstOf : Nat → Int32) (lastOf : Nat → Int32) (unlikes : Nat → Int32) (unlikeMany : Int32) (isCandidate : Nat → Int32) (modes : Nat → Int32) (fewest : Nat → Int32) (x1 : Int32) (x2 : Int32) (q : Int32) (h : mX6_ofRank often firstOf lastOf unlikes unlikeMany x1 x2 = some q) : MI l yX6_ofRank wsX6_ofRank { frames := 2, cells := 0, slots := 0, locals := 47 } D cA .int [.ref (ad 0), .int x1, .int x2] (wX6 cA ad thrown tape taped value weight many block ties lines pastValue pastWeight pastMany undos fresh newValue newWeight newMany newBlock newTies newLines hasBlock hasTies size att place sort number fault faultPlace lastFault lastPlace toValue toWeight toMany often firstOf lastOf unlikes unlikeMany isCandidate modes fewest) (wX6 cA ad thrown tape taped value weight many block ties lines pastValue pastWeight pastMany undos fresh newValue newWeight newMany newBlock newTies newLines hasBlock hasTies size att place sort number fault faultPlace lastFault lastPlace toValue toWeight toMany often firstOf lastOf unlikes unlikeMany isCandidate modes fewest) q := by
  refine MI.of (cc := cX6_ofRank) (maxL := 4) (by decide +kernel) rfl rfl rfl (Nat.le_of_ble_eq_true rfl) ?_
  intro p e s m args below meth c A ls Q hx hb hml hts hown hK hP hD hA hS hl hret
  have hl : lv_has ls 4 [(0, .ref (ad 0)), (1, .int x1), (2, .int x2)] := hl
  have f242 := hts (.fieldLink RX6 242 "ModeDeskModel" "unlikeMany" "I") (by decide +kernel)
  have f56 := hts (.fieldLink RX6 56 "ModeDeskModel" "unlikes" "[I") (by decide +kernel)
  have iX6 : ∀ w ∈ wsX60, w ∈ wsX6_ofRank := by decide +kernel
  unfold mX6_ofRank at h
  refine lv_iconst (v := 0) hx hb dX6_ofRank_0 (by decide) ?_
  refine lv_istore_n (lv' := [(3, .int 0), (0, .ref (ad 0)), (1, .int x1), (2, .int x2)]) hx hb dX6_ofRank_1 rfl hl (by decide) rfl (fun ls hl => ?_)
  have hL2 : ∀ (n : Nat) (x1 : Int32) (x2 : Int32) (x3 : Int32) (ls : Array Slot) (H : Heap) (locs : List Loc), lv_has ls 4 [(0, .ref (ad 0)), (1, .int x1), (2, .int x2), (3, .int x3)] → va_P D vwCl (wX6 cA ad thrown tape taped value weight many block ties lines pastValue pastWeight pastMany undos fresh newValue newWeight newMany newBlock newTies newLines hasBlock hasTies size att place sort number fault faultPlace lastFault lastPlace toValue toWeight toMany often firstOf lastOf unlikes unlikeMany isCandidate modes fewest) H → va_D A (wX6 cA ad thrown tape taped value weight many block ties lines pastValue pastWeight pastMany undos fresh newValue newWeight newMany newBlock newTies newLines hasBlock hasTies size att place sort number fault faultPlace lastFault lastPlace toValue toWeight toMany often firstOf lastOf unlikes unlikeMany isCandidate modes fewest) → va_S A s.heap H locs → mX6_ofRank_L2 often firstOf lastOf unlikes unlikeMany x1 x2 n x3 = some q → W p l e (headSpec wsX6_ofRank { frames := 2, cells := 0, slots := 0, locals := 47 }).room s m args below meth c H locs 0 0 Q (F0 m 2 ls []) := by
    intro n
    induction n with
    | zero => intro x1 x2 x3 ls H locs hl hP hD hS h; exact e_n h
    | succ n ih2 =>
      intro x1 x2 x3 ls H locs hl hP hD hS h
      rw [mX6_ofRank_L2.eq_2] at h
      refine lv_iload_n hx hb dX6_ofRank_2 rfl (lv_at hl 3 rfl) ?_
      refine lv_aload_n hx hb dX6_ofRank_3 rfl (lv_at hl 0 rfl) ?_
      refine va_get (D := D) (ci := 6) (v := .int unlikeMany) (C := RX6) (T := TX6) (N := 42) hx hb hts iX6 hown hK hP 0 rfl rfl 38 (Nat.le_of_ble_eq_true rfl) f242 (fun _ h9 => h9) rfl dX6_ofRank_4 ?_
      refine lv_icmp_ge (tgt := 38) hx hb dX6_ofRank_7 (by decide) (fun c2 => ?_) (fun c2 => ?_)
      · have h := e_t c2 h
        refine lv_iconst (v := (-1)) hx hb dX6_ofRank_38 (by decide) ?_
        obtain rfl := e_s h
        exact hret hP hS rfl dX6_ofRank_39
      · have h := e_f c2 h
        refine lv_aload_n hx hb dX6_ofRank_10 rfl (lv_at hl 0 rfl) ?_
        refine lv_aload_n hx hb dX6_ofRank_11 rfl (lv_at hl 0 rfl) ?_
        refine va_get (D := D) (ci := 6) (v := .ref (ad 14)) (C := RX6) (T := TX6) (N := 42) hx hb hts iX6 hown hK hP 0 rfl rfl 37 (Nat.le_of_ble_eq_true rfl) f56 (fun _ h9 => h9) rfl dX6_ofRank_12 ?_
        refine lv_iload_n hx hb dX6_ofRank_15 rfl (lv_at hl 3 rfl) ?_
        obtain ⟨v3, ev3, nv3, h⟩ := e_rd h
        refine xa_iald hx hb hK hP 14 rfl nv3 ev3 dX6_ofRank_16 ?_
        refine lv_iload_n hx hb dX6_ofRank_17 rfl (lv_at hl 2 rfl) ?_
        obtain ⟨q4, eq4, h⟩ := e_b h
        refine xv_i0 (As := [.int v3, .int x2]) (rest := []) (ci := 6) (b := ad 0) ⟨hx, hb, hml, hown, hts⟩ hl.1 (kX6_rankOf l D cA ad thrown tape taped value weight many block ties lines pastValue pastWeight pastMany undos fresh newValue newWeight newMany newBlock newTies newLines hasBlock hasTies size att place sort number fault faultPlace lastFault lastPlace toValue toWeight toMany often firstOf lastOf unlikes unlikeMany isCandidate modes fewest v3 x2  _ eq4) (cwV 2 hts gX6_ofRank_X6_rankOf rfl rfl rfl (by decide +kernel) ⟨Nat.le_of_ble_eq_true rfl, Nat.le_of_ble_eq_true rfl⟩) rfl hK hP hD hS hA 0 rfl rfl rfl rfl (Nat.le_of_ble_eq_true rfl) dX6_ofRank_18 ⟨Nat.zero_le _, Nat.zero_le _⟩ (fun H locs hP hD hS hnq4 => ?_)
        have hP : va_P D vwCl (wX6 cA ad thrown tape taped value weight many block ties lines pastValue pastWeight pastMany undos fresh newValue newWeight newMany newBlock newTies newLines hasBlock hasTies size att place sort number fault faultPlace lastFault lastPlace toValue toWeight toMany often firstOf lastOf unlikes unlikeMany isCandidate modes fewest) H := hP
        have hD : va_D A (wX6 cA ad thrown tape taped value weight many block ties lines pastValue pastWeight pastMany undos fresh newValue newWeight newMany newBlock newTies newLines hasBlock hasTies size att place sort number fault faultPlace lastFault lastPlace toValue toWeight toMany often firstOf lastOf unlikes unlikeMany isCandidate modes fewest) := hD
        refine lv_iload_n hx hb dX6_ofRank_21 rfl (lv_at hl 1 rfl) ?_
        refine lv_icmp_ne (tgt := 32) hx hb dX6_ofRank_22 (by decide) (fun c5 => ?_) (fun c5 => ?_)
        · have h := e_t c5 h
          refine lv_iinc (v := (x3 + 1)) (lv' := [(3, .int (x3 + 1)), (0, .ref (ad 0)), (1, .int x1), (2, .int x2)]) hx hb dX6_ofRank_32 hl (k := 3) rfl rfl (by decide) rfl (fun ls hl => ?_)
          refine lv_goto (tgt := 2) hx hb dX6_ofRank_35 (by decide) ?_
          exact ih2 x1 x2 (x3 + 1) _ _ _ (lv_sub hl [1, 2, 3, 0] rfl) hP hD hS h
        · have h := e_f (not_not_intro c5) h
          refine lv_aload_n hx hb dX6_ofRank_25 rfl (lv_at hl 0 rfl) ?_
          refine va_get (D := D) (ci := 6) (v := .ref (ad 14)) (C := RX6) (T := TX6) (N := 42) hx hb hts iX6 hown hK hP 0 rfl rfl 37 (Nat.le_of_ble_eq_true rfl) f56 (fun _ h9 => h9) rfl dX6_ofRank_26 ?_
          refine lv_iload_n hx hb dX6_ofRank_29 rfl (lv_at hl 3 rfl) ?_
          obtain ⟨v6, ev6, nv6, h⟩ := e_rd h
          refine xa_iald hx hb hK hP 14 rfl nv6 ev6 dX6_ofRank_30 ?_
          obtain rfl := e_s h
          exact hret hP hS rfl dX6_ofRank_31
  exact hL2 FU x1 x2 0 _ _ _ (lv_sub hl [1, 2, 3, 0] rfl) hP hD hS h
set_option maxHeartbeats 4000000 in
set_option maxRecDepth 100000 in
theorem kX6_modeBy (l : Launch) (D : va_G) (cA : Nat → ClassId) (ad : Nat → Nat) (thrown : Int32) (tape : Nat → Int32) (taped : Int32) (value : Nat → Int32) (weight : Nat → Int32) (many : Int32) (block : Int32) (ties : Int32) (lines : Int32) (pastValue : Nat → Int32) (pastWeight : Nat → Int32) (pastMany : Nat → Int32) (undos : Int32) (fresh : Int32) (newValue : Nat → Int32) (newWeight : Nat → Int32) (newMany : Int32) (newBlock : Int32) (newTies : Int32) (newLines : Int32) (hasBlock : Int32) (hasTies : Int32) (size : Int32) (att : Int32) (place : Int32) (sort : Int32) (number : Int32) (fault : Int32) (faultPlace : Int32) (lastFault : Int32) (lastPlace : Int32) (toValue : Nat → Int32) (toWeight : Nat → Int32) (toMany : Int32) (often : Nat → Int32) (firstOf : Nat → Int32) (lastOf : Nat → Int32) (unlikes : Nat → Int32) (unlikeMany : Int32) (isCandidate : Nat → Int32) (modes : Nat → Int32) (fewest : Nat → Int32) (x1 : Int32) (q : Int32) (h : mX6_modeBy often firstOf lastOf unlikes unlikeMany x1 = some q) : MI l yX6_modeBy wsX6_modeBy { frames := 1, cells := 0, slots := 0, locals := 23 } D cA .int [.ref (ad 0), .int x1] (wX6 cA ad thrown tape taped value weight many block ties lines pastValue pastWeight pastMany undos fresh newValue newWeight newMany newBlock newTies newLines hasBlock hasTies size att place sort number fault faultPlace lastFault lastPlace toValue toWeight toMany often firstOf lastOf unlikes unlikeMany isCandidate modes fewest) (wX6 cA ad thrown tape taped value weight many block ties lines pastValue pastWeight pastMany undos fresh newValue newWeight newMany newBlock newTies newLines hasBlock hasTies size att place sort number fault faultPlace lastFault lastPlace toValue toWeight toMany often firstOf lastOf unlikes unlikeMany isCandidate modes fewest) q := by
  refine MI.of (cc := cX6_modeBy) (maxL := 4) (by decide +kernel) rfl rfl rfl (Nat.le_of_ble_eq_true rfl) ?_
  intro p e s m args below meth c A ls Q hx hb hml hts hown hK hP hD hA hS hl hret
  have hl : lv_has ls 4 [(0, .ref (ad 0)), (1, .int x1)] := hl
  have f242 := hts (.fieldLink RX6 242 "ModeDeskModel" "unlikeMany" "I") (by decide +kernel)
  have f56 := hts (.fieldLink RX6 56 "ModeDeskModel" "unlikes" "[I") (by decide +kernel)
  have iX6 : ∀ w ∈ wsX60, w ∈ wsX6_modeBy := by decide +kernel
  unfold mX6_modeBy at h
  refine lv_iconst (v := (-1)) hx hb dX6_modeBy_0 (by decide) ?_
  refine lv_istore_n (lv' := [(2, .int (-1)), (0, .ref (ad 0)), (1, .int x1)]) hx hb dX6_modeBy_1 rfl hl (by decide) rfl (fun ls hl => ?_)
  refine lv_iconst (v := 0) hx hb dX6_modeBy_2 (by decide) ?_
  refine lv_istore_n (lv' := [(3, .int 0), (2, .int (-1)), (0, .ref (ad 0)), (1, .int x1)]) hx hb dX6_modeBy_3 rfl hl (by decide) rfl (fun ls hl => ?_)
  have hL4 : ∀ (n : Nat) (x1 : Int32) (x2 : Int32) (x3 : Int32) (thrown : Int32) (tape : Nat → Int32) (taped : Int32) (value : Nat → Int32) (weight : Nat → Int32) (many : Int32) (block : Int32) (ties : Int32) (lines : Int32) (pastValue : Nat → Int32) (pastWeight : Nat → Int32) (pastMany : Nat → Int32) (undos : Int32) (fresh : Int32) (newValue : Nat → Int32) (newWeight : Nat → Int32) (newMany : Int32) (newBlock : Int32) (newTies : Int32) (newLines : Int32) (hasBlock : Int32) (hasTies : Int32) (size : Int32) (att : Int32) (place : Int32) (sort : Int32) (number : Int32) (fault : Int32) (faultPlace : Int32) (lastFault : Int32) (lastPlace : Int32) (toValue : Nat → Int32) (toWeight : Nat → Int32) (toMany : Int32) (often : Nat → Int32) (firstOf : Nat → Int32) (lastOf : Nat → Int32) (unlikes : Nat → Int32) (unlikeMany : Int32) (isCandidate : Nat → Int32) (modes : Nat → Int32) (fewest : Nat → Int32) (z1 : Int32) (ls : Array Slot) (H : Heap) (locs : List Loc), lv_has ls 4 [(0, .ref (ad 0)), (1, .int x1), (2, .int x2), (3, .int x3)] → va_P D vwCl (wX6 cA ad thrown tape taped value weight many block ties lines pastValue pastWeight pastMany undos fresh newValue newWeight newMany newBlock newTies newLines hasBlock hasTies size att place sort number fault faultPlace lastFault lastPlace toValue toWeight toMany often firstOf lastOf unlikes unlikeMany isCandidate modes fewest) H → va_D A (wX6 cA ad thrown tape taped value weight many block ties lines pastValue pastWeight pastMany undos fresh newValue newWeight newMany newBlock newTies newLines hasBlock hasTies size att place sort number fault faultPlace lastFault lastPlace toValue toWeight toMany often firstOf lastOf unlikes unlikeMany isCandidate modes fewest) → va_S A s.heap H locs → mX6_modeBy_L4 often firstOf lastOf unlikes unlikeMany x1 n x2 x3 = some z1 → (∀ (ls : Array Slot) (H : Heap) (locs : List Loc), lv_has ls 4 [(2, .int z1)] → va_P D vwCl (wX6 cA ad thrown tape taped value weight many block ties lines pastValue pastWeight pastMany undos fresh newValue newWeight newMany newBlock newTies newLines hasBlock hasTies size att place sort number fault faultPlace lastFault lastPlace toValue toWeight toMany often firstOf lastOf unlikes unlikeMany isCandidate modes fewest) H → va_D A (wX6 cA ad thrown tape taped value weight many block ties lines pastValue pastWeight pastMany undos fresh newValue newWeight newMany newBlock newTies newLines hasBlock hasTies size att place sort number fault faultPlace lastFault lastPlace toValue toWeight toMany often firstOf lastOf unlikes unlikeMany isCandidate modes fewest) → va_S A s.heap H locs → W p l e (headSpec wsX6_modeBy { frames := 1, cells := 0, slots := 0, locals := 23 }).room s m args below meth c H locs 0 0 Q (F0 m 45 ls [])) → W p l e (headSpec wsX6_modeBy { frames := 1, cells := 0, slots := 0, locals := 23 }).room s m args below meth c H locs 0 0 Q (F0 m 4 ls []) := by
    intro n
    induction n with
    | zero => intro x1 x2 x3 thrown tape taped value weight many block ties lines pastValue pastWeight pastMany undos fresh newValue newWeight newMany newBlock newTies newLines hasBlock hasTies size att place sort number fault faultPlace lastFault lastPlace toValue toWeight toMany often firstOf lastOf unlikes unlikeMany isCandidate modes fewest z1 ls H locs hl hP hD hS h hk4; exact e_n h
    | succ n ih4 =>
      intro x1 x2 x3 thrown tape taped value weight many block ties lines pastValue pastWeight pastMany undos fresh newValue newWeight newMany newBlock newTies newLines hasBlock hasTies size att place sort number fault faultPlace lastFault lastPlace toValue toWeight toMany often firstOf lastOf unlikes unlikeMany isCandidate modes fewest z1 ls H locs hl hP hD hS h hk4
      rw [mX6_modeBy_L4.eq_2] at h
      refine lv_iload_n hx hb dX6_modeBy_4 rfl (lv_at hl 3 rfl) ?_
      refine lv_aload_n hx hb dX6_modeBy_5 rfl (lv_at hl 0 rfl) ?_
      refine va_get (D := D) (ci := 6) (v := .int unlikeMany) (C := RX6) (T := TX6) (N := 42) hx hb hts iX6 hown hK hP 0 rfl rfl 38 (Nat.le_of_ble_eq_true rfl) f242 (fun _ h9 => h9) rfl dX6_modeBy_6 ?_
      refine lv_icmp_ge (tgt := 45) hx hb dX6_modeBy_9 (by decide) (fun c2 => ?_) (fun c2 => ?_)
      · have h := e_t c2 h
        obtain rfl := e_s h
        exact hk4 _ _ _ (lv_sub hl [2] rfl) hP hD hS
      · have h := e_f c2 h
        refine lv_iload_n hx hb dX6_modeBy_12 rfl (lv_at hl 2 rfl) ?_
        refine lv_iconst (v := (-1)) hx hb dX6_modeBy_13 (by decide) ?_
        refine lv_icmp_eq (tgt := 32) hx hb dX6_modeBy_14 (by decide) (fun c3 => ?_) (fun c3 => ?_)
        · have h := e_t c3 h
          refine lv_aload_n hx hb dX6_modeBy_32 rfl (lv_at hl 0 rfl) ?_
          refine va_get (D := D) (ci := 6) (v := .ref (ad 14)) (C := RX6) (T := TX6) (N := 42) hx hb hts iX6 hown hK hP 0 rfl rfl 37 (Nat.le_of_ble_eq_true rfl) f56 (fun _ h9 => h9) rfl dX6_modeBy_33 ?_
          refine lv_iload_n hx hb dX6_modeBy_36 rfl (lv_at hl 3 rfl) ?_
          obtain ⟨v4, ev4, nv4, h⟩ := e_rd h
          refine xa_iald hx hb hK hP 14 rfl nv4 ev4 dX6_modeBy_37 ?_
          refine lv_istore_n (lv' := [(2, .int v4), (0, .ref (ad 0)), (1, .int x1), (3, .int x3)]) hx hb dX6_modeBy_38 rfl hl (by decide) rfl (fun ls hl => ?_)
          refine lv_iinc (v := (x3 + 1)) (lv' := [(3, .int (x3 + 1)), (2, .int v4), (0, .ref (ad 0)), (1, .int x1)]) hx hb dX6_modeBy_39 hl (k := 3) rfl rfl (by decide) rfl (fun ls hl => ?_)
          refine lv_goto (tgt := 4) hx hb dX6_modeBy_42 (by decide) ?_
          exact ih4 x1 v4 (x3 + 1) thrown tape taped value weight many block ties lines pastValue pastWeight pastMany undos fresh newValue newWeight newMany newBlock newTies newLines hasBlock hasTies size att place sort number fault faultPlace lastFault lastPlace toValue toWeight toMany often firstOf lastOf unlikes unlikeMany isCandidate modes fewest z1 _ _ _ (lv_sub hl [2, 3, 1, 0] rfl) hP hD hS h hk4
        · have h := e_f c3 h
          refine lv_aload_n hx hb dX6_modeBy_17 rfl (lv_at hl 0 rfl) ?_
          refine lv_aload_n hx hb dX6_modeBy_18 rfl (lv_at hl 0 rfl) ?_
          refine va_get (D := D) (ci := 6) (v := .ref (ad 14)) (C := RX6) (T := TX6) (N := 42) hx hb hts iX6 hown hK hP 0 rfl rfl 37 (Nat.le_of_ble_eq_true rfl) f56 (fun _ h9 => h9) rfl dX6_modeBy_19 ?_
          refine lv_iload_n hx hb dX6_modeBy_22 rfl (lv_at hl 3 rfl) ?_
          obtain ⟨v5, ev5, nv5, h⟩ := e_rd h
          refine xa_iald hx hb hK hP 14 rfl nv5 ev5 dX6_modeBy_23 ?_
          refine lv_iload_n hx hb dX6_modeBy_24 rfl (lv_at hl 2 rfl) ?_
          refine lv_iload_n hx hb dX6_modeBy_25 rfl (lv_at hl 1 rfl) ?_
          obtain ⟨q6, eq6, h⟩ := e_b h
          refine xv_i0 (As := [.int v5, .int x2, .int x1]) (rest := []) (ci := 6) (b := ad 0) ⟨hx, hb, hml, hown, hts⟩ hl.1 (kX6_isAhead l D cA ad thrown tape taped value weight many block ties lines pastValue pastWeight pastMany undos fresh newValue newWeight newMany newBlock newTies newLines hasBlock hasTies size att place sort number fault faultPlace lastFault lastPlace toValue toWeight toMany often firstOf lastOf unlikes unlikeMany isCandidate modes fewest v5 x2 x1  _ eq6) (cwV 3 hts gX6_modeBy_X6_isAhead rfl rfl rfl (by decide +kernel) ⟨Nat.le_of_ble_eq_true rfl, Nat.le_of_ble_eq_true rfl⟩) rfl hK hP hD hS hA 0 rfl rfl rfl rfl (Nat.le_of_ble_eq_true rfl) dX6_modeBy_26 ⟨Nat.zero_le _, Nat.zero_le _⟩ (fun H locs hP hD hS hnq6 => ?_)
          have hP : va_P D vwCl (wX6 cA ad thrown tape taped value weight many block ties lines pastValue pastWeight pastMany undos fresh newValue newWeight newMany newBlock newTies newLines hasBlock hasTies size att place sort number fault faultPlace lastFault lastPlace toValue toWeight toMany often firstOf lastOf unlikes unlikeMany isCandidate modes fewest) H := hP
          have hD : va_D A (wX6 cA ad thrown tape taped value weight many block ties lines pastValue pastWeight pastMany undos fresh newValue newWeight newMany newBlock newTies newLines hasBlock hasTies size att place sort number fault faultPlace lastFault lastPlace toValue toWeight toMany often firstOf lastOf unlikes unlikeMany isCandidate modes fewest) := hD
          refine lv_if_eq (tgt := 39) hx hb dX6_modeBy_29 (by decide) (fun c7 => ?_) (fun c7 => ?_)
          · have h := e_t c7 h
            refine lv_iinc (v := (x3 + 1)) (lv' := [(3, .int (x3 + 1)), (0, .ref (ad 0)), (1, .int x1), (2, .int x2)]) hx hb dX6_modeBy_39 hl (k := 3) rfl rfl (by decide) rfl (fun ls hl => ?_)
            refine lv_goto (tgt := 4) hx hb dX6_modeBy_42 (by decide) ?_
            exact ih4 x1 x2 (x3 + 1) thrown tape taped value weight many block ties lines pastValue pastWeight pastMany undos fresh newValue newWeight newMany newBlock newTies newLines hasBlock hasTies size att place sort number fault faultPlace lastFault lastPlace toValue toWeight toMany often firstOf lastOf unlikes unlikeMany isCandidate modes fewest z1 _ _ _ (lv_sub hl [1, 2, 3, 0] rfl) hP hD hS h hk4
          · have h := e_f c7 h
            refine lv_aload_n hx hb dX6_modeBy_32 rfl (lv_at hl 0 rfl) ?_
            refine va_get (D := D) (ci := 6) (v := .ref (ad 14)) (C := RX6) (T := TX6) (N := 42) hx hb hts iX6 hown hK hP 0 rfl rfl 37 (Nat.le_of_ble_eq_true rfl) f56 (fun _ h9 => h9) rfl dX6_modeBy_33 ?_
            refine lv_iload_n hx hb dX6_modeBy_36 rfl (lv_at hl 3 rfl) ?_
            obtain ⟨v8, ev8, nv8, h⟩ := e_rd h
            refine xa_iald hx hb hK hP 14 rfl nv8 ev8 dX6_modeBy_37 ?_
            refine lv_istore_n (lv' := [(2, .int v8), (0, .ref (ad 0)), (1, .int x1), (3, .int x3)]) hx hb dX6_modeBy_38 rfl hl (by decide) rfl (fun ls hl => ?_)
            refine lv_iinc (v := (x3 + 1)) (lv' := [(3, .int (x3 + 1)), (2, .int v8), (0, .ref (ad 0)), (1, .int x1)]) hx hb dX6_modeBy_39 hl (k := 3) rfl rfl (by decide) rfl (fun ls hl => ?_)
            refine lv_goto (tgt := 4) hx hb dX6_modeBy_42 (by decide) ?_
            exact ih4 x1 v8 (x3 + 1) thrown tape taped value weight many block ties lines pastValue pastWeight pastMany undos fresh newValue newWeight newMany newBlock newTies newLines hasBlock hasTies size att place sort number fault faultPlace lastFault lastPlace toValue toWeight toMany often firstOf lastOf unlikes unlikeMany isCandidate modes fewest z1 _ _ _ (lv_sub hl [2, 3, 1, 0] rfl) hP hD hS h hk4
  obtain ⟨z9, ez9, h⟩ := e_b h
  refine hL4 FU x1 (-1) 0 thrown tape taped value weight many block ties lines pastValue pastWeight pastMany undos fresh newValue newWeight newMany newBlock newTies newLines hasBlock hasTies size att place sort number fault faultPlace lastFault lastPlace toValue toWeight toMany often firstOf lastOf unlikes unlikeMany isCandidate modes fewest z9 _ _ _ (lv_sub hl [2, 3, 1, 0] rfl) hP hD hS ez9 (fun ls H locs hl hP hD hS => ?_)
  refine lv_iload_n hx hb dX6_modeBy_45 rfl (lv_at hl 0 rfl) ?_
  obtain rfl := e_s h
  exact hret hP hS rfl dX6_modeBy_46
set_option maxHeartbeats 4000000 in
set_option maxRecDepth 100000 in
theorem kX6_modeOf (l : Launch) (D : va_G) (cA : Nat → ClassId) (ad : Nat → Nat) (thrown : Int32) (tape : Nat → Int32) (taped : Int32) (value : Nat → Int32) (weight : Nat → Int32) (many : Int32) (block : Int32) (ties : Int32) (lines : Int32) (pastValue : Nat → Int32) (pastWeight : Nat → Int32) (pastMany : Nat → Int32) (undos : Int32) (fresh : Int32) (newValue : Nat → Int32) (newWeight : Nat → Int32) (newMany : Int32) (newBlock : Int32) (newTies : Int32) (newLines : Int32) (hasBlock : Int32) (hasTies : Int32) (size : Int32) (att : Int32) (place : Int32) (sort : Int32) (number : Int32) (fault : Int32) (faultPlace : Int32) (lastFault : Int32) (lastPlace : Int32) (toValue : Nat → Int32) (toWeight : Nat → Int32) (toMany : Int32) (often : Nat → Int32) (firstOf : Nat → Int32) (lastOf : Nat → Int32) (unlikes : Nat → Int32) (unlikeMany : Int32) (isCandidate : Nat → Int32) (modes : Nat → Int32) (fewest : Nat → Int32) (x1 : Int32) (x2 : Int32) (q : Int32 × (Nat → Int32) × (Nat → Int32) × (Nat → Int32) × (Nat → Int32) × Int32) (h : mX6_modeOf value ties often firstOf lastOf unlikes unlikeMany x1 x2 = some q) : MI l yX6_modeOf wsX6_modeOf { frames := 2, cells := 0, slots := 0, locals := 46 } D cA .int [.ref (ad 0), .int x1, .int x2] (wX6 cA ad thrown tape taped value weight many block ties lines pastValue pastWeight pastMany undos fresh newValue newWeight newMany newBlock newTies newLines hasBlock hasTies size att place sort number fault faultPlace lastFault lastPlace toValue toWeight toMany often firstOf lastOf unlikes unlikeMany isCandidate modes fewest) (wX6 cA ad thrown tape taped value weight many block ties lines pastValue pastWeight pastMany undos fresh newValue newWeight newMany newBlock newTies newLines hasBlock hasTies size att place sort number fault faultPlace lastFault lastPlace toValue toWeight toMany q.2.1 q.2.2.1 q.2.2.2.1 q.2.2.2.2.1 q.2.2.2.2.2 isCandidate modes fewest) q.1 := by
  refine MI.of (cc := cX6_modeOf) (maxL := 3) (by decide +kernel) rfl rfl rfl (Nat.le_of_ble_eq_true rfl) ?_
  intro p e s m args below meth c A ls Q hx hb hml hts hown hK hP hD hA hS hl hret
  have hl : lv_has ls 3 [(0, .ref (ad 0)), (1, .int x1), (2, .int x2)] := hl
  have f178 := hts (.fieldLink RX6 178 "ModeDeskModel" "ties" "I") (by decide +kernel)
  have iX6 : ∀ w ∈ wsX60, w ∈ wsX6_modeOf := by decide +kernel
  unfold mX6_modeOf at h
  refine lv_aload_n hx hb dX6_modeOf_0 rfl (lv_at hl 0 rfl) ?_
  refine lv_iload_n hx hb dX6_modeOf_1 rfl (lv_at hl 1 rfl) ?_
  refine lv_iload_n hx hb dX6_modeOf_2 rfl (lv_at hl 2 rfl) ?_
  refine lv_iconst (v := (-1)) hx hb dX6_modeOf_3 (by decide) ?_
  obtain ⟨q1, eq1, h⟩ := e_b h
  refine xv_v0 (As := [.int x1, .int x2, .int (-1)]) (rest := []) (ci := 6) (b := ad 0) ⟨hx, hb, hml, hown, hts⟩ hl.1 (kX6_counts l D cA ad thrown tape taped value weight many block ties lines pastValue pastWeight pastMany undos fresh newValue newWeight newMany newBlock newTies newLines hasBlock hasTies size att place sort number fault faultPlace lastFault lastPlace toValue toWeight toMany often firstOf lastOf unlikes unlikeMany isCandidate modes fewest x1 x2 (-1)  _ eq1) (cwV 3 hts gX6_modeOf_X6_counts rfl rfl rfl (by decide +kernel) ⟨Nat.le_of_ble_eq_true rfl, Nat.le_of_ble_eq_true rfl⟩) rfl hK hP hD hS hA 0 rfl rfl rfl rfl (Nat.le_of_ble_eq_true rfl) dX6_modeOf_4 ⟨Nat.zero_le _, Nat.zero_le _⟩ (fun H locs hP hD hS => ?_)
  have hP : va_P D vwCl (wX6 cA ad thrown tape taped value weight many block ties lines pastValue pastWeight pastMany undos fresh newValue newWeight newMany newBlock newTies newLines hasBlock hasTies size att place sort number fault faultPlace lastFault lastPlace toValue toWeight toMany q1.1 q1.2.1 q1.2.2.1 q1.2.2.2.1 q1.2.2.2.2 isCandidate modes fewest) H := hP
  have hD : va_D A (wX6 cA ad thrown tape taped value weight many block ties lines pastValue pastWeight pastMany undos fresh newValue newWeight newMany newBlock newTies newLines hasBlock hasTies size att place sort number fault faultPlace lastFault lastPlace toValue toWeight toMany q1.1 q1.2.1 q1.2.2.1 q1.2.2.2.1 q1.2.2.2.2 isCandidate modes fewest) := hD
  refine lv_aload_n hx hb dX6_modeOf_7 rfl (lv_at hl 0 rfl) ?_
  refine lv_aload_n hx hb dX6_modeOf_8 rfl (lv_at hl 0 rfl) ?_
  refine va_get (D := D) (ci := 6) (v := .int ties) (C := RX6) (T := TX6) (N := 42) hx hb hts iX6 hown hK hP 0 rfl rfl 7 (Nat.le_of_ble_eq_true rfl) f178 (fun _ h9 => h9) rfl dX6_modeOf_9 ?_
  obtain ⟨q2, eq2, h⟩ := e_b h
  refine xv_i0 (As := [.int ties]) (rest := []) (ci := 6) (b := ad 0) ⟨hx, hb, hml, hown, hts⟩ hl.1 (kX6_modeBy l D cA ad thrown tape taped value weight many block ties lines pastValue pastWeight pastMany undos fresh newValue newWeight newMany newBlock newTies newLines hasBlock hasTies size att place sort number fault faultPlace lastFault lastPlace toValue toWeight toMany q1.1 q1.2.1 q1.2.2.1 q1.2.2.2.1 q1.2.2.2.2 isCandidate modes fewest ties  _ eq2) (cwV 1 hts gX6_modeOf_X6_modeBy rfl rfl rfl (by decide +kernel) ⟨Nat.le_of_ble_eq_true rfl, Nat.le_of_ble_eq_true rfl⟩) rfl hK hP hD hS hA 0 rfl rfl rfl rfl (Nat.le_of_ble_eq_true rfl) dX6_modeOf_12 ⟨Nat.zero_le _, Nat.zero_le _⟩ (fun H locs hP hD hS hnq2 => ?_)
  have hP : va_P D vwCl (wX6 cA ad thrown tape taped value weight many block ties lines pastValue pastWeight pastMany undos fresh newValue newWeight newMany newBlock newTies newLines hasBlock hasTies size att place sort number fault faultPlace lastFault lastPlace toValue toWeight toMany q1.1 q1.2.1 q1.2.2.1 q1.2.2.2.1 q1.2.2.2.2 isCandidate modes fewest) H := hP
  have hD : va_D A (wX6 cA ad thrown tape taped value weight many block ties lines pastValue pastWeight pastMany undos fresh newValue newWeight newMany newBlock newTies newLines hasBlock hasTies size att place sort number fault faultPlace lastFault lastPlace toValue toWeight toMany q1.1 q1.2.1 q1.2.2.1 q1.2.2.2.1 q1.2.2.2.2 isCandidate modes fewest) := hD
  obtain rfl := e_s h
  exact hret hP hS rfl dX6_modeOf_15
set_option maxHeartbeats 4000000 in
set_option maxRecDepth 100000 in
theorem kX6_told (l : Launch) (D : va_G) (cA : Nat → ClassId) (ad : Nat → Nat) (thrown : Int32) (tape : Nat → Int32) (taped : Int32) (value : Nat → Int32) (weight : Nat → Int32) (many : Int32) (block : Int32) (ties : Int32) (lines : Int32) (pastValue : Nat → Int32) (pastWeight : Nat → Int32) (pastMany : Nat → Int32) (undos : Int32) (fresh : Int32) (newValue : Nat → Int32) (newWeight : Nat → Int32) (newMany : Int32) (newBlock : Int32) (newTies : Int32) (newLines : Int32) (hasBlock : Int32) (hasTies : Int32) (size : Int32) (att : Int32) (place : Int32) (sort : Int32) (number : Int32) (fault : Int32) (faultPlace : Int32) (lastFault : Int32) (lastPlace : Int32) (toValue : Nat → Int32) (toWeight : Nat → Int32) (toMany : Int32) (often : Nat → Int32) (firstOf : Nat → Int32) (lastOf : Nat → Int32) (unlikes : Nat → Int32) (unlikeMany : Int32) (isCandidate : Nat → Int32) (modes : Nat → Int32) (fewest : Nat → Int32) (x1 : Int32) (x2 : Int32) (q : Int32) (h : mX6_told often firstOf lastOf x1 x2 = some q) : MI l yX6_told wsX6_told { frames := 0, cells := 0, slots := 0, locals := 0 } D cA .int [.ref (ad 0), .int x1, .int x2] (wX6 cA ad thrown tape taped value weight many block ties lines pastValue pastWeight pastMany undos fresh newValue newWeight newMany newBlock newTies newLines hasBlock hasTies size att place sort number fault faultPlace lastFault lastPlace toValue toWeight toMany often firstOf lastOf unlikes unlikeMany isCandidate modes fewest) (wX6 cA ad thrown tape taped value weight many block ties lines pastValue pastWeight pastMany undos fresh newValue newWeight newMany newBlock newTies newLines hasBlock hasTies size att place sort number fault faultPlace lastFault lastPlace toValue toWeight toMany often firstOf lastOf unlikes unlikeMany isCandidate modes fewest) q := by
  refine MI.of (cc := cX6_told) (maxL := 3) (by decide +kernel) rfl rfl rfl (Nat.le_of_ble_eq_true rfl) ?_
  intro p e s m args below meth c A ls Q hx hb hml hts hown hK hP hD hA hS hl hret
  have hl : lv_has ls 3 [(0, .ref (ad 0)), (1, .int x1), (2, .int x2)] := hl
  have f47 := hts (.fieldLink RX6 47 "ModeDeskModel" "often" "[I") (by decide +kernel)
  have f50 := hts (.fieldLink RX6 50 "ModeDeskModel" "firstOf" "[I") (by decide +kernel)
  have f53 := hts (.fieldLink RX6 53 "ModeDeskModel" "lastOf" "[I") (by decide +kernel)
  have iX6 : ∀ w ∈ wsX60, w ∈ wsX6_told := by decide +kernel
  unfold mX6_told at h
  refine lv_iload_n hx hb dX6_told_0 rfl (lv_at hl 2 rfl) ?_
  refine lv_if_ne (tgt := 8) hx hb dX6_told_1 (by decide) (fun c1 => ?_) (fun c1 => ?_)
  · have h := e_t c1 h
    refine lv_iload_n hx hb dX6_told_8 rfl (lv_at hl 2 rfl) ?_
    refine lv_iconst (v := 1) hx hb dX6_told_9 (by decide) ?_
    refine lv_icmp_ne (tgt := 22) hx hb dX6_told_10 (by decide) (fun c2 => ?_) (fun c2 => ?_)
    · have h := e_t c2 h
      refine lv_iload_n hx hb dX6_told_22 rfl (lv_at hl 2 rfl) ?_
      refine lv_iconst (v := 2) hx hb dX6_told_23 (by decide) ?_
      refine lv_icmp_ne (tgt := 36) hx hb dX6_told_24 (by decide) (fun c3 => ?_) (fun c3 => ?_)
      · have h := e_t c3 h
        refine lv_aload_n hx hb dX6_told_36 rfl (lv_at hl 0 rfl) ?_
        refine va_get (D := D) (ci := 6) (v := .ref (ad 13)) (C := RX6) (T := TX6) (N := 42) hx hb hts iX6 hown hK hP 0 rfl rfl 36 (Nat.le_of_ble_eq_true rfl) f53 (fun _ h9 => h9) rfl dX6_told_37 ?_
        refine lv_iload_n hx hb dX6_told_40 rfl (lv_at hl 1 rfl) ?_
        obtain ⟨v4, ev4, nv4, h⟩ := e_rd h
        refine xa_iald hx hb hK hP 13 rfl nv4 ev4 dX6_told_41 ?_
        obtain rfl := e_s h
        exact hret hP hS rfl dX6_told_42
      · have h := e_f (not_not_intro c3) h
        refine lv_aload_n hx hb dX6_told_27 rfl (lv_at hl 0 rfl) ?_
        refine va_get (D := D) (ci := 6) (v := .ref (ad 12)) (C := RX6) (T := TX6) (N := 42) hx hb hts iX6 hown hK hP 0 rfl rfl 35 (Nat.le_of_ble_eq_true rfl) f50 (fun _ h9 => h9) rfl dX6_told_28 ?_
        refine lv_iload_n hx hb dX6_told_31 rfl (lv_at hl 1 rfl) ?_
        obtain ⟨v5, ev5, nv5, h⟩ := e_rd h
        refine xa_iald hx hb hK hP 12 rfl nv5 ev5 dX6_told_32 ?_
        refine lv_goto (tgt := 42) hx hb dX6_told_33 (by decide) ?_
        obtain rfl := e_s h
        exact hret hP hS rfl dX6_told_42
    · have h := e_f (not_not_intro c2) h
      refine lv_aload_n hx hb dX6_told_13 rfl (lv_at hl 0 rfl) ?_
      refine va_get (D := D) (ci := 6) (v := .ref (ad 11)) (C := RX6) (T := TX6) (N := 42) hx hb hts iX6 hown hK hP 0 rfl rfl 34 (Nat.le_of_ble_eq_true rfl) f47 (fun _ h9 => h9) rfl dX6_told_14 ?_
      refine lv_iload_n hx hb dX6_told_17 rfl (lv_at hl 1 rfl) ?_
      obtain ⟨v6, ev6, nv6, h⟩ := e_rd h
      refine xa_iald hx hb hK hP 11 rfl nv6 ev6 dX6_told_18 ?_
      refine lv_goto (tgt := 42) hx hb dX6_told_19 (by decide) ?_
      obtain rfl := e_s h
      exact hret hP hS rfl dX6_told_42
  · have h := e_f (not_not_intro c1) h
    refine lv_iload_n hx hb dX6_told_4 rfl (lv_at hl 1 rfl) ?_
    refine lv_goto (tgt := 42) hx hb dX6_told_5 (by decide) ?_
    obtain rfl := e_s h
    exact hret hP hS rfl dX6_told_42
set_option maxHeartbeats 4000000 in
set_option maxRecDepth 100000 in
theorem kX6_mode (l : Launch) (D : va_G) (cA : Nat → ClassId) (ad : Nat → Nat) (thrown : Int32) (tape : Nat → Int32) (taped : Int32) (value : Nat → Int32) (weight : Nat → Int32) (many : Int32) (block : Int32) (ties : Int32) (lines : Int32) (pastValue : Nat → Int32) (pastWeight : Nat → Int32) (pastMany : Nat → Int32) (undos : Int32) (fresh : Int32) (newValue : Nat → Int32) (newWeight : Nat → Int32) (newMany : Int32) (newBlock : Int32) (newTies : Int32) (newLines : Int32) (hasBlock : Int32) (hasTies : Int32) (size : Int32) (att : Int32) (place : Int32) (sort : Int32) (number : Int32) (fault : Int32) (faultPlace : Int32) (lastFault : Int32) (lastPlace : Int32) (toValue : Nat → Int32) (toWeight : Nat → Int32) (toMany : Int32) (often : Nat → Int32) (firstOf : Nat → Int32) (lastOf : Nat → Int32) (unlikes : Nat → Int32) (unlikeMany : Int32) (isCandidate : Nat → Int32) (modes : Nat → Int32) (fewest : Nat → Int32) (x1 : Int32) (x2 : Int32) (x3 : Int32) (q : Int32 × Int32 × (Nat → Int32) × (Nat → Int32) × (Nat → Int32) × (Nat → Int32) × Int32) (h : mX6_mode thrown value many ties often firstOf lastOf unlikes unlikeMany x1 x2 x3 = some q) : MI l yX6_mode wsX6_mode { frames := 3, cells := 0, slots := 0, locals := 68 } D cA .int [.ref (ad 0), .int x1, .int x2, .int x3] (wX6 cA ad thrown tape taped value weight many block ties lines pastValue pastWeight pastMany undos fresh newValue newWeight newMany newBlock newTies newLines hasBlock hasTies size att place sort number fault faultPlace lastFault lastPlace toValue toWeight toMany often firstOf lastOf unlikes unlikeMany isCandidate modes fewest) (wX6 cA ad q.2.1 tape taped value weight many block ties lines pastValue pastWeight pastMany undos fresh newValue newWeight newMany newBlock newTies newLines hasBlock hasTies size att place sort number fault faultPlace lastFault lastPlace toValue toWeight toMany q.2.2.1 q.2.2.2.1 q.2.2.2.2.1 q.2.2.2.2.2.1 q.2.2.2.2.2.2 isCandidate modes fewest) q.1 := by
  refine MI.of (cc := cX6_mode) (maxL := 4) (by decide +kernel) rfl rfl rfl (Nat.le_of_ble_eq_true rfl) ?_
  intro p e s m args below meth c A ls Q hx hb hml hts hown hK hP hD hA hS hl hret
  have hl : lv_has ls 4 [(0, .ref (ad 0)), (1, .int x1), (2, .int x2), (3, .int x3)] := hl
  have f72 := hts (.fieldLink RX6 72 "ModeDeskModel" "thrown" "I") (by decide +kernel)
  have iX6 : ∀ w ∈ wsX60, w ∈ wsX6_mode := by decide +kernel
  unfold mX6_mode at h
  refine lv_aload_n hx hb dX6_mode_0 rfl (lv_at hl 0 rfl) ?_
  refine lv_iconst (v := 0) hx hb dX6_mode_1 (by decide) ?_
  refine va_put (D := D) (ci := 6) (v := .int 0) (ty := .int) (C := RX6) (T := TX6) (N := 42) hx hb hts iX6 tyX6 tyX6_ok nmX6 hown hK hP hD hS 0 rfl rfl 0 (Nat.le_of_ble_eq_true rfl) f72 (fun _ h9 => h9) rfl (tyX6_ok 0 (Nat.le_of_ble_eq_true rfl)) rfl rfl (Nat.le_of_ble_eq_true rfl) dX6_mode_2 (fun H locs hP hD hS => ?_)
  have hP : va_P D vwCl (wX6 cA ad 0 tape taped value weight many block ties lines pastValue pastWeight pastMany undos fresh newValue newWeight newMany newBlock newTies newLines hasBlock hasTies size att place sort number fault faultPlace lastFault lastPlace toValue toWeight toMany often firstOf lastOf unlikes unlikeMany isCandidate modes fewest) H := hP
  have hD : va_D A (wX6 cA ad 0 tape taped value weight many block ties lines pastValue pastWeight pastMany undos fresh newValue newWeight newMany newBlock newTies newLines hasBlock hasTies size att place sort number fault faultPlace lastFault lastPlace toValue toWeight toMany often firstOf lastOf unlikes unlikeMany isCandidate modes fewest) := hD
  refine lv_aload_n hx hb dX6_mode_5 rfl (lv_at hl 0 rfl) ?_
  refine lv_iload_n hx hb dX6_mode_6 rfl (lv_at hl 1 rfl) ?_
  refine lv_iload_n hx hb dX6_mode_7 rfl (lv_at hl 2 rfl) ?_
  obtain ⟨q1, eq1, h⟩ := e_b h
  refine xv_i0 (As := [.int x1, .int x2]) (rest := []) (ci := 6) (b := ad 0) ⟨hx, hb, hml, hown, hts⟩ hl.1 (kX6_isSpan l D cA ad 0 tape taped value weight many block ties lines pastValue pastWeight pastMany undos fresh newValue newWeight newMany newBlock newTies newLines hasBlock hasTies size att place sort number fault faultPlace lastFault lastPlace toValue toWeight toMany often firstOf lastOf unlikes unlikeMany isCandidate modes fewest x1 x2  _ eq1) (cwV 2 hts gX6_mode_X6_isSpan rfl rfl rfl (by decide +kernel) ⟨Nat.le_of_ble_eq_true rfl, Nat.le_of_ble_eq_true rfl⟩) rfl hK hP hD hS hA 0 rfl rfl rfl rfl (Nat.le_of_ble_eq_true rfl) dX6_mode_8 ⟨Nat.zero_le _, Nat.zero_le _⟩ (fun H locs hP hD hS hnq1 => ?_)
  have hP : va_P D vwCl (wX6 cA ad 0 tape taped value weight many block ties lines pastValue pastWeight pastMany undos fresh newValue newWeight newMany newBlock newTies newLines hasBlock hasTies size att place sort number fault faultPlace lastFault lastPlace toValue toWeight toMany often firstOf lastOf unlikes unlikeMany isCandidate modes fewest) H := hP
  have hD : va_D A (wX6 cA ad 0 tape taped value weight many block ties lines pastValue pastWeight pastMany undos fresh newValue newWeight newMany newBlock newTies newLines hasBlock hasTies size att place sort number fault faultPlace lastFault lastPlace toValue toWeight toMany often firstOf lastOf unlikes unlikeMany isCandidate modes fewest) := hD
  refine lv_if_eq (tgt := 23) hx hb dX6_mode_11 (by decide) (fun c2 => ?_) (fun c2 => ?_)
  · have h := e_t c2 h
    refine lv_iconst (v := (-1)) hx hb dX6_mode_23 (by decide) ?_
    refine lv_goto (tgt := 38) hx hb dX6_mode_24 (by decide) ?_
    obtain rfl := e_s h
    exact hret hP hS rfl dX6_mode_38
  · have h := e_f c2 h
    refine lv_iload_n hx hb dX6_mode_14 rfl (lv_at hl 3 rfl) ?_
    refine lv_if_lt (tgt := 23) hx hb dX6_mode_15 (by decide) (fun c3 => ?_) (fun c3 => ?_)
    · have h := e_t c3 h
      refine lv_iconst (v := (-1)) hx hb dX6_mode_23 (by decide) ?_
      refine lv_goto (tgt := 38) hx hb dX6_mode_24 (by decide) ?_
      obtain rfl := e_s h
      exact hret hP hS rfl dX6_mode_38
    · have h := e_f c3 h
      refine lv_iload_n hx hb dX6_mode_18 rfl (lv_at hl 3 rfl) ?_
      refine lv_iconst (v := 3) hx hb dX6_mode_19 (by decide) ?_
      refine lv_icmp_le (tgt := 27) hx hb dX6_mode_20 (by decide) (fun c4 => ?_) (fun c4 => ?_)
      · have h := e_t c4 h
        refine lv_aload_n hx hb dX6_mode_27 rfl (lv_at hl 0 rfl) ?_
        refine lv_aload_n hx hb dX6_mode_28 rfl (lv_at hl 0 rfl) ?_
        refine lv_iload_n hx hb dX6_mode_29 rfl (lv_at hl 1 rfl) ?_
        refine lv_iload_n hx hb dX6_mode_30 rfl (lv_at hl 2 rfl) ?_
        obtain ⟨q5, eq5, h⟩ := e_b h
        refine xv_i0 (As := [.int x1, .int x2]) (rest := [.ref (ad 0)]) (ci := 6) (b := ad 0) ⟨hx, hb, hml, hown, hts⟩ hl.1 (kX6_modeOf l D cA ad 0 tape taped value weight many block ties lines pastValue pastWeight pastMany undos fresh newValue newWeight newMany newBlock newTies newLines hasBlock hasTies size att place sort number fault faultPlace lastFault lastPlace toValue toWeight toMany often firstOf lastOf unlikes unlikeMany isCandidate modes fewest x1 x2  _ eq5) (cwV 2 hts gX6_mode_X6_modeOf rfl rfl rfl (by decide +kernel) ⟨Nat.le_of_ble_eq_true rfl, Nat.le_of_ble_eq_true rfl⟩) rfl hK hP hD hS hA 0 rfl rfl rfl rfl (Nat.le_of_ble_eq_true rfl) dX6_mode_31 ⟨Nat.zero_le _, Nat.zero_le _⟩ (fun H locs hP hD hS hnq5 => ?_)
        have hP : va_P D vwCl (wX6 cA ad 0 tape taped value weight many block ties lines pastValue pastWeight pastMany undos fresh newValue newWeight newMany newBlock newTies newLines hasBlock hasTies size att place sort number fault faultPlace lastFault lastPlace toValue toWeight toMany q5.2.1 q5.2.2.1 q5.2.2.2.1 q5.2.2.2.2.1 q5.2.2.2.2.2 isCandidate modes fewest) H := hP
        have hD : va_D A (wX6 cA ad 0 tape taped value weight many block ties lines pastValue pastWeight pastMany undos fresh newValue newWeight newMany newBlock newTies newLines hasBlock hasTies size att place sort number fault faultPlace lastFault lastPlace toValue toWeight toMany q5.2.1 q5.2.2.1 q5.2.2.2.1 q5.2.2.2.2.1 q5.2.2.2.2.2 isCandidate modes fewest) := hD
        refine lv_iload_n hx hb dX6_mode_34 rfl (lv_at hl 3 rfl) ?_
        obtain ⟨q6, eq6, h⟩ := e_b h
        refine xv_i0 (As := [.int q5.1, .int x3]) (rest := []) (ci := 6) (b := ad 0) ⟨hx, hb, hml, hown, hts⟩ hl.1 (kX6_told l D cA ad 0 tape taped value weight many block ties lines pastValue pastWeight pastMany undos fresh newValue newWeight newMany newBlock newTies newLines hasBlock hasTies size att place sort number fault faultPlace lastFault lastPlace toValue toWeight toMany q5.2.1 q5.2.2.1 q5.2.2.2.1 q5.2.2.2.2.1 q5.2.2.2.2.2 isCandidate modes fewest q5.1 x3  _ eq6) (cwV 2 hts gX6_mode_X6_told rfl rfl rfl (by decide +kernel) ⟨Nat.le_of_ble_eq_true rfl, Nat.le_of_ble_eq_true rfl⟩) rfl hK hP hD hS hA 0 rfl rfl rfl rfl (Nat.le_of_ble_eq_true rfl) dX6_mode_35 ⟨Nat.zero_le _, Nat.zero_le _⟩ (fun H locs hP hD hS hnq6 => ?_)
        have hP : va_P D vwCl (wX6 cA ad 0 tape taped value weight many block ties lines pastValue pastWeight pastMany undos fresh newValue newWeight newMany newBlock newTies newLines hasBlock hasTies size att place sort number fault faultPlace lastFault lastPlace toValue toWeight toMany q5.2.1 q5.2.2.1 q5.2.2.2.1 q5.2.2.2.2.1 q5.2.2.2.2.2 isCandidate modes fewest) H := hP
        have hD : va_D A (wX6 cA ad 0 tape taped value weight many block ties lines pastValue pastWeight pastMany undos fresh newValue newWeight newMany newBlock newTies newLines hasBlock hasTies size att place sort number fault faultPlace lastFault lastPlace toValue toWeight toMany q5.2.1 q5.2.2.1 q5.2.2.2.1 q5.2.2.2.2.1 q5.2.2.2.2.2 isCandidate modes fewest) := hD
        obtain rfl := e_s h
        exact hret hP hS rfl dX6_mode_38
      · have h := e_f c4 h
        refine lv_iconst (v := (-1)) hx hb dX6_mode_23 (by decide) ?_
        refine lv_goto (tgt := 38) hx hb dX6_mode_24 (by decide) ?_
        obtain rfl := e_s h
        exact hret hP hS rfl dX6_mode_38
set_option maxHeartbeats 4000000 in
set_option maxRecDepth 100000 in
theorem kX6_ranked (l : Launch) (D : va_G) (cA : Nat → ClassId) (ad : Nat → Nat) (thrown : Int32) (tape : Nat → Int32) (taped : Int32) (value : Nat → Int32) (weight : Nat → Int32) (many : Int32) (block : Int32) (ties : Int32) (lines : Int32) (pastValue : Nat → Int32) (pastWeight : Nat → Int32) (pastMany : Nat → Int32) (undos : Int32) (fresh : Int32) (newValue : Nat → Int32) (newWeight : Nat → Int32) (newMany : Int32) (newBlock : Int32) (newTies : Int32) (newLines : Int32) (hasBlock : Int32) (hasTies : Int32) (size : Int32) (att : Int32) (place : Int32) (sort : Int32) (number : Int32) (fault : Int32) (faultPlace : Int32) (lastFault : Int32) (lastPlace : Int32) (toValue : Nat → Int32) (toWeight : Nat → Int32) (toMany : Int32) (often : Nat → Int32) (firstOf : Nat → Int32) (lastOf : Nat → Int32) (unlikes : Nat → Int32) (unlikeMany : Int32) (isCandidate : Nat → Int32) (modes : Nat → Int32) (fewest : Nat → Int32) (x1 : Int32) (x2 : Int32) (x3 : Int32) (x4 : Int32) (q : Int32 × Int32 × (Nat → Int32) × (Nat → Int32) × (Nat → Int32) × (Nat → Int32) × Int32) (h : mX6_ranked thrown value many ties often firstOf lastOf unlikes unlikeMany x1 x2 x3 x4 = some q) : MI l yX6_ranked wsX6_ranked { frames := 3, cells := 0, slots := 0, locals := 70 } D cA .int [.ref (ad 0), .int x1, .int x2, .int x3, .int x4] (wX6 cA ad thrown tape taped value weight many block ties lines pastValue pastWeight pastMany undos fresh newValue newWeight newMany newBlock newTies newLines hasBlock hasTies size att place sort number fault faultPlace lastFault lastPlace toValue toWeight toMany often firstOf lastOf unlikes unlikeMany isCandidate modes fewest) (wX6 cA ad q.2.1 tape taped value weight many block ties lines pastValue pastWeight pastMany undos fresh newValue newWeight newMany newBlock newTies newLines hasBlock hasTies size att place sort number fault faultPlace lastFault lastPlace toValue toWeight toMany q.2.2.1 q.2.2.2.1 q.2.2.2.2.1 q.2.2.2.2.2.1 q.2.2.2.2.2.2 isCandidate modes fewest) q.1 := by
  refine MI.of (cc := cX6_ranked) (maxL := 6) (by decide +kernel) rfl rfl rfl (Nat.le_of_ble_eq_true rfl) ?_
  intro p e s m args below meth c A ls Q hx hb hml hts hown hK hP hD hA hS hl hret
  have hl : lv_has ls 6 [(0, .ref (ad 0)), (1, .int x1), (2, .int x2), (3, .int x3), (4, .int x4)] := hl
  have f178 := hts (.fieldLink RX6 178 "ModeDeskModel" "ties" "I") (by decide +kernel)
  have f72 := hts (.fieldLink RX6 72 "ModeDeskModel" "thrown" "I") (by decide +kernel)
  have iX6 : ∀ w ∈ wsX60, w ∈ wsX6_ranked := by decide +kernel
  unfold mX6_ranked at h
  refine lv_aload_n hx hb dX6_ranked_0 rfl (lv_at hl 0 rfl) ?_
  refine lv_iconst (v := 0) hx hb dX6_ranked_1 (by decide) ?_
  refine va_put (D := D) (ci := 6) (v := .int 0) (ty := .int) (C := RX6) (T := TX6) (N := 42) hx hb hts iX6 tyX6 tyX6_ok nmX6 hown hK hP hD hS 0 rfl rfl 0 (Nat.le_of_ble_eq_true rfl) f72 (fun _ h9 => h9) rfl (tyX6_ok 0 (Nat.le_of_ble_eq_true rfl)) rfl rfl (Nat.le_of_ble_eq_true rfl) dX6_ranked_2 (fun H locs hP hD hS => ?_)
  have hP : va_P D vwCl (wX6 cA ad 0 tape taped value weight many block ties lines pastValue pastWeight pastMany undos fresh newValue newWeight newMany newBlock newTies newLines hasBlock hasTies size att place sort number fault faultPlace lastFault lastPlace toValue toWeight toMany often firstOf lastOf unlikes unlikeMany isCandidate modes fewest) H := hP
  have hD : va_D A (wX6 cA ad 0 tape taped value weight many block ties lines pastValue pastWeight pastMany undos fresh newValue newWeight newMany newBlock newTies newLines hasBlock hasTies size att place sort number fault faultPlace lastFault lastPlace toValue toWeight toMany often firstOf lastOf unlikes unlikeMany isCandidate modes fewest) := hD
  refine lv_aload_n hx hb dX6_ranked_5 rfl (lv_at hl 0 rfl) ?_
  refine lv_iload_n hx hb dX6_ranked_6 rfl (lv_at hl 1 rfl) ?_
  refine lv_iload_n hx hb dX6_ranked_7 rfl (lv_at hl 2 rfl) ?_
  obtain ⟨q1, eq1, h⟩ := e_b h
  refine xv_i0 (As := [.int x1, .int x2]) (rest := []) (ci := 6) (b := ad 0) ⟨hx, hb, hml, hown, hts⟩ hl.1 (kX6_isSpan l D cA ad 0 tape taped value weight many block ties lines pastValue pastWeight pastMany undos fresh newValue newWeight newMany newBlock newTies newLines hasBlock hasTies size att place sort number fault faultPlace lastFault lastPlace toValue toWeight toMany often firstOf lastOf unlikes unlikeMany isCandidate modes fewest x1 x2  _ eq1) (cwV 2 hts gX6_ranked_X6_isSpan rfl rfl rfl (by decide +kernel) ⟨Nat.le_of_ble_eq_true rfl, Nat.le_of_ble_eq_true rfl⟩) rfl hK hP hD hS hA 0 rfl rfl rfl rfl (Nat.le_of_ble_eq_true rfl) dX6_ranked_8 ⟨Nat.zero_le _, Nat.zero_le _⟩ (fun H locs hP hD hS hnq1 => ?_)
  have hP : va_P D vwCl (wX6 cA ad 0 tape taped value weight many block ties lines pastValue pastWeight pastMany undos fresh newValue newWeight newMany newBlock newTies newLines hasBlock hasTies size att place sort number fault faultPlace lastFault lastPlace toValue toWeight toMany often firstOf lastOf unlikes unlikeMany isCandidate modes fewest) H := hP
  have hD : va_D A (wX6 cA ad 0 tape taped value weight many block ties lines pastValue pastWeight pastMany undos fresh newValue newWeight newMany newBlock newTies newLines hasBlock hasTies size att place sort number fault faultPlace lastFault lastPlace toValue toWeight toMany often firstOf lastOf unlikes unlikeMany isCandidate modes fewest) := hD
  refine lv_if_eq (tgt := 29) hx hb dX6_ranked_11 (by decide) (fun c2 => ?_) (fun c2 => ?_)
  · have h := e_t c2 h
    refine lv_iconst (v := (-1)) hx hb dX6_ranked_29 (by decide) ?_
    obtain rfl := e_s h
    exact hret hP hS rfl dX6_ranked_30
  · have h := e_f c2 h
    refine lv_iload_n hx hb dX6_ranked_14 rfl (lv_at hl 3 rfl) ?_
    refine lv_if_lt (tgt := 29) hx hb dX6_ranked_15 (by decide) (fun c3 => ?_) (fun c3 => ?_)
    · have h := e_t c3 h
      refine lv_iconst (v := (-1)) hx hb dX6_ranked_29 (by decide) ?_
      obtain rfl := e_s h
      exact hret hP hS rfl dX6_ranked_30
    · have h := e_f c3 h
      refine lv_iload hx hb dX6_ranked_18 (lv_at hl 4 rfl) ?_
      refine lv_if_lt (tgt := 29) hx hb dX6_ranked_20 (by decide) (fun c4 => ?_) (fun c4 => ?_)
      · have h := e_t c4 h
        refine lv_iconst (v := (-1)) hx hb dX6_ranked_29 (by decide) ?_
        obtain rfl := e_s h
        exact hret hP hS rfl dX6_ranked_30
      · have h := e_f c4 h
        refine lv_iload hx hb dX6_ranked_23 (lv_at hl 4 rfl) ?_
        refine lv_iconst (v := 3) hx hb dX6_ranked_25 (by decide) ?_
        refine lv_icmp_le (tgt := 31) hx hb dX6_ranked_26 (by decide) (fun c5 => ?_) (fun c5 => ?_)
        · have h := e_t c5 h
          refine lv_aload_n hx hb dX6_ranked_31 rfl (lv_at hl 0 rfl) ?_
          refine lv_iload_n hx hb dX6_ranked_32 rfl (lv_at hl 1 rfl) ?_
          refine lv_iload_n hx hb dX6_ranked_33 rfl (lv_at hl 2 rfl) ?_
          refine lv_iconst (v := (-1)) hx hb dX6_ranked_34 (by decide) ?_
          obtain ⟨q6, eq6, h⟩ := e_b h
          refine xv_v0 (As := [.int x1, .int x2, .int (-1)]) (rest := []) (ci := 6) (b := ad 0) ⟨hx, hb, hml, hown, hts⟩ hl.1 (kX6_counts l D cA ad 0 tape taped value weight many block ties lines pastValue pastWeight pastMany undos fresh newValue newWeight newMany newBlock newTies newLines hasBlock hasTies size att place sort number fault faultPlace lastFault lastPlace toValue toWeight toMany often firstOf lastOf unlikes unlikeMany isCandidate modes fewest x1 x2 (-1)  _ eq6) (cwV 3 hts gX6_ranked_X6_counts rfl rfl rfl (by decide +kernel) ⟨Nat.le_of_ble_eq_true rfl, Nat.le_of_ble_eq_true rfl⟩) rfl hK hP hD hS hA 0 rfl rfl rfl rfl (Nat.le_of_ble_eq_true rfl) dX6_ranked_35 ⟨Nat.zero_le _, Nat.zero_le _⟩ (fun H locs hP hD hS => ?_)
          have hP : va_P D vwCl (wX6 cA ad 0 tape taped value weight many block ties lines pastValue pastWeight pastMany undos fresh newValue newWeight newMany newBlock newTies newLines hasBlock hasTies size att place sort number fault faultPlace lastFault lastPlace toValue toWeight toMany q6.1 q6.2.1 q6.2.2.1 q6.2.2.2.1 q6.2.2.2.2 isCandidate modes fewest) H := hP
          have hD : va_D A (wX6 cA ad 0 tape taped value weight many block ties lines pastValue pastWeight pastMany undos fresh newValue newWeight newMany newBlock newTies newLines hasBlock hasTies size att place sort number fault faultPlace lastFault lastPlace toValue toWeight toMany q6.1 q6.2.1 q6.2.2.1 q6.2.2.2.1 q6.2.2.2.2 isCandidate modes fewest) := hD
          refine lv_aload_n hx hb dX6_ranked_38 rfl (lv_at hl 0 rfl) ?_
          refine lv_iload_n hx hb dX6_ranked_39 rfl (lv_at hl 3 rfl) ?_
          refine lv_aload_n hx hb dX6_ranked_40 rfl (lv_at hl 0 rfl) ?_
          refine va_get (D := D) (ci := 6) (v := .int ties) (C := RX6) (T := TX6) (N := 42) hx hb hts iX6 hown hK hP 0 rfl rfl 7 (Nat.le_of_ble_eq_true rfl) f178 (fun _ h9 => h9) rfl dX6_ranked_41 ?_
          obtain ⟨q7, eq7, h⟩ := e_b h
          refine xv_i0 (As := [.int x3, .int ties]) (rest := []) (ci := 6) (b := ad 0) ⟨hx, hb, hml, hown, hts⟩ hl.1 (kX6_ofRank l D cA ad 0 tape taped value weight many block ties lines pastValue pastWeight pastMany undos fresh newValue newWeight newMany newBlock newTies newLines hasBlock hasTies size att place sort number fault faultPlace lastFault lastPlace toValue toWeight toMany q6.1 q6.2.1 q6.2.2.1 q6.2.2.2.1 q6.2.2.2.2 isCandidate modes fewest x3 ties  _ eq7) (cwV 2 hts gX6_ranked_X6_ofRank rfl rfl rfl (by decide +kernel) ⟨Nat.le_of_ble_eq_true rfl, Nat.le_of_ble_eq_true rfl⟩) rfl hK hP hD hS hA 0 rfl rfl rfl rfl (Nat.le_of_ble_eq_true rfl) dX6_ranked_44 ⟨Nat.zero_le _, Nat.zero_le _⟩ (fun H locs hP hD hS hnq7 => ?_)
          have hP : va_P D vwCl (wX6 cA ad 0 tape taped value weight many block ties lines pastValue pastWeight pastMany undos fresh newValue newWeight newMany newBlock newTies newLines hasBlock hasTies size att place sort number fault faultPlace lastFault lastPlace toValue toWeight toMany q6.1 q6.2.1 q6.2.2.1 q6.2.2.2.1 q6.2.2.2.2 isCandidate modes fewest) H := hP
          have hD : va_D A (wX6 cA ad 0 tape taped value weight many block ties lines pastValue pastWeight pastMany undos fresh newValue newWeight newMany newBlock newTies newLines hasBlock hasTies size att place sort number fault faultPlace lastFault lastPlace toValue toWeight toMany q6.1 q6.2.1 q6.2.2.1 q6.2.2.2.1 q6.2.2.2.2 isCandidate modes fewest) := hD
          refine lv_istore (lv' := [(5, .int q7), (0, .ref (ad 0)), (1, .int x1), (2, .int x2), (3, .int x3), (4, .int x4)]) hx hb dX6_ranked_47 hl (by decide) rfl (fun ls hl => ?_)
          refine lv_iload hx hb dX6_ranked_49 (lv_at hl 0 rfl) ?_
          refine lv_iconst (v := (-1)) hx hb dX6_ranked_51 (by decide) ?_
          refine lv_icmp_ne (tgt := 60) hx hb dX6_ranked_52 (by decide) (fun c8 => ?_) (fun c8 => ?_)
          · have h := e_t c8 h
            refine lv_aload_n hx hb dX6_ranked_60 rfl (lv_at hl 1 rfl) ?_
            refine lv_iload hx hb dX6_ranked_61 (lv_at hl 0 rfl) ?_
            refine lv_iload hx hb dX6_ranked_63 (lv_at hl 5 rfl) ?_
            obtain ⟨q9, eq9, h⟩ := e_b h
            refine xv_i0 (As := [.int q7, .int x4]) (rest := []) (ci := 6) (b := ad 0) ⟨hx, hb, hml, hown, hts⟩ hl.1 (kX6_told l D cA ad 0 tape taped value weight many block ties lines pastValue pastWeight pastMany undos fresh newValue newWeight newMany newBlock newTies newLines hasBlock hasTies size att place sort number fault faultPlace lastFault lastPlace toValue toWeight toMany q6.1 q6.2.1 q6.2.2.1 q6.2.2.2.1 q6.2.2.2.2 isCandidate modes fewest q7 x4  _ eq9) (cwV 2 hts gX6_ranked_X6_told rfl rfl rfl (by decide +kernel) ⟨Nat.le_of_ble_eq_true rfl, Nat.le_of_ble_eq_true rfl⟩) rfl hK hP hD hS hA 0 rfl rfl rfl rfl (Nat.le_of_ble_eq_true rfl) dX6_ranked_65 ⟨Nat.zero_le _, Nat.zero_le _⟩ (fun H locs hP hD hS hnq9 => ?_)
            have hP : va_P D vwCl (wX6 cA ad 0 tape taped value weight many block ties lines pastValue pastWeight pastMany undos fresh newValue newWeight newMany newBlock newTies newLines hasBlock hasTies size att place sort number fault faultPlace lastFault lastPlace toValue toWeight toMany q6.1 q6.2.1 q6.2.2.1 q6.2.2.2.1 q6.2.2.2.2 isCandidate modes fewest) H := hP
            have hD : va_D A (wX6 cA ad 0 tape taped value weight many block ties lines pastValue pastWeight pastMany undos fresh newValue newWeight newMany newBlock newTies newLines hasBlock hasTies size att place sort number fault faultPlace lastFault lastPlace toValue toWeight toMany q6.1 q6.2.1 q6.2.2.1 q6.2.2.2.1 q6.2.2.2.2 isCandidate modes fewest) := hD
            obtain rfl := e_s h
            exact hret hP hS rfl dX6_ranked_68
          · have h := e_f (not_not_intro c8) h
            refine lv_bipush (v := (-2)) hx hb dX6_ranked_55 (by decide) ?_
            refine lv_goto (tgt := 68) hx hb dX6_ranked_57 (by decide) ?_
            obtain rfl := e_s h
            exact hret hP hS rfl dX6_ranked_68
        · have h := e_f c5 h
          refine lv_iconst (v := (-1)) hx hb dX6_ranked_29 (by decide) ?_
          obtain rfl := e_s h
          exact hret hP hS rfl dX6_ranked_30

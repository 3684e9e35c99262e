set_option maxHeartbeats 4000000 in
set_option maxRecDepth 100000 in
theorem kX6_thrown (l : Launch) (D : va_G) (cA : Nat → ClassId) (ad : Nat → Nat) (thrown : Int32) (tape : Nat → Int32) (taped : Int32) (value : Nat → Int32) (weight : Nat → Int32) (many : Int32) (block : Int32) (ties : Int32) (lines : Int32) (pastValue : Nat → Int32) (pastWeight : Nat → Int32) (pastMany : Nat → Int32) (undos : Int32) (fresh : Int32) (newValue : Nat → Int32) (newWeight : Nat → Int32) (newMany : Int32) (newBlock : Int32) (newTies : Int32) (newLines : Int32) (hasBlock : Int32) (hasTies : Int32) (size : Int32) (att : Int32) (place : Int32) (sort : Int32) (number : Int32) (fault : Int32) (faultPlace : Int32) (lastFault : Int32) (lastPlace : Int32) (toValue : Nat → Int32) (toWeight : Nat → Int32) (toMany : Int32) (often : Nat → Int32) (firstOf : Nat → Int32) (lastOf : Nat → Int32) (unlikes : Nat → Int32) (unlikeMany : Int32) (isCandidate : Nat → Int32) (modes : Nat → Int32) (fewest : Nat → Int32)  (q : Int32) (h : mX6_thrown thrown  = some q) : MI l yX6_thrown wsX6_thrown { frames := 0, cells := 0, slots := 0, locals := 0 } D cA .int [.ref (ad 0)] (wX6 cA ad thrown tape taped value weight many block ties lines pastValue pastWeight pastMany undos fresh newValue newWeight newMany newBlock newTies newLines hasBlock hasTies size att place sort number fault faultPlace lastFault lastPlace toValue toWeight toMany often firstOf lastOf unlikes unlikeMany isCandidate modes fewest) (wX6 cA ad thrown tape taped value weight many block ties lines pastValue pastWeight pastMany undos fresh newValue newWeight newMany newBlock newTies newLines hasBlock hasTies size att place sort number fault faultPlace lastFault lastPlace toValue toWeight toMany often firstOf lastOf unlikes unlikeMany isCandidate modes fewest) q := by
  refine MI.of (cc := cX6_thrown) (maxL := 1) (by decide +kernel) rfl rfl rfl (Nat.le_of_ble_eq_true rfl) ?_
  intro p e s m args below meth c A ls Q hx hb hml hts hown hK hP hD hA hS hl hret
  have hl : lv_has ls 1 [(0, .ref (ad 0))] := hl
  have f72 := hts (.fieldLink RX6 72 "ModeDeskModel" "thrown" "I") (by decide +kernel)
  have iX6 : ∀ w ∈ wsX60, w ∈ wsX6_thrown := by decide +kernel
  unfold mX6_thrown at h
  refine lv_aload_n hx hb dX6_thrown_0 rfl (lv_at hl 0 rfl) ?_
  refine va_get (D := D) (ci := 6) (v := .int thrown) (C := RX6) (T := TX6) (N := 42) hx hb hts iX6 hown hK hP 0 rfl rfl 0 (Nat.le_of_ble_eq_true rfl) f72 (fun _ h9 => h9) rfl dX6_thrown_1 ?_
  obtain rfl := e_s h
  exact hret hP hS rfl dX6_thrown_4
set_option maxHeartbeats 4000000 in
set_option maxRecDepth 100000 in
theorem kX6_feed (l : Launch) (D : va_G) (cA : Nat → ClassId) (ad : Nat → Nat) (thrown : Int32) (tape : Nat → Int32) (taped : Int32) (value : Nat → Int32) (weight : Nat → Int32) (many : Int32) (block : Int32) (ties : Int32) (lines : Int32) (pastValue : Nat → Int32) (pastWeight : Nat → Int32) (pastMany : Nat → Int32) (undos : Int32) (fresh : Int32) (newValue : Nat → Int32) (newWeight : Nat → Int32) (newMany : Int32) (newBlock : Int32) (newTies : Int32) (newLines : Int32) (hasBlock : Int32) (hasTies : Int32) (size : Int32) (att : Int32) (place : Int32) (sort : Int32) (number : Int32) (fault : Int32) (faultPlace : Int32) (lastFault : Int32) (lastPlace : Int32) (toValue : Nat → Int32) (toWeight : Nat → Int32) (toMany : Int32) (often : Nat → Int32) (firstOf : Nat → Int32) (lastOf : Nat → Int32) (unlikes : Nat → Int32) (unlikeMany : Int32) (isCandidate : Nat → Int32) (modes : Nat → Int32) (fewest : Nat → Int32) (x1 : Int32) (x2 : Int32) (x3 : Int32) (x4 : Int32) (x5 : Int32) (q : Int32 × Int32 × (Nat → Int32) × Int32) (h : mX6_feed thrown tape taped x1 x2 x3 x4 x5 = some q) : MI l yX6_feed wsX6_feed { frames := 0, cells := 0, slots := 0, locals := 0 } D cA .int [.ref (ad 0), .int x1, .int x2, .int x3, .int x4, .int x5] (wX6 cA ad thrown tape taped value weight many block ties lines pastValue pastWeight pastMany undos fresh newValue newWeight newMany newBlock newTies newLines hasBlock hasTies size att place sort number fault faultPlace lastFault lastPlace toValue toWeight toMany often firstOf lastOf unlikes unlikeMany isCandidate modes fewest) (wX6 cA ad q.2.1 q.2.2.1 q.2.2.2 value weight many block ties lines pastValue pastWeight pastMany undos fresh newValue newWeight newMany newBlock newTies newLines hasBlock hasTies size att place sort number fault faultPlace lastFault lastPlace toValue toWeight toMany often firstOf lastOf unlikes unlikeMany isCandidate modes fewest) q.1 := by
  refine MI.of (cc := cX6_feed) (maxL := 8) (by decide +kernel) rfl rfl rfl (Nat.le_of_ble_eq_true rfl) ?_
  intro p e s m args below meth c A ls Q hx hb hml hts hown hK hP hD hA hS hl hret
  have hl : lv_has ls 8 [(0, .ref (ad 0)), (1, .int x1), (2, .int x2), (3, .int x3), (4, .int x4), (5, .int x5)] := hl
  have f7 := hts (.fieldLink RX6 7 "ModeDeskModel" "tape" "[I") (by decide +kernel)
  have f72 := hts (.fieldLink RX6 72 "ModeDeskModel" "thrown" "I") (by decide +kernel)
  have f75 := hts (.fieldLink RX6 75 "ModeDeskModel" "taped" "I") (by decide +kernel)
  have iX6 : ∀ w ∈ wsX60, w ∈ wsX6_feed := by decide +kernel
  unfold mX6_feed at h
  refine lv_aload_n hx hb dX6_feed_0 rfl (lv_at hl 0 rfl) ?_
  refine lv_iconst (v := 0) hx hb dX6_feed_1 (by decide) ?_
  refine va_put (D := D) (ci := 6) (v := .int 0) (ty := .int) (C := RX6) (T := TX6) (N := 42) hx hb hts iX6 tyX6 tyX6_ok nmX6 hown hK hP hD hS 0 rfl rfl 0 (Nat.le_of_ble_eq_true rfl) f72 (fun _ h9 => h9) rfl (tyX6_ok 0 (Nat.le_of_ble_eq_true rfl)) rfl rfl (Nat.le_of_ble_eq_true rfl) dX6_feed_2 (fun H locs hP hD hS => ?_)
  have hP : va_P D vwCl (wX6 cA ad 0 tape taped value weight many block ties lines pastValue pastWeight pastMany undos fresh newValue newWeight newMany newBlock newTies newLines hasBlock hasTies size att place sort number fault faultPlace lastFault lastPlace toValue toWeight toMany often firstOf lastOf unlikes unlikeMany isCandidate modes fewest) H := hP
  have hD : va_D A (wX6 cA ad 0 tape taped value weight many block ties lines pastValue pastWeight pastMany undos fresh newValue newWeight newMany newBlock newTies newLines hasBlock hasTies size att place sort number fault faultPlace lastFault lastPlace toValue toWeight toMany often firstOf lastOf unlikes unlikeMany isCandidate modes fewest) := hD
  refine lv_aload_n hx hb dX6_feed_5 rfl (lv_at hl 0 rfl) ?_
  refine va_get (D := D) (ci := 6) (v := .int taped) (C := RX6) (T := TX6) (N := 42) hx hb hts iX6 hown hK hP 0 rfl rfl 2 (Nat.le_of_ble_eq_true rfl) f75 (fun _ h9 => h9) rfl dX6_feed_6 ?_
  refine lv_sipush (v := 880) hx hb dX6_feed_9 (by decide) ?_
  refine lv_icmp_le (tgt := 17) hx hb dX6_feed_12 (by decide) (fun c1 => ?_) (fun c1 => ?_)
  · have h := e_t c1 h
    refine lv_iconst (v := 0) hx hb dX6_feed_17 (by decide) ?_
    refine lv_istore (lv' := [(6, .int 0), (0, .ref (ad 0)), (1, .int x1), (2, .int x2), (3, .int x3), (4, .int x4), (5, .int x5)]) hx hb dX6_feed_18 hl (by decide) rfl (fun ls hl => ?_)
    have hL20 : ∀ (n : Nat) (x1 : Int32) (x2 : Int32) (x3 : Int32) (x4 : Int32) (x5 : Int32) (x6 : Int32) (thrown : Int32) (tape : Nat → Int32) (taped : Int32) (value : Nat → Int32) (weight : Nat → Int32) (many : Int32) (block : Int32) (ties : Int32) (lines : Int32) (pastValue : Nat → Int32) (pastWeight : Nat → Int32) (pastMany : Nat → Int32) (undos : Int32) (fresh : Int32) (newValue : Nat → Int32) (newWeight : Nat → Int32) (newMany : Int32) (newBlock : Int32) (newTies : Int32) (newLines : Int32) (hasBlock : Int32) (hasTies : Int32) (size : Int32) (att : Int32) (place : Int32) (sort : Int32) (number : Int32) (fault : Int32) (faultPlace : Int32) (lastFault : Int32) (lastPlace : Int32) (toValue : Nat → Int32) (toWeight : Nat → Int32) (toMany : Int32) (often : Nat → Int32) (firstOf : Nat → Int32) (lastOf : Nat → Int32) (unlikes : Nat → Int32) (unlikeMany : Int32) (isCandidate : Nat → Int32) (modes : Nat → Int32) (fewest : Nat → Int32) (z2 : (Nat → Int32)) (ls : Array Slot) (H : Heap) (locs : List Loc), lv_has ls 8 [(0, .ref (ad 0)), (1, .int x1), (2, .int x2), (3, .int x3), (4, .int x4), (5, .int x5), (6, .int x6)] → va_P D vwCl (wX6 cA ad thrown tape taped value weight many block ties lines pastValue pastWeight pastMany undos fresh newValue newWeight newMany newBlock newTies newLines hasBlock hasTies size att place sort number fault faultPlace lastFault lastPlace toValue toWeight toMany often firstOf lastOf unlikes unlikeMany isCandidate modes fewest) H → va_D A (wX6 cA ad thrown tape taped value weight many block ties lines pastValue pastWeight pastMany undos fresh newValue newWeight newMany newBlock newTies newLines hasBlock hasTies size att place sort number fault faultPlace lastFault lastPlace toValue toWeight toMany often firstOf lastOf unlikes unlikeMany isCandidate modes fewest) → va_S A s.heap H locs → mX6_feed_L20 taped x1 x2 x3 x4 x5 n x6 tape = some z2 → (∀ (ls : Array Slot) (H : Heap) (locs : List Loc), lv_has ls 8 [(0, .ref (ad 0))] → va_P D vwCl (wX6 cA ad thrown z2 taped value weight many block ties lines pastValue pastWeight pastMany undos fresh newValue newWeight newMany newBlock newTies newLines hasBlock hasTies size att place sort number fault faultPlace lastFault lastPlace toValue toWeight toMany often firstOf lastOf unlikes unlikeMany isCandidate modes fewest) H → va_D A (wX6 cA ad thrown z2 taped value weight many block ties lines pastValue pastWeight pastMany undos fresh newValue newWeight newMany newBlock newTies newLines hasBlock hasTies size att place sort number fault faultPlace lastFault lastPlace toValue toWeight toMany often firstOf lastOf unlikes unlikeMany isCandidate modes fewest) → va_S A s.heap H locs → W p l e (headSpec wsX6_feed { frames := 0, cells := 0, slots := 0, locals := 0 }).room s m args below meth c H locs 0 0 Q (F0 m 110 ls [])) → W p l e (headSpec wsX6_feed { frames := 0, cells := 0, slots := 0, locals := 0 }).room s m args below meth c H locs 0 0 Q (F0 m 20 ls []) := by
      intro n
      induction n with
      | zero => intro x1 x2 x3 x4 x5 x6 thrown tape taped value weight many block ties lines pastValue pastWeight pastMany undos fresh newValue newWeight newMany newBlock newTies newLines hasBlock hasTies size att place sort number fault faultPlace lastFault lastPlace toValue toWeight toMany often firstOf lastOf unlikes unlikeMany isCandidate modes fewest z2 ls H locs hl hP hD hS h hk20; exact e_n h
      | succ n ih20 =>
        intro x1 x2 x3 x4 x5 x6 thrown tape taped value weight many block ties lines pastValue pastWeight pastMany undos fresh newValue newWeight newMany newBlock newTies newLines hasBlock hasTies size att place sort number fault faultPlace lastFault lastPlace toValue toWeight toMany often firstOf lastOf unlikes unlikeMany isCandidate modes fewest z2 ls H locs hl hP hD hS h hk20
        rw [mX6_feed_L20.eq_2] at h
        refine lv_iload hx hb dX6_feed_20 (lv_at hl 6 rfl) ?_
        refine lv_bipush (v := 20) hx hb dX6_feed_22 (by decide) ?_
        refine lv_icmp_ge (tgt := 110) hx hb dX6_feed_24 (by decide) (fun c3 => ?_) (fun c3 => ?_)
        · have h := e_t c3 h
          obtain rfl := e_s h
          exact hk20 _ _ _ (lv_sub hl [0] rfl) hP hD hS
        · have h := e_f c3 h
          refine lv_iload hx hb dX6_feed_27 (lv_at hl 6 rfl) ?_
          refine lv_iconst (v := 4) hx hb dX6_feed_29 (by decide) ?_
          obtain ⟨z4, ez4, h⟩ := e_b h
          have hJ5 : ∀ (ls : Array Slot) (H : Heap) (locs : List Loc), lv_has ls 8 [(0, .ref (ad 0)), (1, .int x1), (2, .int x2), (3, .int x3), (4, .int x4), (5, .int x5), (6, .int x6)] → va_P D vwCl (wX6 cA ad thrown tape taped value weight many block ties lines pastValue pastWeight pastMany undos fresh newValue newWeight newMany newBlock newTies newLines hasBlock hasTies size att place sort number fault faultPlace lastFault lastPlace toValue toWeight toMany often firstOf lastOf unlikes unlikeMany isCandidate modes fewest) H → va_D A (wX6 cA ad thrown tape taped value weight many block ties lines pastValue pastWeight pastMany undos fresh newValue newWeight newMany newBlock newTies newLines hasBlock hasTies size att place sort number fault faultPlace lastFault lastPlace toValue toWeight toMany often firstOf lastOf unlikes unlikeMany isCandidate modes fewest) → va_S A s.heap H locs → W p l e (headSpec wsX6_feed { frames := 0, cells := 0, slots := 0, locals := 0 }).room s m args below meth c H locs 0 0 Q (F0 m 73 ls [.int z4]) := by
            intro ls H locs hl hP hD hS
            refine lv_istore (lv' := [(7, .int z4), (0, .ref (ad 0)), (1, .int x1), (2, .int x2), (3, .int x3), (4, .int x4), (5, .int x5), (6, .int x6)]) hx hb dX6_feed_73 hl (by decide) rfl (fun ls hl => ?_)
            refine lv_aload_n hx hb dX6_feed_75 rfl (lv_at hl 1 rfl) ?_
            refine va_get (D := D) (ci := 6) (v := .ref (ad 1)) (C := RX6) (T := TX6) (N := 42) hx hb hts iX6 hown hK hP 0 rfl rfl 1 (Nat.le_of_ble_eq_true rfl) f7 (fun _ h9 => h9) rfl dX6_feed_76 ?_
            refine lv_aload_n hx hb dX6_feed_79 rfl (lv_at hl 1 rfl) ?_
            refine va_get (D := D) (ci := 6) (v := .int taped) (C := RX6) (T := TX6) (N := 42) hx hb hts iX6 hown hK hP 0 rfl rfl 2 (Nat.le_of_ble_eq_true rfl) f75 (fun _ h9 => h9) rfl dX6_feed_80 ?_
            refine lv_iload hx hb dX6_feed_83 (lv_at hl 7 rfl) ?_
            refine lv_iadd hx hb dX6_feed_85 ?_
            refine lv_iload hx hb dX6_feed_86 (lv_at hl 0 rfl) ?_
            refine lv_bipush (v := 24) hx hb dX6_feed_88 (by decide) ?_
            refine lv_bipush (v := 8) hx hb dX6_feed_90 (by decide) ?_
            refine lv_iload hx hb dX6_feed_92 (lv_at hl 7 rfl) ?_
            refine lv_iconst (v := 4) hx hb dX6_feed_94 (by decide) ?_
            obtain ⟨v6, ev6, nv6, h⟩ := e_rm h
            refine xa_irem hx hb dX6_feed_95 nv6 ev6 ?_
            refine lv_imul hx hb dX6_feed_96 ?_
            refine lv_isub hx hb dX6_feed_97 ?_
            refine lv_ishr hx hb dX6_feed_98 ?_
            refine lv_sipush (v := 255) hx hb dX6_feed_99 (by decide) ?_
            refine lv_iand hx hb dX6_feed_102 ?_
            obtain ⟨a7, ea7, na7, h⟩ := e_wr h
            refine xa_iast hx hb hK hP hD hS 1 rfl na7 ea7 dX6_feed_103 (fun H locs hP hD hS => ?_)
            have hP : va_P D vwCl (wX6 cA ad thrown a7 taped value weight many block ties lines pastValue pastWeight pastMany undos fresh newValue newWeight newMany newBlock newTies newLines hasBlock hasTies size att place sort number fault faultPlace lastFault lastPlace toValue toWeight toMany often firstOf lastOf unlikes unlikeMany isCandidate modes fewest) H := hP
            have hD : va_D A (wX6 cA ad thrown a7 taped value weight many block ties lines pastValue pastWeight pastMany undos fresh newValue newWeight newMany newBlock newTies newLines hasBlock hasTies size att place sort number fault faultPlace lastFault lastPlace toValue toWeight toMany often firstOf lastOf unlikes unlikeMany isCandidate modes fewest) := hD
            refine lv_iinc (v := (x6 + 1)) (lv' := [(6, .int (x6 + 1)), (7, .int z4), (0, .ref (ad 0)), (1, .int x1), (2, .int x2), (3, .int x3), (4, .int x4), (5, .int x5)]) hx hb dX6_feed_104 hl (k := 7) rfl rfl (by decide) rfl (fun ls hl => ?_)
            refine lv_goto (tgt := 20) hx hb dX6_feed_107 (by decide) ?_
            exact ih20 x1 x2 x3 x4 x5 (x6 + 1) thrown a7 taped value weight many block ties lines pastValue pastWeight pastMany undos fresh newValue newWeight newMany newBlock newTies newLines hasBlock hasTies size att place sort number fault faultPlace lastFault lastPlace toValue toWeight toMany often firstOf lastOf unlikes unlikeMany isCandidate modes fewest z2 _ _ _ (lv_sub hl [2, 3, 4, 5, 6, 7, 0] rfl) hP hD hS h hk20
          have h := ez4
          refine lv_icmp_ge (tgt := 37) hx hb dX6_feed_30 (by decide) (fun c8 => ?_) (fun c8 => ?_)
          · have h := e_t c8 h
            refine lv_iload hx hb dX6_feed_37 (lv_at hl 6 rfl) ?_
            refine lv_bipush (v := 8) hx hb dX6_feed_39 (by decide) ?_
            refine lv_icmp_ge (tgt := 48) hx hb dX6_feed_41 (by decide) (fun c9 => ?_) (fun c9 => ?_)
            · have h := e_t c9 h
              refine lv_iload hx hb dX6_feed_48 (lv_at hl 6 rfl) ?_
              refine lv_bipush (v := 12) hx hb dX6_feed_50 (by decide) ?_
              refine lv_icmp_ge (tgt := 59) hx hb dX6_feed_52 (by decide) (fun c10 => ?_) (fun c10 => ?_)
              · have h := e_t c10 h
                refine lv_iload hx hb dX6_feed_59 (lv_at hl 6 rfl) ?_
                refine lv_bipush (v := 16) hx hb dX6_feed_61 (by decide) ?_
                refine lv_icmp_ge (tgt := 71) hx hb dX6_feed_63 (by decide) (fun c11 => ?_) (fun c11 => ?_)
                · have h := e_t c11 h
                  refine lv_iload hx hb dX6_feed_71 (lv_at hl 5 rfl) ?_
                  obtain rfl := e_s h
                  exact hJ5 _ _ _ (lv_sub hl [0, 1, 2, 3, 4, 5, 6] rfl) hP hD hS
                · have h := e_f c11 h
                  refine lv_iload hx hb dX6_feed_66 (lv_at hl 4 rfl) ?_
                  refine lv_goto (tgt := 73) hx hb dX6_feed_68 (by decide) ?_
                  obtain rfl := e_s h
                  exact hJ5 _ _ _ (lv_sub hl [0, 1, 2, 3, 4, 5, 6] rfl) hP hD hS
              · have h := e_f c10 h
                refine lv_iload_n hx hb dX6_feed_55 rfl (lv_at hl 3 rfl) ?_
                refine lv_goto (tgt := 73) hx hb dX6_feed_56 (by decide) ?_
                obtain rfl := e_s h
                exact hJ5 _ _ _ (lv_sub hl [0, 1, 2, 3, 4, 5, 6] rfl) hP hD hS
            · have h := e_f c9 h
              refine lv_iload_n hx hb dX6_feed_44 rfl (lv_at hl 2 rfl) ?_
              refine lv_goto (tgt := 73) hx hb dX6_feed_45 (by decide) ?_
              obtain rfl := e_s h
              exact hJ5 _ _ _ (lv_sub hl [0, 1, 2, 3, 4, 5, 6] rfl) hP hD hS
          · have h := e_f c8 h
            refine lv_iload_n hx hb dX6_feed_33 rfl (lv_at hl 1 rfl) ?_
            refine lv_goto (tgt := 73) hx hb dX6_feed_34 (by decide) ?_
            obtain rfl := e_s h
            exact hJ5 _ _ _ (lv_sub hl [0, 1, 2, 3, 4, 5, 6] rfl) hP hD hS
    obtain ⟨z12, ez12, h⟩ := e_b h
    refine hL20 FU x1 x2 x3 x4 x5 0 0 tape taped value weight many block ties lines pastValue pastWeight pastMany undos fresh newValue newWeight newMany newBlock newTies newLines hasBlock hasTies size att place sort number fault faultPlace lastFault lastPlace toValue toWeight toMany often firstOf lastOf unlikes unlikeMany isCandidate modes fewest z12 _ _ _ (lv_sub hl [1, 2, 3, 4, 5, 6, 0] rfl) hP hD hS ez12 (fun ls H locs hl hP hD hS => ?_)
    refine lv_aload_n hx hb dX6_feed_110 rfl (lv_at hl 0 rfl) ?_
    refine lv_dup hx hb dX6_feed_111 rfl ?_
    refine va_get (D := D) (ci := 6) (v := .int taped) (C := RX6) (T := TX6) (N := 42) hx hb hts iX6 hown hK hP 0 rfl rfl 2 (Nat.le_of_ble_eq_true rfl) f75 (fun _ h9 => h9) rfl dX6_feed_112 ?_
    refine lv_bipush (v := 20) hx hb dX6_feed_115 (by decide) ?_
    refine lv_iadd hx hb dX6_feed_117 ?_
    refine va_put (D := D) (ci := 6) (v := .int (taped + 20)) (ty := .int) (C := RX6) (T := TX6) (N := 42) hx hb hts iX6 tyX6 tyX6_ok nmX6 hown hK hP hD hS 0 rfl rfl 2 (Nat.le_of_ble_eq_true rfl) f75 (fun _ h9 => h9) rfl (tyX6_ok 2 (Nat.le_of_ble_eq_true rfl)) rfl rfl (Nat.le_of_ble_eq_true rfl) dX6_feed_118 (fun H locs hP hD hS => ?_)
    have hP : va_P D vwCl (wX6 cA ad 0 z12 (taped + 20) value weight many block ties lines pastValue pastWeight pastMany undos fresh newValue newWeight newMany newBlock newTies newLines hasBlock hasTies size att place sort number fault faultPlace lastFault lastPlace toValue toWeight toMany often firstOf lastOf unlikes unlikeMany isCandidate modes fewest) H := hP
    have hD : va_D A (wX6 cA ad 0 z12 (taped + 20) value weight many block ties lines pastValue pastWeight pastMany undos fresh newValue newWeight newMany newBlock newTies newLines hasBlock hasTies size att place sort number fault faultPlace lastFault lastPlace toValue toWeight toMany often firstOf lastOf unlikes unlikeMany isCandidate modes fewest) := hD
    refine lv_aload_n hx hb dX6_feed_121 rfl (lv_at hl 0 rfl) ?_
    refine va_get (D := D) (ci := 6) (v := .int (taped + 20)) (C := RX6) (T := TX6) (N := 42) hx hb hts iX6 hown hK hP 0 rfl rfl 2 (Nat.le_of_ble_eq_true rfl) f75 (fun _ h9 => h9) rfl dX6_feed_122 ?_
    obtain rfl := e_s h
    exact hret hP hS rfl dX6_feed_125
  · have h := e_f c1 h
    refine lv_iconst (v := (-1)) hx hb dX6_feed_15 (by decide) ?_
    obtain rfl := e_s h
    exact hret hP hS rfl dX6_feed_16
set_option maxHeartbeats 4000000 in
set_option maxRecDepth 100000 in
theorem kX6_here (l : Launch) (D : va_G) (cA : Nat → ClassId) (ad : Nat → Nat) (thrown : Int32) (tape : Nat → Int32) (taped : Int32) (value : Nat → Int32) (weight : Nat → Int32) (many : Int32) (block : Int32) (ties : Int32) (lines : Int32) (pastValue : Nat → Int32) (pastWeight : Nat → Int32) (pastMany : Nat → Int32) (undos : Int32) (fresh : Int32) (newValue : Nat → Int32) (newWeight : Nat → Int32) (newMany : Int32) (newBlock : Int32) (newTies : Int32) (newLines : Int32) (hasBlock : Int32) (hasTies : Int32) (size : Int32) (att : Int32) (place : Int32) (sort : Int32) (number : Int32) (fault : Int32) (faultPlace : Int32) (lastFault : Int32) (lastPlace : Int32) (toValue : Nat → Int32) (toWeight : Nat → Int32) (toMany : Int32) (often : Nat → Int32) (firstOf : Nat → Int32) (lastOf : Nat → Int32) (unlikes : Nat → Int32) (unlikeMany : Int32) (isCandidate : Nat → Int32) (modes : Nat → Int32) (fewest : Nat → Int32)  (q : Int32) (h : mX6_here tape size att  = some q) : MI l yX6_here wsX6_here { frames := 0, cells := 0, slots := 0, locals := 0 } D cA .int [.ref (ad 0)] (wX6 cA ad thrown tape taped value weight many block ties lines pastValue pastWeight pastMany undos fresh newValue newWeight newMany newBlock newTies newLines hasBlock hasTies size att place sort number fault faultPlace lastFault lastPlace toValue toWeight toMany often firstOf lastOf unlikes unlikeMany isCandidate modes fewest) (wX6 cA ad thrown tape taped value weight many block ties lines pastValue pastWeight pastMany undos fresh newValue newWeight newMany newBlock newTies newLines hasBlock hasTies size att place sort number fault faultPlace lastFault lastPlace toValue toWeight toMany often firstOf lastOf unlikes unlikeMany isCandidate modes fewest) q := by
  refine MI.of (cc := cX6_here) (maxL := 1) (by decide +kernel) rfl rfl rfl (Nat.le_of_ble_eq_true rfl) ?_
  intro p e s m args below meth c A ls Q hx hb hml hts hown hK hP hD hA hS hl hret
  have hl : lv_has ls 1 [(0, .ref (ad 0))] := hl
  have f7 := hts (.fieldLink RX6 7 "ModeDeskModel" "tape" "[I") (by decide +kernel)
  have f78 := hts (.fieldLink RX6 78 "ModeDeskModel" "at" "I") (by decide +kernel)
  have f81 := hts (.fieldLink RX6 81 "ModeDeskModel" "size" "I") (by decide +kernel)
  have iX6 : ∀ w ∈ wsX60, w ∈ wsX6_here := by decide +kernel
  unfold mX6_here at h
  refine lv_aload_n hx hb dX6_here_0 rfl (lv_at hl 0 rfl) ?_
  refine va_get (D := D) (ci := 6) (v := .int att) (C := RX6) (T := TX6) (N := 42) hx hb hts iX6 hown hK hP 0 rfl rfl 23 (Nat.le_of_ble_eq_true rfl) f78 (fun _ h9 => h9) rfl dX6_here_1 ?_
  refine lv_aload_n hx hb dX6_here_4 rfl (lv_at hl 0 rfl) ?_
  refine va_get (D := D) (ci := 6) (v := .int size) (C := RX6) (T := TX6) (N := 42) hx hb hts iX6 hown hK hP 0 rfl rfl 22 (Nat.le_of_ble_eq_true rfl) f81 (fun _ h9 => h9) rfl dX6_here_5 ?_
  refine lv_icmp_ge (tgt := 23) hx hb dX6_here_8 (by decide) (fun c1 => ?_) (fun c1 => ?_)
  · have h := e_t c1 h
    refine lv_iconst (v := (-1)) hx hb dX6_here_23 (by decide) ?_
    obtain rfl := e_s h
    exact hret hP hS rfl dX6_here_24
  · have h := e_f c1 h
    refine lv_aload_n hx hb dX6_here_11 rfl (lv_at hl 0 rfl) ?_
    refine va_get (D := D) (ci := 6) (v := .ref (ad 1)) (C := RX6) (T := TX6) (N := 42) hx hb hts iX6 hown hK hP 0 rfl rfl 1 (Nat.le_of_ble_eq_true rfl) f7 (fun _ h9 => h9) rfl dX6_here_12 ?_
    refine lv_aload_n hx hb dX6_here_15 rfl (lv_at hl 0 rfl) ?_
    refine va_get (D := D) (ci := 6) (v := .int att) (C := RX6) (T := TX6) (N := 42) hx hb hts iX6 hown hK hP 0 rfl rfl 23 (Nat.le_of_ble_eq_true rfl) f78 (fun _ h9 => h9) rfl dX6_here_16 ?_
    obtain ⟨v2, ev2, nv2, h⟩ := e_rd h
    refine xa_iald hx hb hK hP 1 rfl nv2 ev2 dX6_here_19 ?_
    refine lv_goto (tgt := 24) hx hb dX6_here_20 (by decide) ?_
    obtain rfl := e_s h
    exact hret hP hS rfl dX6_here_24
set_option maxHeartbeats 4000000 in
set_option maxRecDepth 100000 in
theorem kX6_isSmall (l : Launch) (D : va_G) (cA : Nat → ClassId)   (x0 : Int32) (q : Int32) (h : mX6_isSmall  x0 = some q) : MI l yX6_isSmall wsX6_isSmall { frames := 0, cells := 0, slots := 0, locals := 0 } D cA .boolean [.int x0] [] [] q := by
  refine MI.of (cc := cX6_isSmall) (maxL := 1) (by decide +kernel) rfl rfl rfl (Nat.le_of_ble_eq_true rfl) ?_
  intro p e s m args below meth c A ls Q hx hb hml hts hown hK hP hD hA hS hl hret
  have hl : lv_has ls 1 [(0, .int x0)] := hl
  unfold mX6_isSmall at h
  refine lv_iload_n hx hb dX6_isSmall_0 rfl (lv_at hl 0 rfl) ?_
  refine lv_bipush (v := 97) hx hb dX6_isSmall_1 (by decide) ?_
  refine lv_icmp_lt (tgt := 16) hx hb dX6_isSmall_3 (by decide) (fun c1 => ?_) (fun c1 => ?_)
  · have h := e_t c1 h
    refine lv_iconst (v := 0) hx hb dX6_isSmall_16 (by decide) ?_
    obtain rfl := e_s h
    exact hret hP hS (show narrow .boolean (.int 0) = .int 0 from rfl) dX6_isSmall_17
  · have h := e_f c1 h
    refine lv_iload_n hx hb dX6_isSmall_6 rfl (lv_at hl 0 rfl) ?_
    refine lv_bipush (v := 122) hx hb dX6_isSmall_7 (by decide) ?_
    refine lv_icmp_gt (tgt := 16) hx hb dX6_isSmall_9 (by decide) (fun c2 => ?_) (fun c2 => ?_)
    · have h := e_t c2 h
      refine lv_iconst (v := 0) hx hb dX6_isSmall_16 (by decide) ?_
      obtain rfl := e_s h
      exact hret hP hS (show narrow .boolean (.int 0) = .int 0 from rfl) dX6_isSmall_17
    · have h := e_f c2 h
      refine lv_iconst (v := 1) hx hb dX6_isSmall_12 (by decide) ?_
      refine lv_goto (tgt := 17) hx hb dX6_isSmall_13 (by decide) ?_
      obtain rfl := e_s h
      exact hret hP hS (show narrow .boolean (.int 1) = .int 1 from rfl) dX6_isSmall_17
set_option maxHeartbeats 4000000 in
set_option maxRecDepth 100000 in
theorem kX6_isDigit (l : Launch) (D : va_G) (cA : Nat → ClassId)   (x0 : Int32) (q : Int32) (h : mX6_isDigit  x0 = some q) : MI l yX6_isDigit wsX6_isDigit { frames := 0, cells := 0, slots := 0, locals := 0 } D cA .boolean [.int x0] [] [] q := by
  refine MI.of (cc := cX6_isDigit) (maxL := 1) (by decide +kernel) rfl rfl rfl (Nat.le_of_ble_eq_true rfl) ?_
  intro p e s m args below meth c A ls Q hx hb hml hts hown hK hP hD hA hS hl hret
  have hl : lv_has ls 1 [(0, .int x0)] := hl
  unfold mX6_isDigit at h
  refine lv_iload_n hx hb dX6_isDigit_0 rfl (lv_at hl 0 rfl) ?_
  refine lv_bipush (v := 48) hx hb dX6_isDigit_1 (by decide) ?_
  refine lv_icmp_lt (tgt := 16) hx hb dX6_isDigit_3 (by decide) (fun c1 => ?_) (fun c1 => ?_)
  · have h := e_t c1 h
    refine lv_iconst (v := 0) hx hb dX6_isDigit_16 (by decide) ?_
    obtain rfl := e_s h
    exact hret hP hS (show narrow .boolean (.int 0) = .int 0 from rfl) dX6_isDigit_17
  · have h := e_f c1 h
    refine lv_iload_n hx hb dX6_isDigit_6 rfl (lv_at hl 0 rfl) ?_
    refine lv_bipush (v := 57) hx hb dX6_isDigit_7 (by decide) ?_
    refine lv_icmp_gt (tgt := 16) hx hb dX6_isDigit_9 (by decide) (fun c2 => ?_) (fun c2 => ?_)
    · have h := e_t c2 h
      refine lv_iconst (v := 0) hx hb dX6_isDigit_16 (by decide) ?_
      obtain rfl := e_s h
      exact hret hP hS (show narrow .boolean (.int 0) = .int 0 from rfl) dX6_isDigit_17
    · have h := e_f c2 h
      refine lv_iconst (v := 1) hx hb dX6_isDigit_12 (by decide) ?_
      refine lv_goto (tgt := 17) hx hb dX6_isDigit_13 (by decide) ?_
      obtain rfl := e_s h
      exact hret hP hS (show narrow .boolean (.int 1) = .int 1 from rfl) dX6_isDigit_17
set_option maxHeartbeats 4000000 in
set_option maxRecDepth 100000 in
theorem kX6_wrong (l : Launch) (D : va_G) (cA : Nat → ClassId) (ad : Nat → Nat) (thrown : Int32) (tape : Nat → Int32) (taped : Int32) (value : Nat → Int32) (weight : Nat → Int32) (many : Int32) (block : Int32) (ties : Int32) (lines : Int32) (pastValue : Nat → Int32) (pastWeight : Nat → Int32) (pastMany : Nat → Int32) (undos : Int32) (fresh : Int32) (newValue : Nat → Int32) (newWeight : Nat → Int32) (newMany : Int32) (newBlock : Int32) (newTies : Int32) (newLines : Int32) (hasBlock : Int32) (hasTies : Int32) (size : Int32) (att : Int32) (place : Int32) (sort : Int32) (number : Int32) (fault : Int32) (faultPlace : Int32) (lastFault : Int32) (lastPlace : Int32) (toValue : Nat → Int32) (toWeight : Nat → Int32) (toMany : Int32) (often : Nat → Int32) (firstOf : Nat → Int32) (lastOf : Nat → Int32) (unlikes : Nat → Int32) (unlikeMany : Int32) (isCandidate : Nat → Int32) (modes : Nat → Int32) (fewest : Nat → Int32) (x1 : Int32) (q : Int32 × Int32) (h : mX6_wrong place fault faultPlace x1 = some q) : MV l yX6_wrong wsX6_wrong { frames := 0, cells := 0, slots := 0, locals := 0 } D cA [.ref (ad 0), .int x1] (wX6 cA ad thrown tape taped value weight many block ties lines pastValue pastWeight pastMany undos fresh newValue newWeight newMany newBlock newTies newLines hasBlock hasTies size att place sort number fault faultPlace lastFault lastPlace toValue toWeight toMany often firstOf lastOf unlikes unlikeMany isCandidate modes fewest) (wX6 cA ad thrown tape taped value weight many block ties lines pastValue pastWeight pastMany undos fresh newValue newWeight newMany newBlock newTies newLines hasBlock hasTies size att place sort number q.1 q.2 lastFault lastPlace toValue toWeight toMany often firstOf lastOf unlikes unlikeMany isCandidate modes fewest) := by
  refine MV.of (cc := cX6_wrong) (maxL := 2) (by decide) rfl rfl rfl (Nat.le_of_ble_eq_true rfl) ?_
  intro p e s m args below meth c A ls Q hx hb hml hts hown hK hP hD hA hS hl hret
  have hl : lv_has ls 2 [(0, .ref (ad 0)), (1, .int x1)] := hl
  have f118 := hts (.fieldLink RX6 118 "ModeDeskModel" "fault" "I") (by decide +kernel)
  have f121 := hts (.fieldLink RX6 121 "ModeDeskModel" "faultPlace" "I") (by decide +kernel)
  have f88 := hts (.fieldLink RX6 88 "ModeDeskModel" "place" "I") (by decide +kernel)
  have iX6 : ∀ w ∈ wsX60, w ∈ wsX6_wrong := by decide +kernel
  unfold mX6_wrong at h
  refine lv_aload_n hx hb dX6_wrong_0 rfl (lv_at hl 0 rfl) ?_
  refine va_get (D := D) (ci := 6) (v := .int fault) (C := RX6) (T := TX6) (N := 42) hx hb hts iX6 hown hK hP 0 rfl rfl 27 (Nat.le_of_ble_eq_true rfl) f118 (fun _ h9 => h9) rfl dX6_wrong_1 ?_
  refine lv_if_eq (tgt := 8) hx hb dX6_wrong_4 (by decide) (fun c1 => ?_) (fun c1 => ?_)
  · have h := e_t c1 h
    refine lv_aload_n hx hb dX6_wrong_8 rfl (lv_at hl 0 rfl) ?_
    refine lv_iload_n hx hb dX6_wrong_9 rfl (lv_at hl 1 rfl) ?_
    refine va_put (D := D) (ci := 6) (v := .int x1) (ty := .int) (C := RX6) (T := TX6) (N := 42) hx hb hts iX6 tyX6 tyX6_ok nmX6 hown hK hP hD hS 0 rfl rfl 27 (Nat.le_of_ble_eq_true rfl) f118 (fun _ h9 => h9) rfl (tyX6_ok 27 (Nat.le_of_ble_eq_true rfl)) rfl rfl (Nat.le_of_ble_eq_true rfl) dX6_wrong_10 (fun H locs hP hD hS => ?_)
    have hP : va_P D vwCl (wX6 cA ad thrown tape taped value weight many block ties lines pastValue pastWeight pastMany undos fresh newValue newWeight newMany newBlock newTies newLines hasBlock hasTies size att place sort number x1 faultPlace lastFault lastPlace toValue toWeight toMany often firstOf lastOf unlikes unlikeMany isCandidate modes fewest) H := hP
    have hD : va_D A (wX6 cA ad thrown tape taped value weight many block ties lines pastValue pastWeight pastMany undos fresh newValue newWeight newMany newBlock newTies newLines hasBlock hasTies size att place sort number x1 faultPlace lastFault lastPlace toValue toWeight toMany often firstOf lastOf unlikes unlikeMany isCandidate modes fewest) := hD
    refine lv_aload_n hx hb dX6_wrong_13 rfl (lv_at hl 0 rfl) ?_
    refine lv_aload_n hx hb dX6_wrong_14 rfl (lv_at hl 0 rfl) ?_
    refine va_get (D := D) (ci := 6) (v := .int place) (C := RX6) (T := TX6) (N := 42) hx hb hts iX6 hown hK hP 0 rfl rfl 24 (Nat.le_of_ble_eq_true rfl) f88 (fun _ h9 => h9) rfl dX6_wrong_15 ?_
    refine va_put (D := D) (ci := 6) (v := .int place) (ty := .int) (C := RX6) (T := TX6) (N := 42) hx hb hts iX6 tyX6 tyX6_ok nmX6 hown hK hP hD hS 0 rfl rfl 28 (Nat.le_of_ble_eq_true rfl) f121 (fun _ h9 => h9) rfl (tyX6_ok 28 (Nat.le_of_ble_eq_true rfl)) rfl rfl (Nat.le_of_ble_eq_true rfl) dX6_wrong_18 (fun H locs hP hD hS => ?_)
    have hP : va_P D vwCl (wX6 cA ad thrown tape taped value weight many block ties lines pastValue pastWeight pastMany undos fresh newValue newWeight newMany newBlock newTies newLines hasBlock hasTies size att place sort number x1 place lastFault lastPlace toValue toWeight toMany often firstOf lastOf unlikes unlikeMany isCandidate modes fewest) H := hP
    have hD : va_D A (wX6 cA ad thrown tape taped value weight many block ties lines pastValue pastWeight pastMany undos fresh newValue newWeight newMany newBlock newTies newLines hasBlock hasTies size att place sort number x1 place lastFault lastPlace toValue toWeight toMany often firstOf lastOf unlikes unlikeMany isCandidate modes fewest) := hD
    obtain rfl := e_s h
    exact hret hP hS dX6_wrong_21
  · have h := e_f c1 h
    obtain rfl := e_s h
    exact hret hP hS dX6_wrong_7
set_option maxHeartbeats 4000000 in
set_option maxRecDepth 100000 in
theorem kX6_fault (l : Launch) (D : va_G) (cA : Nat → ClassId) (ad : Nat → Nat) (thrown : Int32) (tape : Nat → Int32) (taped : Int32) (value : Nat → Int32) (weight : Nat → Int32) (many : Int32) (block : Int32) (ties : Int32) (lines : Int32) (pastValue : Nat → Int32) (pastWeight : Nat → Int32) (pastMany : Nat → Int32) (undos : Int32) (fresh : Int32) (newValue : Nat → Int32) (newWeight : Nat → Int32) (newMany : Int32) (newBlock : Int32) (newTies : Int32) (newLines : Int32) (hasBlock : Int32) (hasTies : Int32) (size : Int32) (att : Int32) (place : Int32) (sort : Int32) (number : Int32) (fault : Int32) (faultPlace : Int32) (lastFault : Int32) (lastPlace : Int32) (toValue : Nat → Int32) (toWeight : Nat → Int32) (toMany : Int32) (often : Nat → Int32) (firstOf : Nat → Int32) (lastOf : Nat → Int32) (unlikes : Nat → Int32) (unlikeMany : Int32) (isCandidate : Nat → Int32) (modes : Nat → Int32) (fewest : Nat → Int32) (x1 : Int32) (q : Int32 × Int32) (h : mX6_fault thrown lastFault lastPlace x1 = some q) : MI l yX6_fault wsX6_fault { frames := 0, cells := 0, slots := 0, locals := 0 } D cA .int [.ref (ad 0), .int x1] (wX6 cA ad thrown tape taped value weight many block ties lines pastValue pastWeight pastMany undos fresh newValue newWeight newMany newBlock newTies newLines hasBlock hasTies size att place sort number fault faultPlace lastFault lastPlace toValue toWeight toMany often firstOf lastOf unlikes unlikeMany isCandidate modes fewest) (wX6 cA ad q.2 tape taped value weight many block ties lines pastValue pastWeight pastMany undos fresh newValue newWeight newMany newBlock newTies newLines hasBlock hasTies size att place sort number fault faultPlace lastFault lastPlace toValue toWeight toMany often firstOf lastOf unlikes unlikeMany isCandidate modes fewest) q.1 := by
  refine MI.of (cc := cX6_fault) (maxL := 2) (by decide +kernel) rfl rfl rfl (Nat.le_of_ble_eq_true rfl) ?_
  intro p e s m args below meth c A ls Q hx hb hml hts hown hK hP hD hA hS hl hret
  have hl : lv_has ls 2 [(0, .ref (ad 0)), (1, .int x1)] := hl
  have f172 := hts (.fieldLink RX6 172 "ModeDeskModel" "lastFault" "I") (by decide +kernel)
  have f38 := hts (.fieldLink RX6 38 "ModeDeskModel" "lastPlace" "I") (by decide +kernel)
  have f72 := hts (.fieldLink RX6 72 "ModeDeskModel" "thrown" "I") (by decide +kernel)
  have iX6 : ∀ w ∈ wsX60, w ∈ wsX6_fault := by decide +kernel
  unfold mX6_fault at h
  refine lv_aload_n hx hb dX6_fault_0 rfl (lv_at hl 0 rfl) ?_
  refine lv_iconst (v := 0) hx hb dX6_fault_1 (by decide) ?_
  refine va_put (D := D) (ci := 6) (v := .int 0) (ty := .int) (C := RX6) (T := TX6) (N := 42) hx hb hts iX6 tyX6 tyX6_ok nmX6 hown hK hP hD hS 0 rfl rfl 0 (Nat.le_of_ble_eq_true rfl) f72 (fun _ h9 => h9) rfl (tyX6_ok 0 (Nat.le_of_ble_eq_true rfl)) rfl rfl (Nat.le_of_ble_eq_true rfl) dX6_fault_2 (fun H locs hP hD hS => ?_)
  have hP : va_P D vwCl (wX6 cA ad 0 tape taped value weight many block ties lines pastValue pastWeight pastMany undos fresh newValue newWeight newMany newBlock newTies newLines hasBlock hasTies size att place sort number fault faultPlace lastFault lastPlace toValue toWeight toMany often firstOf lastOf unlikes unlikeMany isCandidate modes fewest) H := hP
  have hD : va_D A (wX6 cA ad 0 tape taped value weight many block ties lines pastValue pastWeight pastMany undos fresh newValue newWeight newMany newBlock newTies newLines hasBlock hasTies size att place sort number fault faultPlace lastFault lastPlace toValue toWeight toMany often firstOf lastOf unlikes unlikeMany isCandidate modes fewest) := hD
  refine lv_iload_n hx hb dX6_fault_5 rfl (lv_at hl 1 rfl) ?_
  refine lv_if_ne (tgt := 16) hx hb dX6_fault_6 (by decide) (fun c1 => ?_) (fun c1 => ?_)
  · have h := e_t c1 h
    refine lv_iload_n hx hb dX6_fault_16 rfl (lv_at hl 1 rfl) ?_
    refine lv_iconst (v := 1) hx hb dX6_fault_17 (by decide) ?_
    refine lv_icmp_ne (tgt := 28) hx hb dX6_fault_18 (by decide) (fun c2 => ?_) (fun c2 => ?_)
    · have h := e_t c2 h
      refine lv_iconst (v := (-1)) hx hb dX6_fault_28 (by decide) ?_
      obtain rfl := e_s h
      exact hret hP hS rfl dX6_fault_29
    · have h := e_f (not_not_intro c2) h
      refine lv_aload_n hx hb dX6_fault_21 rfl (lv_at hl 0 rfl) ?_
      refine va_get (D := D) (ci := 6) (v := .int lastPlace) (C := RX6) (T := TX6) (N := 42) hx hb hts iX6 hown hK hP 0 rfl rfl 30 (Nat.le_of_ble_eq_true rfl) f38 (fun _ h9 => h9) rfl dX6_fault_22 ?_
      refine lv_goto (tgt := 29) hx hb dX6_fault_25 (by decide) ?_
      obtain rfl := e_s h
      exact hret hP hS rfl dX6_fault_29
  · have h := e_f (not_not_intro c1) h
    refine lv_aload_n hx hb dX6_fault_9 rfl (lv_at hl 0 rfl) ?_
    refine va_get (D := D) (ci := 6) (v := .int lastFault) (C := RX6) (T := TX6) (N := 42) hx hb hts iX6 hown hK hP 0 rfl rfl 29 (Nat.le_of_ble_eq_true rfl) f172 (fun _ h9 => h9) rfl dX6_fault_10 ?_
    refine lv_goto (tgt := 29) hx hb dX6_fault_13 (by decide) ?_
    obtain rfl := e_s h
    exact hret hP hS rfl dX6_fault_29
set_option maxHeartbeats 4000000 in
set_option maxRecDepth 100000 in
theorem kX6_isPlace (l : Launch) (D : va_G) (cA : Nat → ClassId) (ad : Nat → Nat) (thrown : Int32) (tape : Nat → Int32) (taped : Int32) (value : Nat → Int32) (weight : Nat → Int32) (many : Int32) (block : Int32) (ties : Int32) (lines : Int32) (pastValue : Nat → Int32) (pastWeight : Nat → Int32) (pastMany : Nat → Int32) (undos : Int32) (fresh : Int32) (newValue : Nat → Int32) (newWeight : Nat → Int32) (newMany : Int32) (newBlock : Int32) (newTies : Int32) (newLines : Int32) (hasBlock : Int32) (hasTies : Int32) (size : Int32) (att : Int32) (place : Int32) (sort : Int32) (number : Int32) (fault : Int32) (faultPlace : Int32) (lastFault : Int32) (lastPlace : Int32) (toValue : Nat → Int32) (toWeight : Nat → Int32) (toMany : Int32) (often : Nat → Int32) (firstOf : Nat → Int32) (lastOf : Nat → Int32) (unlikes : Nat → Int32) (unlikeMany : Int32) (isCandidate : Nat → Int32) (modes : Nat → Int32) (fewest : Nat → Int32) (x1 : Int32) (q : Int32) (h : mX6_isPlace many x1 = some q) : MI l yX6_isPlace wsX6_isPlace { frames := 0, cells := 0, slots := 0, locals := 0 } D cA .boolean [.ref (ad 0), .int x1] (wX6 cA ad thrown tape taped value weight many block ties lines pastValue pastWeight pastMany undos fresh newValue newWeight newMany newBlock newTies newLines hasBlock hasTies size att place sort number fault faultPlace lastFault lastPlace toValue toWeight toMany often firstOf lastOf unlikes unlikeMany isCandidate modes fewest) (wX6 cA ad thrown tape taped value weight many block ties lines pastValue pastWeight pastMany undos fresh newValue newWeight newMany newBlock newTies newLines hasBlock hasTies size att place sort number fault faultPlace lastFault lastPlace toValue toWeight toMany often firstOf lastOf unlikes unlikeMany isCandidate modes fewest) q := by
  refine MI.of (cc := cX6_isPlace) (maxL := 2) (by decide +kernel) rfl rfl rfl (Nat.le_of_ble_eq_true rfl) ?_
  intro p e s m args below meth c A ls Q hx hb hml hts hown hK hP hD hA hS hl hret
  have hl : lv_has ls 2 [(0, .ref (ad 0)), (1, .int x1)] := hl
  have f175 := hts (.fieldLink RX6 175 "ModeDeskModel" "many" "I") (by decide +kernel)
  have iX6 : ∀ w ∈ wsX60, w ∈ wsX6_isPlace := by decide +kernel
  unfold mX6_isPlace at h
  refine lv_iload_n hx hb dX6_isPlace_0 rfl (lv_at hl 1 rfl) ?_
  refine lv_if_lt (tgt := 16) hx hb dX6_isPlace_1 (by decide) (fun c1 => ?_) (fun c1 => ?_)
  · have h := e_t c1 h
    refine lv_iconst (v := 0) hx hb dX6_isPlace_16 (by decide) ?_
    obtain rfl := e_s h
    exact hret hP hS (show narrow .boolean (.int 0) = .int 0 from rfl) dX6_isPlace_17
  · have h := e_f c1 h
    refine lv_iload_n hx hb dX6_isPlace_4 rfl (lv_at hl 1 rfl) ?_
    refine lv_aload_n hx hb dX6_isPlace_5 rfl (lv_at hl 0 rfl) ?_
    refine va_get (D := D) (ci := 6) (v := .int many) (C := RX6) (T := TX6) (N := 42) hx hb hts iX6 hown hK hP 0 rfl rfl 5 (Nat.le_of_ble_eq_true rfl) f175 (fun _ h9 => h9) rfl dX6_isPlace_6 ?_
    refine lv_icmp_ge (tgt := 16) hx hb dX6_isPlace_9 (by decide) (fun c2 => ?_) (fun c2 => ?_)
    · have h := e_t c2 h
      refine lv_iconst (v := 0) hx hb dX6_isPlace_16 (by decide) ?_
      obtain rfl := e_s h
      exact hret hP hS (show narrow .boolean (.int 0) = .int 0 from rfl) dX6_isPlace_17
    · have h := e_f c2 h
      refine lv_iconst (v := 1) hx hb dX6_isPlace_12 (by decide) ?_
      refine lv_goto (tgt := 17) hx hb dX6_isPlace_13 (by decide) ?_
      obtain rfl := e_s h
      exact hret hP hS (show narrow .boolean (.int 1) = .int 1 from rfl) dX6_isPlace_17
set_option maxHeartbeats 4000000 in
set_option maxRecDepth 100000 in
theorem kX6_isSpan (l : Launch) (D : va_G) (cA : Nat → ClassId) (ad : Nat → Nat) (thrown : Int32) (tape : Nat → Int32) (taped : Int32) (value : Nat → Int32) (weight : Nat → Int32) (many : Int32) (block : Int32) (ties : Int32) (lines : Int32) (pastValue : Nat → Int32) (pastWeight : Nat → Int32) (pastMany : Nat → Int32) (undos : Int32) (fresh : Int32) (newValue : Nat → Int32) (newWeight : Nat → Int32) (newMany : Int32) (newBlock : Int32) (newTies : Int32) (newLines : Int32) (hasBlock : Int32) (hasTies : Int32) (size : Int32) (att : Int32) (place : Int32) (sort : Int32) (number : Int32) (fault : Int32) (faultPlace : Int32) (lastFault : Int32) (lastPlace : Int32) (toValue : Nat → Int32) (toWeight : Nat → Int32) (toMany : Int32) (often : Nat → Int32) (firstOf : Nat → Int32) (lastOf : Nat → Int32) (unlikes : Nat → Int32) (unlikeMany : Int32) (isCandidate : Nat → Int32) (modes : Nat → Int32) (fewest : Nat → Int32) (x1 : Int32) (x2 : Int32) (q : Int32) (h : mX6_isSpan many x1 x2 = some q) : MI l yX6_isSpan wsX6_isSpan { frames := 0, cells := 0, slots := 0, locals := 0 } D cA .boolean [.ref (ad 0), .int x1, .int x2] (wX6 cA ad thrown tape taped value weight many block ties lines pastValue pastWeight pastMany undos fresh newValue newWeight newMany newBlock newTies newLines hasBlock hasTies size att place sort number fault faultPlace lastFault lastPlace toValue toWeight toMany often firstOf lastOf unlikes unlikeMany isCandidate modes fewest) (wX6 cA ad thrown tape taped value weight many block ties lines pastValue pastWeight pastMany undos fresh newValue newWeight newMany newBlock newTies newLines hasBlock hasTies size att place sort number fault faultPlace lastFault lastPlace toValue toWeight toMany often firstOf lastOf unlikes unlikeMany isCandidate modes fewest) q := by
  refine MI.of (cc := cX6_isSpan) (maxL := 3) (by decide +kernel) rfl rfl rfl (Nat.le_of_ble_eq_true rfl) ?_
  intro p e s m args below meth c A ls Q hx hb hml hts hown hK hP hD hA hS hl hret
  have hl : lv_has ls 3 [(0, .ref (ad 0)), (1, .int x1), (2, .int x2)] := hl
  have f175 := hts (.fieldLink RX6 175 "ModeDeskModel" "many" "I") (by decide +kernel)
  have iX6 : ∀ w ∈ wsX60, w ∈ wsX6_isSpan := by decide +kernel
  unfold mX6_isSpan at h
  refine lv_iload_n hx hb dX6_isSpan_0 rfl (lv_at hl 1 rfl) ?_
  refine lv_if_lt (tgt := 21) hx hb dX6_isSpan_1 (by decide) (fun c1 => ?_) (fun c1 => ?_)
  · have h := e_t c1 h
    refine lv_iconst (v := 0) hx hb dX6_isSpan_21 (by decide) ?_
    obtain rfl := e_s h
    exact hret hP hS (show narrow .boolean (.int 0) = .int 0 from rfl) dX6_isSpan_22
  · have h := e_f c1 h
    refine lv_iload_n hx hb dX6_isSpan_4 rfl (lv_at hl 1 rfl) ?_
    refine lv_iload_n hx hb dX6_isSpan_5 rfl (lv_at hl 2 rfl) ?_
    refine lv_icmp_gt (tgt := 21) hx hb dX6_isSpan_6 (by decide) (fun c2 => ?_) (fun c2 => ?_)
    · have h := e_t c2 h
      refine lv_iconst (v := 0) hx hb dX6_isSpan_21 (by decide) ?_
      obtain rfl := e_s h
      exact hret hP hS (show narrow .boolean (.int 0) = .int 0 from rfl) dX6_isSpan_22
    · have h := e_f c2 h
      refine lv_iload_n hx hb dX6_isSpan_9 rfl (lv_at hl 2 rfl) ?_
      refine lv_aload_n hx hb dX6_isSpan_10 rfl (lv_at hl 0 rfl) ?_
      refine va_get (D := D) (ci := 6) (v := .int many) (C := RX6) (T := TX6) (N := 42) hx hb hts iX6 hown hK hP 0 rfl rfl 5 (Nat.le_of_ble_eq_true rfl) f175 (fun _ h9 => h9) rfl dX6_isSpan_11 ?_
      refine lv_icmp_ge (tgt := 21) hx hb dX6_isSpan_14 (by decide) (fun c3 => ?_) (fun c3 => ?_)
      · have h := e_t c3 h
        refine lv_iconst (v := 0) hx hb dX6_isSpan_21 (by decide) ?_
        obtain rfl := e_s h
        exact hret hP hS (show narrow .boolean (.int 0) = .int 0 from rfl) dX6_isSpan_22
      · have h := e_f c3 h
        refine lv_iconst (v := 1) hx hb dX6_isSpan_17 (by decide) ?_
        refine lv_goto (tgt := 22) hx hb dX6_isSpan_18 (by decide) ?_
        obtain rfl := e_s h
        exact hret hP hS (show narrow .boolean (.int 1) = .int 1 from rfl) dX6_isSpan_22
set_option maxHeartbeats 4000000 in
set_option maxRecDepth 100000 in
theorem kX6_isValue (l : Launch) (D : va_G) (cA : Nat → ClassId)   (x0 : Int32) (q : Int32) (h : mX6_isValue  x0 = some q) : MI l yX6_isValue wsX6_isValue { frames := 0, cells := 0, slots := 0, locals := 0 } D cA .boolean [.int x0] [] [] q := by
  refine MI.of (cc := cX6_isValue) (maxL := 1) (by decide +kernel) rfl rfl rfl (Nat.le_of_ble_eq_true rfl) ?_
  intro p e s m args below meth c A ls Q hx hb hml hts hown hK hP hD hA hS hl hret
  have hl : lv_has ls 1 [(0, .int x0)] := hl
  unfold mX6_isValue at h
  refine lv_iload_n hx hb dX6_isValue_0 rfl (lv_at hl 0 rfl) ?_
  refine lv_if_lt (tgt := 15) hx hb dX6_isValue_1 (by decide) (fun c1 => ?_) (fun c1 => ?_)
  · have h := e_t c1 h
    refine lv_iconst (v := 0) hx hb dX6_isValue_15 (by decide) ?_
    obtain rfl := e_s h
    exact hret hP hS (show narrow .boolean (.int 0) = .int 0 from rfl) dX6_isValue_16
  · have h := e_f c1 h
    refine lv_iload_n hx hb dX6_isValue_4 rfl (lv_at hl 0 rfl) ?_
    refine lv_sipush (v := 1000) hx hb dX6_isValue_5 (by decide) ?_
    refine lv_icmp_ge (tgt := 15) hx hb dX6_isValue_8 (by decide) (fun c2 => ?_) (fun c2 => ?_)
    · have h := e_t c2 h
      refine lv_iconst (v := 0) hx hb dX6_isValue_15 (by decide) ?_
      obtain rfl := e_s h
      exact hret hP hS (show narrow .boolean (.int 0) = .int 0 from rfl) dX6_isValue_16
    · have h := e_f c2 h
      refine lv_iconst (v := 1) hx hb dX6_isValue_11 (by decide) ?_
      refine lv_goto (tgt := 16) hx hb dX6_isValue_12 (by decide) ?_
      obtain rfl := e_s h
      exact hret hP hS (show narrow .boolean (.int 1) = .int 1 from rfl) dX6_isValue_16
set_option maxHeartbeats 4000000 in
set_option maxRecDepth 100000 in
theorem kX6_blocks (l : Launch) (D : va_G) (cA : Nat → ClassId) (ad : Nat → Nat) (thrown : Int32) (tape : Nat → Int32) (taped : Int32) (value : Nat → Int32) (weight : Nat → Int32) (many : Int32) (block : Int32) (ties : Int32) (lines : Int32) (pastValue : Nat → Int32) (pastWeight : Nat → Int32) (pastMany : Nat → Int32) (undos : Int32) (fresh : Int32) (newValue : Nat → Int32) (newWeight : Nat → Int32) (newMany : Int32) (newBlock : Int32) (newTies : Int32) (newLines : Int32) (hasBlock : Int32) (hasTies : Int32) (size : Int32) (att : Int32) (place : Int32) (sort : Int32) (number : Int32) (fault : Int32) (faultPlace : Int32) (lastFault : Int32) (lastPlace : Int32) (toValue : Nat → Int32) (toWeight : Nat → Int32) (toMany : Int32) (often : Nat → Int32) (firstOf : Nat → Int32) (lastOf : Nat → Int32) (unlikes : Nat → Int32) (unlikeMany : Int32) (isCandidate : Nat → Int32) (modes : Nat → Int32) (fewest : Nat → Int32)  (q : Int32) (h : mX6_blocks many block  = some q) : MI l yX6_blocks wsX6_blocks { frames := 0, cells := 0, slots := 0, locals := 0 } D cA .int [.ref (ad 0)] (wX6 cA ad thrown tape taped value weight many block ties lines pastValue pastWeight pastMany undos fresh newValue newWeight newMany newBlock newTies newLines hasBlock hasTies size att place sort number fault faultPlace lastFault lastPlace toValue toWeight toMany often firstOf lastOf unlikes unlikeMany isCandidate modes fewest) (wX6 cA ad thrown tape taped value weight many block ties lines pastValue pastWeight pastMany undos fresh newValue newWeight newMany newBlock newTies newLines hasBlock hasTies size att place sort number fault faultPlace lastFault lastPlace toValue toWeight toMany often firstOf lastOf unlikes unlikeMany isCandidate modes fewest) q := by
  refine MI.of (cc := cX6_blocks) (maxL := 1) (by decide +kernel) rfl rfl rfl (Nat.le_of_ble_eq_true rfl) ?_
  intro p e s m args below meth c A ls Q hx hb hml hts hown hK hP hD hA hS hl hret
  have hl : lv_has ls 1 [(0, .ref (ad 0))] := hl
  have f175 := hts (.fieldLink RX6 175 "ModeDeskModel" "many" "I") (by decide +kernel)
  have f69 := hts (.fieldLink RX6 69 "ModeDeskModel" "block" "I") (by decide +kernel)
  have iX6 : ∀ w ∈ wsX60, w ∈ wsX6_blocks := by decide +kernel
  unfold mX6_blocks at h
  refine lv_aload_n hx hb dX6_blocks_0 rfl (lv_at hl 0 rfl) ?_
  refine va_get (D := D) (ci := 6) (v := .int many) (C := RX6) (T := TX6) (N := 42) hx hb hts iX6 hown hK hP 0 rfl rfl 5 (Nat.le_of_ble_eq_true rfl) f175 (fun _ h9 => h9) rfl dX6_blocks_1 ?_
  refine lv_aload_n hx hb dX6_blocks_4 rfl (lv_at hl 0 rfl) ?_
  refine va_get (D := D) (ci := 6) (v := .int block) (C := RX6) (T := TX6) (N := 42) hx hb hts iX6 hown hK hP 0 rfl rfl 6 (Nat.le_of_ble_eq_true rfl) f69 (fun _ h9 => h9) rfl dX6_blocks_5 ?_
  refine lv_iadd hx hb dX6_blocks_8 ?_
  refine lv_iconst (v := 1) hx hb dX6_blocks_9 (by decide) ?_
  refine lv_isub hx hb dX6_blocks_10 ?_
  refine lv_aload_n hx hb dX6_blocks_11 rfl (lv_at hl 0 rfl) ?_
  refine va_get (D := D) (ci := 6) (v := .int block) (C := RX6) (T := TX6) (N := 42) hx hb hts iX6 hown hK hP 0 rfl rfl 6 (Nat.le_of_ble_eq_true rfl) f69 (fun _ h9 => h9) rfl dX6_blocks_12 ?_
  obtain ⟨v1, ev1, nv1, h⟩ := e_dv h
  refine xa_idiv hx hb dX6_blocks_15 nv1 ev1 ?_
  obtain rfl := e_s h
  exact hret hP hS rfl dX6_blocks_16
set_option maxHeartbeats 4000000 in
set_option maxRecDepth 100000 in
theorem kX6_nextTo (l : Launch) (D : va_G) (cA : Nat → ClassId) (ad : Nat → Nat) (thrown : Int32) (tape : Nat → Int32) (taped : Int32) (value : Nat → Int32) (weight : Nat → Int32) (many : Int32) (block : Int32) (ties : Int32) (lines : Int32) (pastValue : Nat → Int32) (pastWeight : Nat → Int32) (pastMany : Nat → Int32) (undos : Int32) (fresh : Int32) (newValue : Nat → Int32) (newWeight : Nat → Int32) (newMany : Int32) (newBlock : Int32) (newTies : Int32) (newLines : Int32) (hasBlock : Int32) (hasTies : Int32) (size : Int32) (att : Int32) (place : Int32) (sort : Int32) (number : Int32) (fault : Int32) (faultPlace : Int32) (lastFault : Int32) (lastPlace : Int32) (toValue : Nat → Int32) (toWeight : Nat → Int32) (toMany : Int32) (often : Nat → Int32) (firstOf : Nat → Int32) (lastOf : Nat → Int32) (unlikes : Nat → Int32) (unlikeMany : Int32) (isCandidate : Nat → Int32) (modes : Nat → Int32) (fewest : Nat → Int32) (x1 : Int32) (x2 : Int32) (q : Int32) (h : mX6_nextTo value many x1 x2 = some q) : MI l yX6_nextTo wsX6_nextTo { frames := 1, cells := 0, slots := 0, locals := 21 } D cA .int [.ref (ad 0), .int x1, .int x2] (wX6 cA ad thrown tape taped value weight many block ties lines pastValue pastWeight pastMany undos fresh newValue newWeight newMany newBlock newTies newLines hasBlock hasTies size att place sort number fault faultPlace lastFault lastPlace toValue toWeight toMany often firstOf lastOf unlikes unlikeMany isCandidate modes fewest) (wX6 cA ad thrown tape taped value weight many block ties lines pastValue pastWeight pastMany undos fresh newValue newWeight newMany newBlock newTies newLines hasBlock hasTies size att place sort number fault faultPlace lastFault lastPlace toValue toWeight toMany often firstOf lastOf unlikes unlikeMany isCandidate modes fewest) q := by
  refine MI.of (cc := cX6_nextTo) (maxL := 4) (by decide +kernel) rfl rfl rfl (Nat.le_of_ble_eq_true rfl) ?_
  intro p e s m args below meth c A ls Q hx hb hml hts hown hK hP hD hA hS hl hret
  have hl : lv_has ls 4 [(0, .ref (ad 0)), (1, .int x1), (2, .int x2)] := hl
  have f13 := hts (.fieldLink RX6 13 "ModeDeskModel" "value" "[I") (by decide +kernel)
  have iX6 : ∀ w ∈ wsX60, w ∈ wsX6_nextTo := by decide +kernel
  unfold mX6_nextTo at h
  refine lv_iload_n hx hb dX6_nextTo_0 rfl (lv_at hl 1 rfl) ?_
  refine lv_iload_n hx hb dX6_nextTo_1 rfl (lv_at hl 2 rfl) ?_
  refine lv_iadd hx hb dX6_nextTo_2 ?_
  refine lv_istore_n (lv' := [(3, .int (x1 + x2)), (0, .ref (ad 0)), (1, .int x1), (2, .int x2)]) hx hb dX6_nextTo_3 rfl hl (by decide) rfl (fun ls hl => ?_)
  have hL4 : ∀ (n : Nat) (x1 : Int32) (x2 : Int32) (x3 : Int32) (thrown : Int32) (tape : Nat → Int32) (taped : Int32) (value : Nat → Int32) (weight : Nat → Int32) (many : Int32) (block : Int32) (ties : Int32) (lines : Int32) (pastValue : Nat → Int32) (pastWeight : Nat → Int32) (pastMany : Nat → Int32) (undos : Int32) (fresh : Int32) (newValue : Nat → Int32) (newWeight : Nat → Int32) (newMany : Int32) (newBlock : Int32) (newTies : Int32) (newLines : Int32) (hasBlock : Int32) (hasTies : Int32) (size : Int32) (att : Int32) (place : Int32) (sort : Int32) (number : Int32) (fault : Int32) (faultPlace : Int32) (lastFault : Int32) (lastPlace : Int32) (toValue : Nat → Int32) (toWeight : Nat → Int32) (toMany : Int32) (often : Nat → Int32) (firstOf : Nat → Int32) (lastOf : Nat → Int32) (unlikes : Nat → Int32) (unlikeMany : Int32) (isCandidate : Nat → Int32) (modes : Nat → Int32) (fewest : Nat → Int32) (z1 : Int32) (ls : Array Slot) (H : Heap) (locs : List Loc), lv_has ls 4 [(0, .ref (ad 0)), (1, .int x1), (2, .int x2), (3, .int x3)] → va_P D vwCl (wX6 cA ad thrown tape taped value weight many block ties lines pastValue pastWeight pastMany undos fresh newValue newWeight newMany newBlock newTies newLines hasBlock hasTies size att place sort number fault faultPlace lastFault lastPlace toValue toWeight toMany often firstOf lastOf unlikes unlikeMany isCandidate modes fewest) H → va_D A (wX6 cA ad thrown tape taped value weight many block ties lines pastValue pastWeight pastMany undos fresh newValue newWeight newMany newBlock newTies newLines hasBlock hasTies size att place sort number fault faultPlace lastFault lastPlace toValue toWeight toMany often firstOf lastOf unlikes unlikeMany isCandidate modes fewest) → va_S A s.heap H locs → mX6_nextTo_L4 value many x1 x2 n x3 = some z1 → (∀ (ls : Array Slot) (H : Heap) (locs : List Loc), lv_has ls 4 [(0, .ref (ad 0)), (3, .int z1)] → va_P D vwCl (wX6 cA ad thrown tape taped value weight many block ties lines pastValue pastWeight pastMany undos fresh newValue newWeight newMany newBlock newTies newLines hasBlock hasTies size att place sort number fault faultPlace lastFault lastPlace toValue toWeight toMany often firstOf lastOf unlikes unlikeMany isCandidate modes fewest) H → va_D A (wX6 cA ad thrown tape taped value weight many block ties lines pastValue pastWeight pastMany undos fresh newValue newWeight newMany newBlock newTies newLines hasBlock hasTies size att place sort number fault faultPlace lastFault lastPlace toValue toWeight toMany often firstOf lastOf unlikes unlikeMany isCandidate modes fewest) → va_S A s.heap H locs → W p l e (headSpec wsX6_nextTo { frames := 1, cells := 0, slots := 0, locals := 21 }).room s m args below meth c H locs 0 0 Q (F0 m 34 ls [])) → W p l e (headSpec wsX6_nextTo { frames := 1, cells := 0, slots := 0, locals := 21 }).room s m args below meth c H locs 0 0 Q (F0 m 4 ls []) := by
    intro n
    induction n with
    | zero => intro x1 x2 x3 thrown tape taped value weight many block ties lines pastValue pastWeight pastMany undos fresh newValue newWeight newMany newBlock newTies newLines hasBlock hasTies size att place sort number fault faultPlace lastFault lastPlace toValue toWeight toMany often firstOf lastOf unlikes unlikeMany isCandidate modes fewest z1 ls H locs hl hP hD hS h hk4; exact e_n h
    | succ n ih4 =>
      intro x1 x2 x3 thrown tape taped value weight many block ties lines pastValue pastWeight pastMany undos fresh newValue newWeight newMany newBlock newTies newLines hasBlock hasTies size att place sort number fault faultPlace lastFault lastPlace toValue toWeight toMany often firstOf lastOf unlikes unlikeMany isCandidate modes fewest z1 ls H locs hl hP hD hS h hk4
      rw [mX6_nextTo_L4.eq_2] at h
      refine lv_aload_n hx hb dX6_nextTo_4 rfl (lv_at hl 0 rfl) ?_
      refine lv_iload_n hx hb dX6_nextTo_5 rfl (lv_at hl 3 rfl) ?_
      obtain ⟨q2, eq2, h⟩ := e_b h
      refine xv_i0 (As := [.int x3]) (rest := []) (ci := 6) (b := ad 0) ⟨hx, hb, hml, hown, hts⟩ hl.1 (kX6_isPlace l D cA ad thrown tape taped value weight many block ties lines pastValue pastWeight pastMany undos fresh newValue newWeight newMany newBlock newTies newLines hasBlock hasTies size att place sort number fault faultPlace lastFault lastPlace toValue toWeight toMany often firstOf lastOf unlikes unlikeMany isCandidate modes fewest x3 _ eq2) (cwV 1 hts gX6_nextTo_X6_isPlace rfl rfl rfl (by decide +kernel) ⟨Nat.le_of_ble_eq_true rfl, Nat.le_of_ble_eq_true rfl⟩) rfl hK hP hD hS hA 0 rfl rfl rfl rfl (Nat.le_of_ble_eq_true rfl) dX6_nextTo_6 ⟨Nat.zero_le _, Nat.zero_le _⟩ (fun H locs hP hD hS hnq2 => ?_)
      have hP : va_P D vwCl (wX6 cA ad thrown tape taped value weight many block ties lines pastValue pastWeight pastMany undos fresh newValue newWeight newMany newBlock newTies newLines hasBlock hasTies size att place sort number fault faultPlace lastFault lastPlace toValue toWeight toMany often firstOf lastOf unlikes unlikeMany isCandidate modes fewest) H := hP
      have hD : va_D A (wX6 cA ad thrown tape taped value weight many block ties lines pastValue pastWeight pastMany undos fresh newValue newWeight newMany newBlock newTies newLines hasBlock hasTies size att place sort number fault faultPlace lastFault lastPlace toValue toWeight toMany often firstOf lastOf unlikes unlikeMany isCandidate modes fewest) := hD
      refine lv_if_eq (tgt := 34) hx hb dX6_nextTo_9 (by decide) (fun c3 => ?_) (fun c3 => ?_)
      · have h := e_t c3 h
        obtain rfl := e_s h
        exact hk4 _ _ _ (lv_sub hl [0, 3] rfl) hP hD hS
      · have h := e_f c3 h
        refine lv_aload_n hx hb dX6_nextTo_12 rfl (lv_at hl 0 rfl) ?_
        refine va_get (D := D) (ci := 6) (v := .ref (ad 2)) (C := RX6) (T := TX6) (N := 42) hx hb hts iX6 hown hK hP 0 rfl rfl 3 (Nat.le_of_ble_eq_true rfl) f13 (fun _ h9 => h9) rfl dX6_nextTo_13 ?_
        refine lv_iload_n hx hb dX6_nextTo_16 rfl (lv_at hl 3 rfl) ?_
        obtain ⟨v4, ev4, nv4, h⟩ := e_rd h
        refine xa_iald hx hb hK hP 2 rfl nv4 ev4 dX6_nextTo_17 ?_
        refine lv_aload_n hx hb dX6_nextTo_18 rfl (lv_at hl 0 rfl) ?_
        refine va_get (D := D) (ci := 6) (v := .ref (ad 2)) (C := RX6) (T := TX6) (N := 42) hx hb hts iX6 hown hK hP 0 rfl rfl 3 (Nat.le_of_ble_eq_true rfl) f13 (fun _ h9 => h9) rfl dX6_nextTo_19 ?_
        refine lv_iload_n hx hb dX6_nextTo_22 rfl (lv_at hl 1 rfl) ?_
        obtain ⟨v5, ev5, nv5, h⟩ := e_rd h
        refine xa_iald hx hb hK hP 2 rfl nv5 ev5 dX6_nextTo_23 ?_
        refine lv_icmp_eq (tgt := 34) hx hb dX6_nextTo_24 (by decide) (fun c6 => ?_) (fun c6 => ?_)
        · have h := e_t c6 h
          obtain rfl := e_s h
          exact hk4 _ _ _ (lv_sub hl [0, 3] rfl) hP hD hS
        · have h := e_f c6 h
          refine lv_iload_n hx hb dX6_nextTo_27 rfl (lv_at hl 3 rfl) ?_
          refine lv_iload_n hx hb dX6_nextTo_28 rfl (lv_at hl 2 rfl) ?_
          refine lv_iadd hx hb dX6_nextTo_29 ?_
          refine lv_istore_n (lv' := [(3, .int (x3 + x2)), (0, .ref (ad 0)), (1, .int x1), (2, .int x2)]) hx hb dX6_nextTo_30 rfl hl (by decide) rfl (fun ls hl => ?_)
          refine lv_goto (tgt := 4) hx hb dX6_nextTo_31 (by decide) ?_
          exact ih4 x1 x2 (x3 + x2) thrown tape taped value weight many block ties lines pastValue pastWeight pastMany undos fresh newValue newWeight newMany newBlock newTies newLines hasBlock hasTies size att place sort number fault faultPlace lastFault lastPlace toValue toWeight toMany often firstOf lastOf unlikes unlikeMany isCandidate modes fewest z1 _ _ _ (lv_sub hl [1, 2, 3, 0] rfl) hP hD hS h hk4
  obtain ⟨z7, ez7, h⟩ := e_b h
  refine hL4 FU x1 x2 (x1 + x2) thrown tape taped value weight many block ties lines pastValue pastWeight pastMany undos fresh newValue newWeight newMany newBlock newTies newLines hasBlock hasTies size att place sort number fault faultPlace lastFault lastPlace toValue toWeight toMany often firstOf lastOf unlikes unlikeMany isCandidate modes fewest z7 _ _ _ (lv_sub hl [1, 2, 3, 0] rfl) hP hD hS ez7 (fun ls H locs hl hP hD hS => ?_)
  refine lv_aload_n hx hb dX6_nextTo_34 rfl (lv_at hl 0 rfl) ?_
  refine lv_iload_n hx hb dX6_nextTo_35 rfl (lv_at hl 1 rfl) ?_
  obtain ⟨q8, eq8, h⟩ := e_b h
  refine xv_i0 (As := [.int z7]) (rest := []) (ci := 6) (b := ad 0) ⟨hx, hb, hml, hown, hts⟩ hl.1 (kX6_isPlace l D cA ad thrown tape taped value weight many block ties lines pastValue pastWeight pastMany undos fresh newValue newWeight newMany newBlock newTies newLines hasBlock hasTies size att place sort number fault faultPlace lastFault lastPlace toValue toWeight toMany often firstOf lastOf unlikes unlikeMany isCandidate modes fewest z7 _ eq8) (cwV 1 hts gX6_nextTo_X6_isPlace rfl rfl rfl (by decide +kernel) ⟨Nat.le_of_ble_eq_true rfl, Nat.le_of_ble_eq_true rfl⟩) rfl hK hP hD hS hA 0 rfl rfl rfl rfl (Nat.le_of_ble_eq_true rfl) dX6_nextTo_36 ⟨Nat.zero_le _, Nat.zero_le _⟩ (fun H locs hP hD hS hnq8 => ?_)
  have hP : va_P D vwCl (wX6 cA ad thrown tape taped value weight many block ties lines pastValue pastWeight pastMany undos fresh newValue newWeight newMany newBlock newTies newLines hasBlock hasTies size att place sort number fault faultPlace lastFault lastPlace toValue toWeight toMany often firstOf lastOf unlikes unlikeMany isCandidate modes fewest) H := hP
  have hD : va_D A (wX6 cA ad thrown tape taped value weight many block ties lines pastValue pastWeight pastMany undos fresh newValue newWeight newMany newBlock newTies newLines hasBlock hasTies size att place sort number fault faultPlace lastFault lastPlace toValue toWeight toMany often firstOf lastOf unlikes unlikeMany isCandidate modes fewest) := hD
  refine lv_if_eq (tgt := 46) hx hb dX6_nextTo_39 (by decide) (fun c9 => ?_) (fun c9 => ?_)
  · have h := e_t c9 h
    refine lv_bipush (v := (-2)) hx hb dX6_nextTo_46 (by decide) ?_
    obtain rfl := e_s h
    exact hret hP hS rfl dX6_nextTo_48
  · have h := e_f c9 h
    refine lv_iload_n hx hb dX6_nextTo_42 rfl (lv_at hl 1 rfl) ?_
    refine lv_goto (tgt := 48) hx hb dX6_nextTo_43 (by decide) ?_
    obtain rfl := e_s h
    exact hret hP hS rfl dX6_nextTo_48
set_option maxHeartbeats 4000000 in
set_option maxRecDepth 100000 in
theorem kX6_timesIn (l : Launch) (D : va_G) (cA : Nat → ClassId) (ad : Nat → Nat) (thrown : Int32) (tape : Nat → Int32) (taped : Int32) (value : Nat → Int32) (weight : Nat → Int32) (many : Int32) (block : Int32) (ties : Int32) (lines : Int32) (pastValue : Nat → Int32) (pastWeight : Nat → Int32) (pastMany : Nat → Int32) (undos : Int32) (fresh : Int32) (newValue : Nat → Int32) (newWeight : Nat → Int32) (newMany : Int32) (newBlock : Int32) (newTies : Int32) (newLines : Int32) (hasBlock : Int32) (hasTies : Int32) (size : Int32) (att : Int32) (place : Int32) (sort : Int32) (number : Int32) (fault : Int32) (faultPlace : Int32) (lastFault : Int32) (lastPlace : Int32) (toValue : Nat → Int32) (toWeight : Nat → Int32) (toMany : Int32) (often : Nat → Int32) (firstOf : Nat → Int32) (lastOf : Nat → Int32) (unlikes : Nat → Int32) (unlikeMany : Int32) (isCandidate : Nat → Int32) (modes : Nat → Int32) (fewest : Nat → Int32) (x1 : Int32) (x2 : Int32) (x3 : Int32) (q : Int32) (h : mX6_timesIn value x1 x2 x3 = some q) : MI l yX6_timesIn wsX6_timesIn { frames := 0, cells := 0, slots := 0, locals := 0 } D cA .int [.ref (ad 0), .int x1, .int x2, .int x3] (wX6 cA ad thrown tape taped value weight many block ties lines pastValue pastWeight pastMany undos fresh newValue newWeight newMany newBlock newTies newLines hasBlock hasTies size att place sort number fault faultPlace lastFault lastPlace toValue toWeight toMany often firstOf lastOf unlikes unlikeMany isCandidate modes fewest) (wX6 cA ad thrown tape taped value weight many block ties lines pastValue pastWeight pastMany undos fresh newValue newWeight newMany newBlock newTies newLines hasBlock hasTies size att place sort number fault faultPlace lastFault lastPlace toValue toWeight toMany often firstOf lastOf unlikes unlikeMany isCandidate modes fewest) q := by
  refine MI.of (cc := cX6_timesIn) (maxL := 6) (by decide +kernel) rfl rfl rfl (Nat.le_of_ble_eq_true rfl) ?_
  intro p e s m args below meth c A ls Q hx hb hml hts hown hK hP hD hA hS hl hret
  have hl : lv_has ls 6 [(0, .ref (ad 0)), (1, .int x1), (2, .int x2), (3, .int x3)] := hl
  have f13 := hts (.fieldLink RX6 13 "ModeDeskModel" "value" "[I") (by decide +kernel)
  have iX6 : ∀ w ∈ wsX60, w ∈ wsX6_timesIn := by decide +kernel
  unfold mX6_timesIn at h
  refine lv_iconst (v := 0) hx hb dX6_timesIn_0 (by decide) ?_
  refine lv_istore (lv' := [(4, .int 0), (0, .ref (ad 0)), (1, .int x1), (2, .int x2), (3, .int x3)]) hx hb dX6_timesIn_1 hl (by decide) rfl (fun ls hl => ?_)
  refine lv_iload_n hx hb dX6_timesIn_3 rfl (lv_at hl 2 rfl) ?_
  refine lv_istore (lv' := [(5, .int x1), (4, .int 0), (0, .ref (ad 0)), (1, .int x1), (2, .int x2), (3, .int x3)]) hx hb dX6_timesIn_4 hl (by decide) rfl (fun ls hl => ?_)
  have hL6 : ∀ (n : Nat) (x2 : Int32) (x3 : Int32) (x4 : Int32) (x5 : Int32) (thrown : Int32) (tape : Nat → Int32) (taped : Int32) (value : Nat → Int32) (weight : Nat → Int32) (many : Int32) (block : Int32) (ties : Int32) (lines : Int32) (pastValue : Nat → Int32) (pastWeight : Nat → Int32) (pastMany : Nat → Int32) (undos : Int32) (fresh : Int32) (newValue : Nat → Int32) (newWeight : Nat → Int32) (newMany : Int32) (newBlock : Int32) (newTies : Int32) (newLines : Int32) (hasBlock : Int32) (hasTies : Int32) (size : Int32) (att : Int32) (place : Int32) (sort : Int32) (number : Int32) (fault : Int32) (faultPlace : Int32) (lastFault : Int32) (lastPlace : Int32) (toValue : Nat → Int32) (toWeight : Nat → Int32) (toMany : Int32) (often : Nat → Int32) (firstOf : Nat → Int32) (lastOf : Nat → Int32) (unlikes : Nat → Int32) (unlikeMany : Int32) (isCandidate : Nat → Int32) (modes : Nat → Int32) (fewest : Nat → Int32) (z1 : Int32) (ls : Array Slot) (H : Heap) (locs : List Loc), lv_has ls 6 [(0, .ref (ad 0)), (2, .int x2), (3, .int x3), (4, .int x4), (5, .int x5)] → va_P D vwCl (wX6 cA ad thrown tape taped value weight many block ties lines pastValue pastWeight pastMany undos fresh newValue newWeight newMany newBlock newTies newLines hasBlock hasTies size att place sort number fault faultPlace lastFault lastPlace toValue toWeight toMany often firstOf lastOf unlikes unlikeMany isCandidate modes fewest) H → va_D A (wX6 cA ad thrown tape taped value weight many block ties lines pastValue pastWeight pastMany undos fresh newValue newWeight newMany newBlock newTies newLines hasBlock hasTies size att place sort number fault faultPlace lastFault lastPlace toValue toWeight toMany often firstOf lastOf unlikes unlikeMany isCandidate modes fewest) → va_S A s.heap H locs → mX6_timesIn_L6 value x2 x3 n x4 x5 = some z1 → (∀ (ls : Array Slot) (H : Heap) (locs : List Loc), lv_has ls 6 [(4, .int z1)] → va_P D vwCl (wX6 cA ad thrown tape taped value weight many block ties lines pastValue pastWeight pastMany undos fresh newValue newWeight newMany newBlock newTies newLines hasBlock hasTies size att place sort number fault faultPlace lastFault lastPlace toValue toWeight toMany often firstOf lastOf unlikes unlikeMany isCandidate modes fewest) H → va_D A (wX6 cA ad thrown tape taped value weight many block ties lines pastValue pastWeight pastMany undos fresh newValue newWeight newMany newBlock newTies newLines hasBlock hasTies size att place sort number fault faultPlace lastFault lastPlace toValue toWeight toMany often firstOf lastOf unlikes unlikeMany isCandidate modes fewest) → va_S A s.heap H locs → W p l e (headSpec wsX6_timesIn { frames := 0, cells := 0, slots := 0, locals := 0 }).room s m args below meth c H locs 0 0 Q (F0 m 39 ls [])) → W p l e (headSpec wsX6_timesIn { frames := 0, cells := 0, slots := 0, locals := 0 }).room s m args below meth c H locs 0 0 Q (F0 m 6 ls []) := by
    intro n
    induction n with
    | zero => intro x2 x3 x4 x5 thrown tape taped value weight many block ties lines pastValue pastWeight pastMany undos fresh newValue newWeight newMany newBlock newTies newLines hasBlock hasTies size att place sort number fault faultPlace lastFault lastPlace toValue toWeight toMany often firstOf lastOf unlikes unlikeMany isCandidate modes fewest z1 ls H locs hl hP hD hS h hk6; exact e_n h
    | succ n ih6 =>
      intro x2 x3 x4 x5 thrown tape taped value weight many block ties lines pastValue pastWeight pastMany undos fresh newValue newWeight newMany newBlock newTies newLines hasBlock hasTies size att place sort number fault faultPlace lastFault lastPlace toValue toWeight toMany often firstOf lastOf unlikes unlikeMany isCandidate modes fewest z1 ls H locs hl hP hD hS h hk6
      rw [mX6_timesIn_L6.eq_2] at h
      refine lv_iload hx hb dX6_timesIn_6 (lv_at hl 4 rfl) ?_
      refine lv_iload_n hx hb dX6_timesIn_8 rfl (lv_at hl 1 rfl) ?_
      refine lv_icmp_gt (tgt := 39) hx hb dX6_timesIn_9 (by decide) (fun c2 => ?_) (fun c2 => ?_)
      · have h := e_t c2 h
        obtain rfl := e_s h
        exact hk6 _ _ _ (lv_sub hl [3] rfl) hP hD hS
      · have h := e_f c2 h
        refine lv_iload hx hb dX6_timesIn_12 (lv_at hl 3 rfl) ?_
        refine lv_aload_n hx hb dX6_timesIn_14 rfl (lv_at hl 0 rfl) ?_
        refine va_get (D := D) (ci := 6) (v := .ref (ad 2)) (C := RX6) (T := TX6) (N := 42) hx hb hts iX6 hown hK hP 0 rfl rfl 3 (Nat.le_of_ble_eq_true rfl) f13 (fun _ h9 => h9) rfl dX6_timesIn_15 ?_
        refine lv_iload hx hb dX6_timesIn_18 (lv_at hl 4 rfl) ?_
        obtain ⟨v3, ev3, nv3, h⟩ := e_rd h
        refine xa_iald hx hb hK hP 2 rfl nv3 ev3 dX6_timesIn_20 ?_
        refine lv_iload_n hx hb dX6_timesIn_21 rfl (lv_at hl 2 rfl) ?_
        refine lv_icmp_ne (tgt := 29) hx hb dX6_timesIn_22 (by decide) (fun c4 => ?_) (fun c4 => ?_)
        · have h := e_t c4 h
          refine lv_iconst (v := 0) hx hb dX6_timesIn_29 (by decide) ?_
          refine lv_iadd hx hb dX6_timesIn_30 ?_
          refine lv_istore (lv' := [(4, .int (x4 + 0)), (0, .ref (ad 0)), (2, .int x2), (3, .int x3), (5, .int x5)]) hx hb dX6_timesIn_31 hl (by decide) rfl (fun ls hl => ?_)
          refine lv_iinc (v := (x5 + 1)) (lv' := [(5, .int (x5 + 1)), (4, .int (x4 + 0)), (0, .ref (ad 0)), (2, .int x2), (3, .int x3)]) hx hb dX6_timesIn_33 hl (k := 4) rfl rfl (by decide) rfl (fun ls hl => ?_)
          refine lv_goto (tgt := 6) hx hb dX6_timesIn_36 (by decide) ?_
          exact ih6 x2 x3 (x4 + 0) (x5 + 1) thrown tape taped value weight many block ties lines pastValue pastWeight pastMany undos fresh newValue newWeight newMany newBlock newTies newLines hasBlock hasTies size att place sort number fault faultPlace lastFault lastPlace toValue toWeight toMany often firstOf lastOf unlikes unlikeMany isCandidate modes fewest z1 _ _ _ (lv_sub hl [2, 3, 4, 1, 0] rfl) hP hD hS h hk6
        · have h := e_f (not_not_intro c4) h
          refine lv_iconst (v := 1) hx hb dX6_timesIn_25 (by decide) ?_
          refine lv_goto (tgt := 30) hx hb dX6_timesIn_26 (by decide) ?_
          refine lv_iadd hx hb dX6_timesIn_30 ?_
          refine lv_istore (lv' := [(4, .int (x4 + 1)), (0, .ref (ad 0)), (2, .int x2), (3, .int x3), (5, .int x5)]) hx hb dX6_timesIn_31 hl (by decide) rfl (fun ls hl => ?_)
          refine lv_iinc (v := (x5 + 1)) (lv' := [(5, .int (x5 + 1)), (4, .int (x4 + 1)), (0, .ref (ad 0)), (2, .int x2), (3, .int x3)]) hx hb dX6_timesIn_33 hl (k := 4) rfl rfl (by decide) rfl (fun ls hl => ?_)
          refine lv_goto (tgt := 6) hx hb dX6_timesIn_36 (by decide) ?_
          exact ih6 x2 x3 (x4 + 1) (x5 + 1) thrown tape taped value weight many block ties lines pastValue pastWeight pastMany undos fresh newValue newWeight newMany newBlock newTies newLines hasBlock hasTies size att place sort number fault faultPlace lastFault lastPlace toValue toWeight toMany often firstOf lastOf unlikes unlikeMany isCandidate modes fewest z1 _ _ _ (lv_sub hl [2, 3, 4, 1, 0] rfl) hP hD hS h hk6
  obtain ⟨z5, ez5, h⟩ := e_b h
  refine hL6 FU x2 x3 0 x1 thrown tape taped value weight many block ties lines pastValue pastWeight pastMany undos fresh newValue newWeight newMany newBlock newTies newLines hasBlock hasTies size att place sort number fault faultPlace lastFault lastPlace toValue toWeight toMany often firstOf lastOf unlikes unlikeMany isCandidate modes fewest z5 _ _ _ (lv_sub hl [2, 4, 5, 1, 0] rfl) hP hD hS ez5 (fun ls H locs hl hP hD hS => ?_)
  refine lv_iload hx hb dX6_timesIn_39 (lv_at hl 0 rfl) ?_
  obtain rfl := e_s h
  exact hret hP hS rfl dX6_timesIn_41
set_option maxHeartbeats 4000000 in
set_option maxRecDepth 100000 in
theorem kX6_place (l : Launch) (D : va_G) (cA : Nat → ClassId) (ad : Nat → Nat) (thrown : Int32) (tape : Nat → Int32) (taped : Int32) (value : Nat → Int32) (weight : Nat → Int32) (many : Int32) (block : Int32) (ties : Int32) (lines : Int32) (pastValue : Nat → Int32) (pastWeight : Nat → Int32) (pastMany : Nat → Int32) (undos : Int32) (fresh : Int32) (newValue : Nat → Int32) (newWeight : Nat → Int32) (newMany : Int32) (newBlock : Int32) (newTies : Int32) (newLines : Int32) (hasBlock : Int32) (hasTies : Int32) (size : Int32) (att : Int32) (place : Int32) (sort : Int32) (number : Int32) (fault : Int32) (faultPlace : Int32) (lastFault : Int32) (lastPlace : Int32) (toValue : Nat → Int32) (toWeight : Nat → Int32) (toMany : Int32) (often : Nat → Int32) (firstOf : Nat → Int32) (lastOf : Nat → Int32) (unlikes : Nat → Int32) (unlikeMany : Int32) (isCandidate : Nat → Int32) (modes : Nat → Int32) (fewest : Nat → Int32) (x1 : Int32) (x2 : Int32) (q : Int32 × Int32) (h : mX6_place thrown value weight many block x1 x2 = some q) : MI l yX6_place wsX6_place { frames := 2, cells := 0, slots := 0, locals := 44 } D cA .int [.ref (ad 0), .int x1, .int x2] (wX6 cA ad thrown tape taped value weight many block ties lines pastValue pastWeight pastMany undos fresh newValue newWeight newMany newBlock newTies newLines hasBlock hasTies size att place sort number fault faultPlace lastFault lastPlace toValue toWeight toMany often firstOf lastOf unlikes unlikeMany isCandidate modes fewest) (wX6 cA ad q.2 tape taped value weight many block ties lines pastValue pastWeight pastMany undos fresh newValue newWeight newMany newBlock newTies newLines hasBlock hasTies size att place sort number fault faultPlace lastFault lastPlace toValue toWeight toMany often firstOf lastOf unlikes unlikeMany isCandidate modes fewest) q.1 := by
  refine MI.of (cc := cX6_place) (maxL := 3) (by decide +kernel) rfl rfl rfl (Nat.le_of_ble_eq_true rfl) ?_
  intro p e s m args below meth c A ls Q hx hb hml hts hown hK hP hD hA hS hl hret
  have hl : lv_has ls 3 [(0, .ref (ad 0)), (1, .int x1), (2, .int x2)] := hl
  have f13 := hts (.fieldLink RX6 13 "ModeDeskModel" "value" "[I") (by decide +kernel)
  have f16 := hts (.fieldLink RX6 16 "ModeDeskModel" "weight" "[I") (by decide +kernel)
  have f69 := hts (.fieldLink RX6 69 "ModeDeskModel" "block" "I") (by decide +kernel)
  have f72 := hts (.fieldLink RX6 72 "ModeDeskModel" "thrown" "I") (by decide +kernel)
  have iX6 : ∀ w ∈ wsX60, w ∈ wsX6_place := by decide +kernel
  unfold mX6_place at h
  refine lv_aload_n hx hb dX6_place_0 rfl (lv_at hl 0 rfl) ?_
  refine lv_iconst (v := 0) hx hb dX6_place_1 (by decide) ?_
  refine va_put (D := D) (ci := 6) (v := .int 0) (ty := .int) (C := RX6) (T := TX6) (N := 42) hx hb hts iX6 tyX6 tyX6_ok nmX6 hown hK hP hD hS 0 rfl rfl 0 (Nat.le_of_ble_eq_true rfl) f72 (fun _ h9 => h9) rfl (tyX6_ok 0 (Nat.le_of_ble_eq_true rfl)) rfl rfl (Nat.le_of_ble_eq_true rfl) dX6_place_2 (fun H locs hP hD hS => ?_)
  have hP : va_P D vwCl (wX6 cA ad 0 tape taped value weight many block ties lines pastValue pastWeight pastMany undos fresh newValue newWeight newMany newBlock newTies newLines hasBlock hasTies size att place sort number fault faultPlace lastFault lastPlace toValue toWeight toMany often firstOf lastOf unlikes unlikeMany isCandidate modes fewest) H := hP
  have hD : va_D A (wX6 cA ad 0 tape taped value weight many block ties lines pastValue pastWeight pastMany undos fresh newValue newWeight newMany newBlock newTies newLines hasBlock hasTies size att place sort number fault faultPlace lastFault lastPlace toValue toWeight toMany often firstOf lastOf unlikes unlikeMany isCandidate modes fewest) := hD
  refine lv_aload_n hx hb dX6_place_5 rfl (lv_at hl 0 rfl) ?_
  refine lv_iload_n hx hb dX6_place_6 rfl (lv_at hl 1 rfl) ?_
  obtain ⟨q1, eq1, h⟩ := e_b h
  refine xv_i0 (As := [.int x1]) (rest := []) (ci := 6) (b := ad 0) ⟨hx, hb, hml, hown, hts⟩ hl.1 (kX6_isPlace l D cA ad 0 tape taped value weight many block ties lines pastValue pastWeight pastMany undos fresh newValue newWeight newMany newBlock newTies newLines hasBlock hasTies size att place sort number fault faultPlace lastFault lastPlace toValue toWeight toMany often firstOf lastOf unlikes unlikeMany isCandidate modes fewest x1 _ eq1) (cwV 1 hts gX6_place_X6_isPlace rfl rfl rfl (by decide +kernel) ⟨Nat.le_of_ble_eq_true rfl, Nat.le_of_ble_eq_true rfl⟩) rfl hK hP hD hS hA 0 rfl rfl rfl rfl (Nat.le_of_ble_eq_true rfl) dX6_place_7 ⟨Nat.zero_le _, Nat.zero_le _⟩ (fun H locs hP hD hS hnq1 => ?_)
  have hP : va_P D vwCl (wX6 cA ad 0 tape taped value weight many block ties lines pastValue pastWeight pastMany undos fresh newValue newWeight newMany newBlock newTies newLines hasBlock hasTies size att place sort number fault faultPlace lastFault lastPlace toValue toWeight toMany often firstOf lastOf unlikes unlikeMany isCandidate modes fewest) H := hP
  have hD : va_D A (wX6 cA ad 0 tape taped value weight many block ties lines pastValue pastWeight pastMany undos fresh newValue newWeight newMany newBlock newTies newLines hasBlock hasTies size att place sort number fault faultPlace lastFault lastPlace toValue toWeight toMany often firstOf lastOf unlikes unlikeMany isCandidate modes fewest) := hD
  refine lv_if_ne (tgt := 20) hx hb dX6_place_10 (by decide) (fun c2 => ?_) (fun c2 => ?_)
  · have h := e_t c2 h
    refine lv_iload_n hx hb dX6_place_20 rfl (lv_at hl 2 rfl) ?_
    by_cases c4 : x2 = 0
    · have h := e_t c4 h
      refine lv_tableIn (off := 39) (tgt := 60) hx hb dX6_place_21 (by rw [c4]; decide) (by rw [c4]; decide) (by rw [c4]; rfl) (by decide) ?_
      refine lv_aload_n hx hb dX6_place_60 rfl (lv_at hl 0 rfl) ?_
      refine va_get (D := D) (ci := 6) (v := .ref (ad 2)) (C := RX6) (T := TX6) (N := 42) hx hb hts iX6 hown hK hP 0 rfl rfl 3 (Nat.le_of_ble_eq_true rfl) f13 (fun _ h9 => h9) rfl dX6_place_61 ?_
      refine lv_iload_n hx hb dX6_place_64 rfl (lv_at hl 1 rfl) ?_
      obtain ⟨v3, ev3, nv3, h⟩ := e_rd h
      refine xa_iald hx hb hK hP 2 rfl nv3 ev3 dX6_place_65 ?_
      obtain rfl := e_s h
      exact hret hP hS rfl dX6_place_66
    have h := e_f c4 h
    by_cases c6 : x2 = 1
    · have h := e_t c6 h
      refine lv_tableIn (off := 46) (tgt := 67) hx hb dX6_place_21 (by rw [c6]; decide) (by rw [c6]; decide) (by rw [c6]; rfl) (by decide) ?_
      refine lv_aload_n hx hb dX6_place_67 rfl (lv_at hl 0 rfl) ?_
      refine va_get (D := D) (ci := 6) (v := .ref (ad 3)) (C := RX6) (T := TX6) (N := 42) hx hb hts iX6 hown hK hP 0 rfl rfl 4 (Nat.le_of_ble_eq_true rfl) f16 (fun _ h9 => h9) rfl dX6_place_68 ?_
      refine lv_iload_n hx hb dX6_place_71 rfl (lv_at hl 1 rfl) ?_
      obtain ⟨v5, ev5, nv5, h⟩ := e_rd h
      refine xa_iald hx hb hK hP 3 rfl nv5 ev5 dX6_place_72 ?_
      obtain rfl := e_s h
      exact hret hP hS rfl dX6_place_73
    have h := e_f c6 h
    by_cases c8 : x2 = 2
    · have h := e_t c8 h
      refine lv_tableIn (off := 53) (tgt := 74) hx hb dX6_place_21 (by rw [c8]; decide) (by rw [c8]; decide) (by rw [c8]; rfl) (by decide) ?_
      refine lv_iload_n hx hb dX6_place_74 rfl (lv_at hl 1 rfl) ?_
      refine lv_aload_n hx hb dX6_place_75 rfl (lv_at hl 0 rfl) ?_
      refine va_get (D := D) (ci := 6) (v := .int block) (C := RX6) (T := TX6) (N := 42) hx hb hts iX6 hown hK hP 0 rfl rfl 6 (Nat.le_of_ble_eq_true rfl) f69 (fun _ h9 => h9) rfl dX6_place_76 ?_
      obtain ⟨v7, ev7, nv7, h⟩ := e_dv h
      refine xa_idiv hx hb dX6_place_79 nv7 ev7 ?_
      obtain rfl := e_s h
      exact hret hP hS rfl dX6_place_80
    have h := e_f c8 h
    by_cases c11 : x2 = 3
    · have h := e_t c11 h
      refine lv_tableIn (off := 60) (tgt := 81) hx hb dX6_place_21 (by rw [c11]; decide) (by rw [c11]; decide) (by rw [c11]; rfl) (by decide) ?_
      refine lv_aload_n hx hb dX6_place_81 rfl (lv_at hl 0 rfl) ?_
      refine lv_iconst (v := 0) hx hb dX6_place_82 (by decide) ?_
      refine lv_iload_n hx hb dX6_place_83 rfl (lv_at hl 1 rfl) ?_
      refine lv_iconst (v := 1) hx hb dX6_place_84 (by decide) ?_
      refine lv_isub hx hb dX6_place_85 ?_
      refine lv_aload_n hx hb dX6_place_86 rfl (lv_at hl 0 rfl) ?_
      refine va_get (D := D) (ci := 6) (v := .ref (ad 2)) (C := RX6) (T := TX6) (N := 42) hx hb hts iX6 hown hK hP 0 rfl rfl 3 (Nat.le_of_ble_eq_true rfl) f13 (fun _ h9 => h9) rfl dX6_place_87 ?_
      refine lv_iload_n hx hb dX6_place_90 rfl (lv_at hl 1 rfl) ?_
      obtain ⟨v9, ev9, nv9, h⟩ := e_rd h
      refine xa_iald hx hb hK hP 2 rfl nv9 ev9 dX6_place_91 ?_
      obtain ⟨q10, eq10, h⟩ := e_b h
      refine xv_i0 (As := [.int 0, .int (x1 - 1), .int v9]) (rest := []) (ci := 6) (b := ad 0) ⟨hx, hb, hml, hown, hts⟩ hl.1 (kX6_timesIn l D cA ad 0 tape taped value weight many block ties lines pastValue pastWeight pastMany undos fresh newValue newWeight newMany newBlock newTies newLines hasBlock hasTies size att place sort number fault faultPlace lastFault lastPlace toValue toWeight toMany often firstOf lastOf unlikes unlikeMany isCandidate modes fewest 0 (x1 - 1) v9 _ eq10) (cwV 3 hts gX6_place_X6_timesIn rfl rfl rfl (by decide +kernel) ⟨Nat.le_of_ble_eq_true rfl, Nat.le_of_ble_eq_true rfl⟩) rfl hK hP hD hS hA 0 rfl rfl rfl rfl (Nat.le_of_ble_eq_true rfl) dX6_place_92 ⟨Nat.zero_le _, Nat.zero_le _⟩ (fun H locs hP hD hS hnq10 => ?_)
      have hP : va_P D vwCl (wX6 cA ad 0 tape taped value weight many block ties lines pastValue pastWeight pastMany undos fresh newValue newWeight newMany newBlock newTies newLines hasBlock hasTies size att place sort number fault faultPlace lastFault lastPlace toValue toWeight toMany often firstOf lastOf unlikes unlikeMany isCandidate modes fewest) H := hP
      have hD : va_D A (wX6 cA ad 0 tape taped value weight many block ties lines pastValue pastWeight pastMany undos fresh newValue newWeight newMany newBlock newTies newLines hasBlock hasTies size att place sort number fault faultPlace lastFault lastPlace toValue toWeight toMany often firstOf lastOf unlikes unlikeMany isCandidate modes fewest) := hD
      obtain rfl := e_s h
      exact hret hP hS rfl dX6_place_95
    have h := e_f c11 h
    by_cases c13 : x2 = 4
    · have h := e_t c13 h
      refine lv_tableIn (off := 75) (tgt := 96) hx hb dX6_place_21 (by rw [c13]; decide) (by rw [c13]; decide) (by rw [c13]; rfl) (by decide) ?_
      refine lv_aload_n hx hb dX6_place_96 rfl (lv_at hl 0 rfl) ?_
      refine lv_iload_n hx hb dX6_place_97 rfl (lv_at hl 1 rfl) ?_
      refine lv_iconst (v := 1) hx hb dX6_place_98 (by decide) ?_
      obtain ⟨q12, eq12, h⟩ := e_b h
      refine xv_i0 (As := [.int x1, .int 1]) (rest := []) (ci := 6) (b := ad 0) ⟨hx, hb, hml, hown, hts⟩ hl.1 (kX6_nextTo l D cA ad 0 tape taped value weight many block ties lines pastValue pastWeight pastMany undos fresh newValue newWeight newMany newBlock newTies newLines hasBlock hasTies size att place sort number fault faultPlace lastFault lastPlace toValue toWeight toMany often firstOf lastOf unlikes unlikeMany isCandidate modes fewest x1 1 _ eq12) (cwV 2 hts gX6_place_X6_nextTo rfl rfl rfl (by decide +kernel) ⟨Nat.le_of_ble_eq_true rfl, Nat.le_of_ble_eq_true rfl⟩) rfl hK hP hD hS hA 0 rfl rfl rfl rfl (Nat.le_of_ble_eq_true rfl) dX6_place_99 ⟨Nat.zero_le _, Nat.zero_le _⟩ (fun H locs hP hD hS hnq12 => ?_)
      have hP : va_P D vwCl (wX6 cA ad 0 tape taped value weight many block ties lines pastValue pastWeight pastMany undos fresh newValue newWeight newMany newBlock newTies newLines hasBlock hasTies size att place sort number fault faultPlace lastFault lastPlace toValue toWeight toMany often firstOf lastOf unlikes unlikeMany isCandidate modes fewest) H := hP
      have hD : va_D A (wX6 cA ad 0 tape taped value weight many block ties lines pastValue pastWeight pastMany undos fresh newValue newWeight newMany newBlock newTies newLines hasBlock hasTies size att place sort number fault faultPlace lastFault lastPlace toValue toWeight toMany often firstOf lastOf unlikes unlikeMany isCandidate modes fewest) := hD
      obtain rfl := e_s h
      exact hret hP hS rfl dX6_place_102
    have h := e_f c13 h
    by_cases c15 : x2 = 5
    · have h := e_t c15 h
      refine lv_tableIn (off := 82) (tgt := 103) hx hb dX6_place_21 (by rw [c15]; decide) (by rw [c15]; decide) (by rw [c15]; rfl) (by decide) ?_
      refine lv_aload_n hx hb dX6_place_103 rfl (lv_at hl 0 rfl) ?_
      refine lv_iload_n hx hb dX6_place_104 rfl (lv_at hl 1 rfl) ?_
      refine lv_iconst (v := (-1)) hx hb dX6_place_105 (by decide) ?_
      obtain ⟨q14, eq14, h⟩ := e_b h
      refine xv_i0 (As := [.int x1, .int (-1)]) (rest := []) (ci := 6) (b := ad 0) ⟨hx, hb, hml, hown, hts⟩ hl.1 (kX6_nextTo l D cA ad 0 tape taped value weight many block ties lines pastValue pastWeight pastMany undos fresh newValue newWeight newMany newBlock newTies newLines hasBlock hasTies size att place sort number fault faultPlace lastFault lastPlace toValue toWeight toMany often firstOf lastOf unlikes unlikeMany isCandidate modes fewest x1 (-1) _ eq14) (cwV 2 hts gX6_place_X6_nextTo rfl rfl rfl (by decide +kernel) ⟨Nat.le_of_ble_eq_true rfl, Nat.le_of_ble_eq_true rfl⟩) rfl hK hP hD hS hA 0 rfl rfl rfl rfl (Nat.le_of_ble_eq_true rfl) dX6_place_106 ⟨Nat.zero_le _, Nat.zero_le _⟩ (fun H locs hP hD hS hnq14 => ?_)
      have hP : va_P D vwCl (wX6 cA ad 0 tape taped value weight many block ties lines pastValue pastWeight pastMany undos fresh newValue newWeight newMany newBlock newTies newLines hasBlock hasTies size att place sort number fault faultPlace lastFault lastPlace toValue toWeight toMany often firstOf lastOf unlikes unlikeMany isCandidate modes fewest) H := hP
      have hD : va_D A (wX6 cA ad 0 tape taped value weight many block ties lines pastValue pastWeight pastMany undos fresh newValue newWeight newMany newBlock newTies newLines hasBlock hasTies size att place sort number fault faultPlace lastFault lastPlace toValue toWeight toMany often firstOf lastOf unlikes unlikeMany isCandidate modes fewest) := hD
      obtain rfl := e_s h
      exact hret hP hS rfl dX6_place_109
    have h := e_f c15 h
    refine lv_tableOut (tgt := 110) hx hb dX6_place_21 (sw_out 5 (fun k hk => by match k, hk with | 0, _ => exact c4 | 1, _ => exact c6 | 2, _ => exact c8 | 3, _ => exact c11 | 4, _ => exact c13 | 5, _ => exact c15 | (n + 6), hk => exact absurd hk (by omega)) (by decide)) (by decide) ?_
    refine lv_aload_n hx hb dX6_place_110 rfl (lv_at hl 0 rfl) ?_
    refine lv_iconst (v := 2) hx hb dX6_place_111 (by decide) ?_
    refine va_put (D := D) (ci := 6) (v := .int 2) (ty := .int) (C := RX6) (T := TX6) (N := 42) hx hb hts iX6 tyX6 tyX6_ok nmX6 hown hK hP hD hS 0 rfl rfl 0 (Nat.le_of_ble_eq_true rfl) f72 (fun _ h9 => h9) rfl (tyX6_ok 0 (Nat.le_of_ble_eq_true rfl)) rfl rfl (Nat.le_of_ble_eq_true rfl) dX6_place_112 (fun H locs hP hD hS => ?_)
    have hP : va_P D vwCl (wX6 cA ad 2 tape taped value weight many block ties lines pastValue pastWeight pastMany undos fresh newValue newWeight newMany newBlock newTies newLines hasBlock hasTies size att place sort number fault faultPlace lastFault lastPlace toValue toWeight toMany often firstOf lastOf unlikes unlikeMany isCandidate modes fewest) H := hP
    have hD : va_D A (wX6 cA ad 2 tape taped value weight many block ties lines pastValue pastWeight pastMany undos fresh newValue newWeight newMany newBlock newTies newLines hasBlock hasTies size att place sort number fault faultPlace lastFault lastPlace toValue toWeight toMany often firstOf lastOf unlikes unlikeMany isCandidate modes fewest) := hD
    refine lv_iconst (v := 0) hx hb dX6_place_115 (by decide) ?_
    obtain rfl := e_s h
    exact hret hP hS rfl dX6_place_116
  · have h := e_f (not_not_intro c2) h
    refine lv_aload_n hx hb dX6_place_13 rfl (lv_at hl 0 rfl) ?_
    refine lv_iconst (v := 1) hx hb dX6_place_14 (by decide) ?_
    refine va_put (D := D) (ci := 6) (v := .int 1) (ty := .int) (C := RX6) (T := TX6) (N := 42) hx hb hts iX6 tyX6 tyX6_ok nmX6 hown hK hP hD hS 0 rfl rfl 0 (Nat.le_of_ble_eq_true rfl) f72 (fun _ h9 => h9) rfl (tyX6_ok 0 (Nat.le_of_ble_eq_true rfl)) rfl rfl (Nat.le_of_ble_eq_true rfl) dX6_place_15 (fun H locs hP hD hS => ?_)
    have hP : va_P D vwCl (wX6 cA ad 1 tape taped value weight many block ties lines pastValue pastWeight pastMany undos fresh newValue newWeight newMany newBlock newTies newLines hasBlock hasTies size att place sort number fault faultPlace lastFault lastPlace toValue toWeight toMany often firstOf lastOf unlikes unlikeMany isCandidate modes fewest) H := hP
    have hD : va_D A (wX6 cA ad 1 tape taped value weight many block ties lines pastValue pastWeight pastMany undos fresh newValue newWeight newMany newBlock newTies newLines hasBlock hasTies size att place sort number fault faultPlace lastFault lastPlace toValue toWeight toMany often firstOf lastOf unlikes unlikeMany isCandidate modes fewest) := hD
    refine lv_iconst (v := 0) hx hb dX6_place_18 (by decide) ?_
    obtain rfl := e_s h
    exact hret hP hS rfl dX6_place_19
set_option maxHeartbeats 4000000 in
set_option maxRecDepth 100000 in
theorem kX6_begins (l : Launch) (D : va_G) (cA : Nat → ClassId) (ad : Nat → Nat) (thrown : Int32) (tape : Nat → Int32) (taped : Int32) (value : Nat → Int32) (weight : Nat → Int32) (many : Int32) (block : Int32) (ties : Int32) (lines : Int32) (pastValue : Nat → Int32) (pastWeight : Nat → Int32) (pastMany : Nat → Int32) (undos : Int32) (fresh : Int32) (newValue : Nat → Int32) (newWeight : Nat → Int32) (newMany : Int32) (newBlock : Int32) (newTies : Int32) (newLines : Int32) (hasBlock : Int32) (hasTies : Int32) (size : Int32) (att : Int32) (place : Int32) (sort : Int32) (number : Int32) (fault : Int32) (faultPlace : Int32) (lastFault : Int32) (lastPlace : Int32) (toValue : Nat → Int32) (toWeight : Nat → Int32) (toMany : Int32) (often : Nat → Int32) (firstOf : Nat → Int32) (lastOf : Nat → Int32) (unlikes : Nat → Int32) (unlikeMany : Int32) (isCandidate : Nat → Int32) (modes : Nat → Int32) (fewest : Nat → Int32)  (q : (Nat → Int32) × (Nat → Int32) × Int32) (h : mX6_begins value weight many toValue toWeight toMany  = some q) : MV l yX6_begins wsX6_begins { frames := 0, cells := 0, slots := 0, locals := 0 } D cA [.ref (ad 0)] (wX6 cA ad thrown tape taped value weight many block ties lines pastValue pastWeight pastMany undos fresh newValue newWeight newMany newBlock newTies newLines hasBlock hasTies size att place sort number fault faultPlace lastFault lastPlace toValue toWeight toMany often firstOf lastOf unlikes unlikeMany isCandidate modes fewest) (wX6 cA ad thrown tape taped value weight many block ties lines pastValue pastWeight pastMany undos fresh newValue newWeight newMany newBlock newTies newLines hasBlock hasTies size att place sort number fault faultPlace lastFault lastPlace q.1 q.2.1 q.2.2 often firstOf lastOf unlikes unlikeMany isCandidate modes fewest) := by
  refine MV.of (cc := cX6_begins) (maxL := 2) (by decide) rfl rfl rfl (Nat.le_of_ble_eq_true rfl) ?_
  intro p e s m args below meth c A ls Q hx hb hml hts hown hK hP hD hA hS hl hret
  have hl : lv_has ls 2 [(0, .ref (ad 0))] := hl
  have f13 := hts (.fieldLink RX6 13 "ModeDeskModel" "value" "[I") (by decide +kernel)
  have f16 := hts (.fieldLink RX6 16 "ModeDeskModel" "weight" "[I") (by decide +kernel)
  have f175 := hts (.fieldLink RX6 175 "ModeDeskModel" "many" "I") (by decide +kernel)
  have f197 := hts (.fieldLink RX6 197 "ModeDeskModel" "toMany" "I") (by decide +kernel)
  have f41 := hts (.fieldLink RX6 41 "ModeDeskModel" "toValue" "[I") (by decide +kernel)
  have f44 := hts (.fieldLink RX6 44 "ModeDeskModel" "toWeight" "[I") (by decide +kernel)
  have iX6 : ∀ w ∈ wsX60, w ∈ wsX6_begins := by decide +kernel
  unfold mX6_begins at h
  refine lv_aload_n hx hb dX6_begins_0 rfl (lv_at hl 0 rfl) ?_
  refine lv_aload_n hx hb dX6_begins_1 rfl (lv_at hl 0 rfl) ?_
  refine va_get (D := D) (ci := 6) (v := .int many) (C := RX6) (T := TX6) (N := 42) hx hb hts iX6 hown hK hP 0 rfl rfl 5 (Nat.le_of_ble_eq_true rfl) f175 (fun _ h9 => h9) rfl dX6_begins_2 ?_
  refine va_put (D := D) (ci := 6) (v := .int many) (ty := .int) (C := RX6) (T := TX6) (N := 42) hx hb hts iX6 tyX6 tyX6_ok nmX6 hown hK hP hD hS 0 rfl rfl 33 (Nat.le_of_ble_eq_true rfl) f197 (fun _ h9 => h9) rfl (tyX6_ok 33 (Nat.le_of_ble_eq_true rfl)) rfl rfl (Nat.le_of_ble_eq_true rfl) dX6_begins_5 (fun H locs hP hD hS => ?_)
  have hP : va_P D vwCl (wX6 cA ad thrown tape taped value weight many block ties lines pastValue pastWeight pastMany undos fresh newValue newWeight newMany newBlock newTies newLines hasBlock hasTies size att place sort number fault faultPlace lastFault lastPlace toValue toWeight many often firstOf lastOf unlikes unlikeMany isCandidate modes fewest) H := hP
  have hD : va_D A (wX6 cA ad thrown tape taped value weight many block ties lines pastValue pastWeight pastMany undos fresh newValue newWeight newMany newBlock newTies newLines hasBlock hasTies size att place sort number fault faultPlace lastFault lastPlace toValue toWeight many often firstOf lastOf unlikes unlikeMany isCandidate modes fewest) := hD
  refine lv_iconst (v := 0) hx hb dX6_begins_8 (by decide) ?_
  refine lv_istore_n (lv' := [(1, .int 0), (0, .ref (ad 0))]) hx hb dX6_begins_9 rfl hl (by decide) rfl (fun ls hl => ?_)
  have hL10 : ∀ (n : Nat) (x1 : Int32) (thrown : Int32) (tape : Nat → Int32) (taped : Int32) (value : Nat → Int32) (weight : Nat → Int32) (many : Int32) (block : Int32) (ties : Int32) (lines : Int32) (pastValue : Nat → Int32) (pastWeight : Nat → Int32) (pastMany : Nat → Int32) (undos : Int32) (fresh : Int32) (newValue : Nat → Int32) (newWeight : Nat → Int32) (newMany : Int32) (newBlock : Int32) (newTies : Int32) (newLines : Int32) (hasBlock : Int32) (hasTies : Int32) (size : Int32) (att : Int32) (place : Int32) (sort : Int32) (number : Int32) (fault : Int32) (faultPlace : Int32) (lastFault : Int32) (lastPlace : Int32) (toValue : Nat → Int32) (toWeight : Nat → Int32) (toMany : Int32) (often : Nat → Int32) (firstOf : Nat → Int32) (lastOf : Nat → Int32) (unlikes : Nat → Int32) (unlikeMany : Int32) (isCandidate : Nat → Int32) (modes : Nat → Int32) (fewest : Nat → Int32) (z1 : (Nat → Int32) × (Nat → Int32)) (ls : Array Slot) (H : Heap) (locs : List Loc), lv_has ls 2 [(0, .ref (ad 0)), (1, .int x1)] → va_P D vwCl (wX6 cA ad thrown tape taped value weight many block ties lines pastValue pastWeight pastMany undos fresh newValue newWeight newMany newBlock newTies newLines hasBlock hasTies size att place sort number fault faultPlace lastFault lastPlace toValue toWeight toMany often firstOf lastOf unlikes unlikeMany isCandidate modes fewest) H → va_D A (wX6 cA ad thrown tape taped value weight many block ties lines pastValue pastWeight pastMany undos fresh newValue newWeight newMany newBlock newTies newLines hasBlock hasTies size att place sort number fault faultPlace lastFault lastPlace toValue toWeight toMany often firstOf lastOf unlikes unlikeMany isCandidate modes fewest) → va_S A s.heap H locs → mX6_begins_L10 value weight many n x1 toValue toWeight = some z1 → (∀ (ls : Array Slot) (H : Heap) (locs : List Loc), lv_has ls 2 [] → va_P D vwCl (wX6 cA ad thrown tape taped value weight many block ties lines pastValue pastWeight pastMany undos fresh newValue newWeight newMany newBlock newTies newLines hasBlock hasTies size att place sort number fault faultPlace lastFault lastPlace z1.1 z1.2 toMany often firstOf lastOf unlikes unlikeMany isCandidate modes fewest) H → va_D A (wX6 cA ad thrown tape taped value weight many block ties lines pastValue pastWeight pastMany undos fresh newValue newWeight newMany newBlock newTies newLines hasBlock hasTies size att place sort number fault faultPlace lastFault lastPlace z1.1 z1.2 toMany often firstOf lastOf unlikes unlikeMany isCandidate modes fewest) → va_S A s.heap H locs → W p l e (headSpec wsX6_begins { frames := 0, cells := 0, slots := 0, locals := 0 }).room s m args below meth c H locs 0 0 Q (F0 m 48 ls [])) → W p l e (headSpec wsX6_begins { frames := 0, cells := 0, slots := 0, locals := 0 }).room s m args below meth c H locs 0 0 Q (F0 m 10 ls []) := by
    intro n
    induction n with
    | zero => intro x1 thrown tape taped value weight many block ties lines pastValue pastWeight pastMany undos fresh newValue newWeight newMany newBlock newTies newLines hasBlock hasTies size att place sort number fault faultPlace lastFault lastPlace toValue toWeight toMany often firstOf lastOf unlikes unlikeMany isCandidate modes fewest z1 ls H locs hl hP hD hS h hk10; exact e_n h
    | succ n ih10 =>
      intro x1 thrown tape taped value weight many block ties lines pastValue pastWeight pastMany undos fresh newValue newWeight newMany newBlock newTies newLines hasBlock hasTies size att place sort number fault faultPlace lastFault lastPlace toValue toWeight toMany often firstOf lastOf unlikes unlikeMany isCandidate modes fewest z1 ls H locs hl hP hD hS h hk10
      rw [mX6_begins_L10.eq_2] at h
      refine lv_iload_n hx hb dX6_begins_10 rfl (lv_at hl 1 rfl) ?_
      refine lv_aload_n hx hb dX6_begins_11 rfl (lv_at hl 0 rfl) ?_
      refine va_get (D := D) (ci := 6) (v := .int many) (C := RX6) (T := TX6) (N := 42) hx hb hts iX6 hown hK hP 0 rfl rfl 5 (Nat.le_of_ble_eq_true rfl) f175 (fun _ h9 => h9) rfl dX6_begins_12 ?_
      refine lv_icmp_ge (tgt := 48) hx hb dX6_begins_15 (by decide) (fun c2 => ?_) (fun c2 => ?_)
      · have h := e_t c2 h
        obtain rfl := e_s h
        exact hk10 _ _ _ (lv_sub hl [] rfl) hP hD hS
      · have h := e_f c2 h
        refine lv_aload_n hx hb dX6_begins_18 rfl (lv_at hl 0 rfl) ?_
        refine va_get (D := D) (ci := 6) (v := .ref (ad 9)) (C := RX6) (T := TX6) (N := 42) hx hb hts iX6 hown hK hP 0 rfl rfl 31 (Nat.le_of_ble_eq_true rfl) f41 (fun _ h9 => h9) rfl dX6_begins_19 ?_
        refine lv_iload_n hx hb dX6_begins_22 rfl (lv_at hl 1 rfl) ?_
        refine lv_aload_n hx hb dX6_begins_23 rfl (lv_at hl 0 rfl) ?_
        refine va_get (D := D) (ci := 6) (v := .ref (ad 2)) (C := RX6) (T := TX6) (N := 42) hx hb hts iX6 hown hK hP 0 rfl rfl 3 (Nat.le_of_ble_eq_true rfl) f13 (fun _ h9 => h9) rfl dX6_begins_24 ?_
        refine lv_iload_n hx hb dX6_begins_27 rfl (lv_at hl 1 rfl) ?_
        obtain ⟨v3, ev3, nv3, h⟩ := e_rd h
        refine xa_iald hx hb hK hP 2 rfl nv3 ev3 dX6_begins_28 ?_
        obtain ⟨a4, ea4, na4, h⟩ := e_wr h
        refine xa_iast hx hb hK hP hD hS 9 rfl na4 ea4 dX6_begins_29 (fun H locs hP hD hS => ?_)
        have hP : va_P D vwCl (wX6 cA ad thrown tape taped value weight many block ties lines pastValue pastWeight pastMany undos fresh newValue newWeight newMany newBlock newTies newLines hasBlock hasTies size att place sort number fault faultPlace lastFault lastPlace a4 toWeight toMany often firstOf lastOf unlikes unlikeMany isCandidate modes fewest) H := hP
        have hD : va_D A (wX6 cA ad thrown tape taped value weight many block ties lines pastValue pastWeight pastMany undos fresh newValue newWeight newMany newBlock newTies newLines hasBlock hasTies size att place sort number fault faultPlace lastFault lastPlace a4 toWeight toMany often firstOf lastOf unlikes unlikeMany isCandidate modes fewest) := hD
        refine lv_aload_n hx hb dX6_begins_30 rfl (lv_at hl 0 rfl) ?_
        refine va_get (D := D) (ci := 6) (v := .ref (ad 10)) (C := RX6) (T := TX6) (N := 42) hx hb hts iX6 hown hK hP 0 rfl rfl 32 (Nat.le_of_ble_eq_true rfl) f44 (fun _ h9 => h9) rfl dX6_begins_31 ?_
        refine lv_iload_n hx hb dX6_begins_34 rfl (lv_at hl 1 rfl) ?_
        refine lv_aload_n hx hb dX6_begins_35 rfl (lv_at hl 0 rfl) ?_
        refine va_get (D := D) (ci := 6) (v := .ref (ad 3)) (C := RX6) (T := TX6) (N := 42) hx hb hts iX6 hown hK hP 0 rfl rfl 4 (Nat.le_of_ble_eq_true rfl) f16 (fun _ h9 => h9) rfl dX6_begins_36 ?_
        refine lv_iload_n hx hb dX6_begins_39 rfl (lv_at hl 1 rfl) ?_
        obtain ⟨v5, ev5, nv5, h⟩ := e_rd h
        refine xa_iald hx hb hK hP 3 rfl nv5 ev5 dX6_begins_40 ?_
        obtain ⟨a6, ea6, na6, h⟩ := e_wr h
        refine xa_iast hx hb hK hP hD hS 10 rfl na6 ea6 dX6_begins_41 (fun H locs hP hD hS => ?_)
        have hP : va_P D vwCl (wX6 cA ad thrown tape taped value weight many block ties lines pastValue pastWeight pastMany undos fresh newValue newWeight newMany newBlock newTies newLines hasBlock hasTies size att place sort number fault faultPlace lastFault lastPlace a4 a6 toMany often firstOf lastOf unlikes unlikeMany isCandidate modes fewest) H := hP
        have hD : va_D A (wX6 cA ad thrown tape taped value weight many block ties lines pastValue pastWeight pastMany undos fresh newValue newWeight newMany newBlock newTies newLines hasBlock hasTies size att place sort number fault faultPlace lastFault lastPlace a4 a6 toMany often firstOf lastOf unlikes unlikeMany isCandidate modes fewest) := hD
        refine lv_iinc (v := (x1 + 1)) (lv' := [(1, .int (x1 + 1)), (0, .ref (ad 0))]) hx hb dX6_begins_42 hl (k := 1) rfl rfl (by decide) rfl (fun ls hl => ?_)
        refine lv_goto (tgt := 10) hx hb dX6_begins_45 (by decide) ?_
        exact ih10 (x1 + 1) thrown tape taped value weight many block ties lines pastValue pastWeight pastMany undos fresh newValue newWeight newMany newBlock newTies newLines hasBlock hasTies size att place sort number fault faultPlace lastFault lastPlace a4 a6 toMany often firstOf lastOf unlikes unlikeMany isCandidate modes fewest z1 _ _ _ (lv_sub hl [1, 0] rfl) hP hD hS h hk10
  obtain ⟨z7, ez7, h⟩ := e_b h
  refine hL10 FU 0 thrown tape taped value weight many block ties lines pastValue pastWeight pastMany undos fresh newValue newWeight newMany newBlock newTies newLines hasBlock hasTies size att place sort number fault faultPlace lastFault lastPlace toValue toWeight many often firstOf lastOf unlikes unlikeMany isCandidate modes fewest z7 _ _ _ (lv_sub hl [1, 0] rfl) hP hD hS ez7 (fun ls H locs hl hP hD hS => ?_)
  obtain rfl := e_s h
  exact hret hP hS dX6_begins_48
set_option maxHeartbeats 4000000 in
set_option maxRecDepth 100000 in
theorem kX6_others (l : Launch) (D : va_G) (cA : Nat → ClassId) (ad : Nat → Nat) (thrown : Int32) (tape : Nat → Int32) (taped : Int32) (value : Nat → Int32) (weight : Nat → Int32) (many : Int32) (block : Int32) (ties : Int32) (lines : Int32) (pastValue : Nat → Int32) (pastWeight : Nat → Int32) (pastMany : Nat → Int32) (undos : Int32) (fresh : Int32) (newValue : Nat → Int32) (newWeight : Nat → Int32) (newMany : Int32) (newBlock : Int32) (newTies : Int32) (newLines : Int32) (hasBlock : Int32) (hasTies : Int32) (size : Int32) (att : Int32) (place : Int32) (sort : Int32) (number : Int32) (fault : Int32) (faultPlace : Int32) (lastFault : Int32) (lastPlace : Int32) (toValue : Nat → Int32) (toWeight : Nat → Int32) (toMany : Int32) (often : Nat → Int32) (firstOf : Nat → Int32) (lastOf : Nat → Int32) (unlikes : Nat → Int32) (unlikeMany : Int32) (isCandidate : Nat → Int32) (modes : Nat → Int32) (fewest : Nat → Int32)  (q : Int32) (h : mX6_others value many toValue  = some q) : MI l yX6_others wsX6_others { frames := 0, cells := 0, slots := 0, locals := 0 } D cA .int [.ref (ad 0)] (wX6 cA ad thrown tape taped value weight many block ties lines pastValue pastWeight pastMany undos fresh newValue newWeight newMany newBlock newTies newLines hasBlock hasTies size att place sort number fault faultPlace lastFault lastPlace toValue toWeight toMany often firstOf lastOf unlikes unlikeMany isCandidate modes fewest) (wX6 cA ad thrown tape taped value weight many block ties lines pastValue pastWeight pastMany undos fresh newValue newWeight newMany newBlock newTies newLines hasBlock hasTies size att place sort number fault faultPlace lastFault lastPlace toValue toWeight toMany often firstOf lastOf unlikes unlikeMany isCandidate modes fewest) q := by
  refine MI.of (cc := cX6_others) (maxL := 3) (by decide +kernel) rfl rfl rfl (Nat.le_of_ble_eq_true rfl) ?_
  intro p e s m args below meth c A ls Q hx hb hml hts hown hK hP hD hA hS hl hret
  have hl : lv_has ls 3 [(0, .ref (ad 0))] := hl
  have f13 := hts (.fieldLink RX6 13 "ModeDeskModel" "value" "[I") (by decide +kernel)
  have f175 := hts (.fieldLink RX6 175 "ModeDeskModel" "many" "I") (by decide +kernel)
  have f41 := hts (.fieldLink RX6 41 "ModeDeskModel" "toValue" "[I") (by decide +kernel)
  have iX6 : ∀ w ∈ wsX60, w ∈ wsX6_others := by decide +kernel
  unfold mX6_others at h
  refine lv_iconst (v := 0) hx hb dX6_others_0 (by decide) ?_
  refine lv_istore_n (lv' := [(1, .int 0), (0, .ref (ad 0))]) hx hb dX6_others_1 rfl hl (by decide) rfl (fun ls hl => ?_)
  refine lv_iconst (v := 0) hx hb dX6_others_2 (by decide) ?_
  refine lv_istore_n (lv' := [(2, .int 0), (1, .int 0), (0, .ref (ad 0))]) hx hb dX6_others_3 rfl hl (by decide) rfl (fun ls hl => ?_)
  have hL4 : ∀ (n : Nat) (x1 : Int32) (x2 : Int32) (thrown : Int32) (tape : Nat → Int32) (taped : Int32) (value : Nat → Int32) (weight : Nat → Int32) (many : Int32) (block : Int32) (ties : Int32) (lines : Int32) (pastValue : Nat → Int32) (pastWeight : Nat → Int32) (pastMany : Nat → Int32) (undos : Int32) (fresh : Int32) (newValue : Nat → Int32) (newWeight : Nat → Int32) (newMany : Int32) (newBlock : Int32) (newTies : Int32) (newLines : Int32) (hasBlock : Int32) (hasTies : Int32) (size : Int32) (att : Int32) (place : Int32) (sort : Int32) (number : Int32) (fault : Int32) (faultPlace : Int32) (lastFault : Int32) (lastPlace : Int32) (toValue : Nat → Int32) (toWeight : Nat → Int32) (toMany : Int32) (often : Nat → Int32) (firstOf : Nat → Int32) (lastOf : Nat → Int32) (unlikes : Nat → Int32) (unlikeMany : Int32) (isCandidate : Nat → Int32) (modes : Nat → Int32) (fewest : Nat → Int32) (z1 : Int32) (ls : Array Slot) (H : Heap) (locs : List Loc), lv_has ls 3 [(0, .ref (ad 0)), (1, .int x1), (2, .int x2)] → va_P D vwCl (wX6 cA ad thrown tape taped value weight many block ties lines pastValue pastWeight pastMany undos fresh newValue newWeight newMany newBlock newTies newLines hasBlock hasTies size att place sort number fault faultPlace lastFault lastPlace toValue toWeight toMany often firstOf lastOf unlikes unlikeMany isCandidate modes fewest) H → va_D A (wX6 cA ad thrown tape taped value weight many block ties lines pastValue pastWeight pastMany undos fresh newValue newWeight newMany newBlock newTies newLines hasBlock hasTies size att place sort number fault faultPlace lastFault lastPlace toValue toWeight toMany often firstOf lastOf unlikes unlikeMany isCandidate modes fewest) → va_S A s.heap H locs → mX6_others_L4 value many toValue n x1 x2 = some z1 → (∀ (ls : Array Slot) (H : Heap) (locs : List Loc), lv_has ls 3 [(1, .int z1)] → va_P D vwCl (wX6 cA ad thrown tape taped value weight many block ties lines pastValue pastWeight pastMany undos fresh newValue newWeight newMany newBlock newTies newLines hasBlock hasTies size att place sort number fault faultPlace lastFault lastPlace toValue toWeight toMany often firstOf lastOf unlikes unlikeMany isCandidate modes fewest) H → va_D A (wX6 cA ad thrown tape taped value weight many block ties lines pastValue pastWeight pastMany undos fresh newValue newWeight newMany newBlock newTies newLines hasBlock hasTies size att place sort number fault faultPlace lastFault lastPlace toValue toWeight toMany often firstOf lastOf unlikes unlikeMany isCandidate modes fewest) → va_S A s.heap H locs → W p l e (headSpec wsX6_others { frames := 0, cells := 0, slots := 0, locals := 0 }).room s m args below meth c H locs 0 0 Q (F0 m 41 ls [])) → W p l e (headSpec wsX6_others { frames := 0, cells := 0, slots := 0, locals := 0 }).room s m args below meth c H locs 0 0 Q (F0 m 4 ls []) := by
    intro n
    induction n with
    | zero => intro x1 x2 thrown tape taped value weight many block ties lines pastValue pastWeight pastMany undos fresh newValue newWeight newMany newBlock newTies newLines hasBlock hasTies size att place sort number fault faultPlace lastFault lastPlace toValue toWeight toMany often firstOf lastOf unlikes unlikeMany isCandidate modes fewest z1 ls H locs hl hP hD hS h hk4; exact e_n h
    | succ n ih4 =>
      intro x1 x2 thrown tape taped value weight many block ties lines pastValue pastWeight pastMany undos fresh newValue newWeight newMany newBlock newTies newLines hasBlock hasTies size att place sort number fault faultPlace lastFault lastPlace toValue toWeight toMany often firstOf lastOf unlikes unlikeMany isCandidate modes fewest z1 ls H locs hl hP hD hS h hk4
      rw [mX6_others_L4.eq_2] at h
      refine lv_iload_n hx hb dX6_others_4 rfl (lv_at hl 2 rfl) ?_
      refine lv_aload_n hx hb dX6_others_5 rfl (lv_at hl 0 rfl) ?_
      refine va_get (D := D) (ci := 6) (v := .int many) (C := RX6) (T := TX6) (N := 42) hx hb hts iX6 hown hK hP 0 rfl rfl 5 (Nat.le_of_ble_eq_true rfl) f175 (fun _ h9 => h9) rfl dX6_others_6 ?_
      refine lv_icmp_ge (tgt := 41) hx hb dX6_others_9 (by decide) (fun c2 => ?_) (fun c2 => ?_)
      · have h := e_t c2 h
        obtain rfl := e_s h
        exact hk4 _ _ _ (lv_sub hl [1] rfl) hP hD hS
      · have h := e_f c2 h
        refine lv_iload_n hx hb dX6_others_12 rfl (lv_at hl 1 rfl) ?_
        refine lv_aload_n hx hb dX6_others_13 rfl (lv_at hl 0 rfl) ?_
        refine va_get (D := D) (ci := 6) (v := .ref (ad 9)) (C := RX6) (T := TX6) (N := 42) hx hb hts iX6 hown hK hP 0 rfl rfl 31 (Nat.le_of_ble_eq_true rfl) f41 (fun _ h9 => h9) rfl dX6_others_14 ?_
        refine lv_iload_n hx hb dX6_others_17 rfl (lv_at hl 2 rfl) ?_
        obtain ⟨v3, ev3, nv3, h⟩ := e_rd h
        refine xa_iald hx hb hK hP 9 rfl nv3 ev3 dX6_others_18 ?_
        refine lv_aload_n hx hb dX6_others_19 rfl (lv_at hl 0 rfl) ?_
        refine va_get (D := D) (ci := 6) (v := .ref (ad 2)) (C := RX6) (T := TX6) (N := 42) hx hb hts iX6 hown hK hP 0 rfl rfl 3 (Nat.le_of_ble_eq_true rfl) f13 (fun _ h9 => h9) rfl dX6_others_20 ?_
        refine lv_iload_n hx hb dX6_others_23 rfl (lv_at hl 2 rfl) ?_
        obtain ⟨v4, ev4, nv4, h⟩ := e_rd h
        refine xa_iald hx hb hK hP 2 rfl nv4 ev4 dX6_others_24 ?_
        refine lv_icmp_ne (tgt := 32) hx hb dX6_others_25 (by decide) (fun c5 => ?_) (fun c5 => ?_)
        · have h := e_t c5 h
          refine lv_iconst (v := 1) hx hb dX6_others_32 (by decide) ?_
          refine lv_iadd hx hb dX6_others_33 ?_
          refine lv_istore_n (lv' := [(1, .int (x1 + 1)), (0, .ref (ad 0)), (2, .int x2)]) hx hb dX6_others_34 rfl hl (by decide) rfl (fun ls hl => ?_)
          refine lv_iinc (v := (x2 + 1)) (lv' := [(2, .int (x2 + 1)), (1, .int (x1 + 1)), (0, .ref (ad 0))]) hx hb dX6_others_35 hl (k := 2) rfl rfl (by decide) rfl (fun ls hl => ?_)
          refine lv_goto (tgt := 4) hx hb dX6_others_38 (by decide) ?_
          exact ih4 (x1 + 1) (x2 + 1) thrown tape taped value weight many block ties lines pastValue pastWeight pastMany undos fresh newValue newWeight newMany newBlock newTies newLines hasBlock hasTies size att place sort number fault faultPlace lastFault lastPlace toValue toWeight toMany often firstOf lastOf unlikes unlikeMany isCandidate modes fewest z1 _ _ _ (lv_sub hl [2, 1, 0] rfl) hP hD hS h hk4
        · have h := e_f (not_not_intro c5) h
          refine lv_iconst (v := 0) hx hb dX6_others_28 (by decide) ?_
          refine lv_goto (tgt := 33) hx hb dX6_others_29 (by decide) ?_
          refine lv_iadd hx hb dX6_others_33 ?_
          refine lv_istore_n (lv' := [(1, .int (x1 + 0)), (0, .ref (ad 0)), (2, .int x2)]) hx hb dX6_others_34 rfl hl (by decide) rfl (fun ls hl => ?_)
          refine lv_iinc (v := (x2 + 1)) (lv' := [(2, .int (x2 + 1)), (1, .int (x1 + 0)), (0, .ref (ad 0))]) hx hb dX6_others_35 hl (k := 2) rfl rfl (by decide) rfl (fun ls hl => ?_)
          refine lv_goto (tgt := 4) hx hb dX6_others_38 (by decide) ?_
          exact ih4 (x1 + 0) (x2 + 1) thrown tape taped value weight many block ties lines pastValue pastWeight pastMany undos fresh newValue newWeight newMany newBlock newTies newLines hasBlock hasTies size att place sort number fault faultPlace lastFault lastPlace toValue toWeight toMany often firstOf lastOf unlikes unlikeMany isCandidate modes fewest z1 _ _ _ (lv_sub hl [2, 1, 0] rfl) hP hD hS h hk4
  obtain ⟨z6, ez6, h⟩ := e_b h
  refine hL4 FU 0 0 thrown tape taped value weight many block ties lines pastValue pastWeight pastMany undos fresh newValue newWeight newMany newBlock newTies newLines hasBlock hasTies size att place sort number fault faultPlace lastFault lastPlace toValue toWeight toMany often firstOf lastOf unlikes unlikeMany isCandidate modes fewest z6 _ _ _ (lv_sub hl [2, 1, 0] rfl) hP hD hS ez6 (fun ls H locs hl hP hD hS => ?_)
  refine lv_iload_n hx hb dX6_others_41 rfl (lv_at hl 0 rfl) ?_
  obtain rfl := e_s h
  exact hret hP hS rfl dX6_others_42
set_option maxHeartbeats 4000000 in
set_option maxRecDepth 100000 in
theorem kX6_isOther (l : Launch) (D : va_G) (cA : Nat → ClassId) (ad : Nat → Nat) (thrown : Int32) (tape : Nat → Int32) (taped : Int32) (value : Nat → Int32) (weight : Nat → Int32) (many : Int32) (block : Int32) (ties : Int32) (lines : Int32) (pastValue : Nat → Int32) (pastWeight : Nat → Int32) (pastMany : Nat → Int32) (undos : Int32) (fresh : Int32) (newValue : Nat → Int32) (newWeight : Nat → Int32) (newMany : Int32) (newBlock : Int32) (newTies : Int32) (newLines : Int32) (hasBlock : Int32) (hasTies : Int32) (size : Int32) (att : Int32) (place : Int32) (sort : Int32) (number : Int32) (fault : Int32) (faultPlace : Int32) (lastFault : Int32) (lastPlace : Int32) (toValue : Nat → Int32) (toWeight : Nat → Int32) (toMany : Int32) (often : Nat → Int32) (firstOf : Nat → Int32) (lastOf : Nat → Int32) (unlikes : Nat → Int32) (unlikeMany : Int32) (isCandidate : Nat → Int32) (modes : Nat → Int32) (fewest : Nat → Int32)  (q : Int32) (h : mX6_isOther value weight many toValue toWeight toMany  = some q) : MI l yX6_isOther wsX6_isOther { frames := 0, cells := 0, slots := 0, locals := 0 } D cA .boolean [.ref (ad 0)] (wX6 cA ad thrown tape taped value weight many block ties lines pastValue pastWeight pastMany undos fresh newValue newWeight newMany newBlock newTies newLines hasBlock hasTies size att place sort number fault faultPlace lastFault lastPlace toValue toWeight toMany often firstOf lastOf unlikes unlikeMany isCandidate modes fewest) (wX6 cA ad thrown tape taped value weight many block ties lines pastValue pastWeight pastMany undos fresh newValue newWeight newMany newBlock newTies newLines hasBlock hasTies size att place sort number fault faultPlace lastFault lastPlace toValue toWeight toMany often firstOf lastOf unlikes unlikeMany isCandidate modes fewest) q := by
  refine MI.of (cc := cX6_isOther) (maxL := 2) (by decide +kernel) rfl rfl rfl (Nat.le_of_ble_eq_true rfl) ?_
  intro p e s m args below meth c A ls Q hx hb hml hts hown hK hP hD hA hS hl hret
  have hl : lv_has ls 2 [(0, .ref (ad 0))] := hl
  have f13 := hts (.fieldLink RX6 13 "ModeDeskModel" "value" "[I") (by decide +kernel)
  have f16 := hts (.fieldLink RX6 16 "ModeDeskModel" "weight" "[I") (by decide +kernel)
  have f175 := hts (.fieldLink RX6 175 "ModeDeskModel" "many" "I") (by decide +kernel)
  have f197 := hts (.fieldLink RX6 197 "ModeDeskModel" "toMany" "I") (by decide +kernel)
  have f41 := hts (.fieldLink RX6 41 "ModeDeskModel" "toValue" "[I") (by decide +kernel)
  have f44 := hts (.fieldLink RX6 44 "ModeDeskModel" "toWeight" "[I") (by decide +kernel)
  have iX6 : ∀ w ∈ wsX60, w ∈ wsX6_isOther := by decide +kernel
  unfold mX6_isOther at h
  refine lv_aload_n hx hb dX6_isOther_0 rfl (lv_at hl 0 rfl) ?_
  refine va_get (D := D) (ci := 6) (v := .int toMany) (C := RX6) (T := TX6) (N := 42) hx hb hts iX6 hown hK hP 0 rfl rfl 33 (Nat.le_of_ble_eq_true rfl) f197 (fun _ h9 => h9) rfl dX6_isOther_1 ?_
  refine lv_aload_n hx hb dX6_isOther_4 rfl (lv_at hl 0 rfl) ?_
  refine va_get (D := D) (ci := 6) (v := .int many) (C := RX6) (T := TX6) (N := 42) hx hb hts iX6 hown hK hP 0 rfl rfl 5 (Nat.le_of_ble_eq_true rfl) f175 (fun _ h9 => h9) rfl dX6_isOther_5 ?_
  refine lv_icmp_eq (tgt := 13) hx hb dX6_isOther_8 (by decide) (fun c1 => ?_) (fun c1 => ?_)
  · have h := e_t c1 h
    refine lv_iconst (v := 0) hx hb dX6_isOther_13 (by decide) ?_
    refine lv_istore_n (lv' := [(1, .int 0), (0, .ref (ad 0))]) hx hb dX6_isOther_14 rfl hl (by decide) rfl (fun ls hl => ?_)
    have hL15 : ∀ (n : Nat) (x1 : Int32) (ls : Array Slot) (H : Heap) (locs : List Loc), lv_has ls 2 [(0, .ref (ad 0)), (1, .int x1)] → va_P D vwCl (wX6 cA ad thrown tape taped value weight many block ties lines pastValue pastWeight pastMany undos fresh newValue newWeight newMany newBlock newTies newLines hasBlock hasTies size att place sort number fault faultPlace lastFault lastPlace toValue toWeight toMany often firstOf lastOf unlikes unlikeMany isCandidate modes fewest) H → va_D A (wX6 cA ad thrown tape taped value weight many block ties lines pastValue pastWeight pastMany undos fresh newValue newWeight newMany newBlock newTies newLines hasBlock hasTies size att place sort number fault faultPlace lastFault lastPlace toValue toWeight toMany often firstOf lastOf unlikes unlikeMany isCandidate modes fewest) → va_S A s.heap H locs → mX6_isOther_L15 value weight many toValue toWeight n x1 = some q → W p l e (headSpec wsX6_isOther { frames := 0, cells := 0, slots := 0, locals := 0 }).room s m args below meth c H locs 0 0 Q (F0 m 15 ls []) := by
      intro n
      induction n with
      | zero => intro x1 ls H locs hl hP hD hS h; exact e_n h
      | succ n ih15 =>
        intro x1 ls H locs hl hP hD hS h
        rw [mX6_isOther_L15.eq_2] at h
        refine lv_iload_n hx hb dX6_isOther_15 rfl (lv_at hl 1 rfl) ?_
        refine lv_aload_n hx hb dX6_isOther_16 rfl (lv_at hl 0 rfl) ?_
        refine va_get (D := D) (ci := 6) (v := .int many) (C := RX6) (T := TX6) (N := 42) hx hb hts iX6 hown hK hP 0 rfl rfl 5 (Nat.le_of_ble_eq_true rfl) f175 (fun _ h9 => h9) rfl dX6_isOther_17 ?_
        refine lv_icmp_ge (tgt := 61) hx hb dX6_isOther_20 (by decide) (fun c3 => ?_) (fun c3 => ?_)
        · have h := e_t c3 h
          refine lv_iconst (v := 0) hx hb dX6_isOther_61 (by decide) ?_
          obtain rfl := e_s h
          exact hret hP hS (show narrow .boolean (.int 0) = .int 0 from rfl) dX6_isOther_62
        · have h := e_f c3 h
          refine lv_aload_n hx hb dX6_isOther_23 rfl (lv_at hl 0 rfl) ?_
          refine va_get (D := D) (ci := 6) (v := .ref (ad 9)) (C := RX6) (T := TX6) (N := 42) hx hb hts iX6 hown hK hP 0 rfl rfl 31 (Nat.le_of_ble_eq_true rfl) f41 (fun _ h9 => h9) rfl dX6_isOther_24 ?_
          refine lv_iload_n hx hb dX6_isOther_27 rfl (lv_at hl 1 rfl) ?_
          obtain ⟨v4, ev4, nv4, h⟩ := e_rd h
          refine xa_iald hx hb hK hP 9 rfl nv4 ev4 dX6_isOther_28 ?_
          refine lv_aload_n hx hb dX6_isOther_29 rfl (lv_at hl 0 rfl) ?_
          refine va_get (D := D) (ci := 6) (v := .ref (ad 2)) (C := RX6) (T := TX6) (N := 42) hx hb hts iX6 hown hK hP 0 rfl rfl 3 (Nat.le_of_ble_eq_true rfl) f13 (fun _ h9 => h9) rfl dX6_isOther_30 ?_
          refine lv_iload_n hx hb dX6_isOther_33 rfl (lv_at hl 1 rfl) ?_
          obtain ⟨v5, ev5, nv5, h⟩ := e_rd h
          refine xa_iald hx hb hK hP 2 rfl nv5 ev5 dX6_isOther_34 ?_
          refine lv_icmp_ne (tgt := 53) hx hb dX6_isOther_35 (by decide) (fun c6 => ?_) (fun c6 => ?_)
          · have h := e_t c6 h
            refine lv_iconst (v := 1) hx hb dX6_isOther_53 (by decide) ?_
            obtain rfl := e_s h
            exact hret hP hS (show narrow .boolean (.int 1) = .int 1 from rfl) dX6_isOther_54
          · have h := e_f (not_not_intro c6) h
            refine lv_aload_n hx hb dX6_isOther_38 rfl (lv_at hl 0 rfl) ?_
            refine va_get (D := D) (ci := 6) (v := .ref (ad 10)) (C := RX6) (T := TX6) (N := 42) hx hb hts iX6 hown hK hP 0 rfl rfl 32 (Nat.le_of_ble_eq_true rfl) f44 (fun _ h9 => h9) rfl dX6_isOther_39 ?_
            refine lv_iload_n hx hb dX6_isOther_42 rfl (lv_at hl 1 rfl) ?_
            obtain ⟨v7, ev7, nv7, h⟩ := e_rd h
            refine xa_iald hx hb hK hP 10 rfl nv7 ev7 dX6_isOther_43 ?_
            refine lv_aload_n hx hb dX6_isOther_44 rfl (lv_at hl 0 rfl) ?_
            refine va_get (D := D) (ci := 6) (v := .ref (ad 3)) (C := RX6) (T := TX6) (N := 42) hx hb hts iX6 hown hK hP 0 rfl rfl 4 (Nat.le_of_ble_eq_true rfl) f16 (fun _ h9 => h9) rfl dX6_isOther_45 ?_
            refine lv_iload_n hx hb dX6_isOther_48 rfl (lv_at hl 1 rfl) ?_
            obtain ⟨v8, ev8, nv8, h⟩ := e_rd h
            refine xa_iald hx hb hK hP 3 rfl nv8 ev8 dX6_isOther_49 ?_
            refine lv_icmp_eq (tgt := 55) hx hb dX6_isOther_50 (by decide) (fun c9 => ?_) (fun c9 => ?_)
            · have h := e_t c9 h
              refine lv_iinc (v := (x1 + 1)) (lv' := [(1, .int (x1 + 1)), (0, .ref (ad 0))]) hx hb dX6_isOther_55 hl (k := 1) rfl rfl (by decide) rfl (fun ls hl => ?_)
              refine lv_goto (tgt := 15) hx hb dX6_isOther_58 (by decide) ?_
              exact ih15 (x1 + 1) _ _ _ (lv_sub hl [1, 0] rfl) hP hD hS h
            · have h := e_f c9 h
              refine lv_iconst (v := 1) hx hb dX6_isOther_53 (by decide) ?_
              obtain rfl := e_s h
              exact hret hP hS (show narrow .boolean (.int 1) = .int 1 from rfl) dX6_isOther_54
    exact hL15 FU 0 _ _ _ (lv_sub hl [1, 0] rfl) hP hD hS h
  · have h := e_f c1 h
    refine lv_iconst (v := 1) hx hb dX6_isOther_11 (by decide) ?_
    obtain rfl := e_s h
    exact hret hP hS (show narrow .boolean (.int 1) = .int 1 from rfl) dX6_isOther_12
set_option maxHeartbeats 4000000 in
set_option maxRecDepth 100000 in
theorem kX6_placesOf (l : Launch) (D : va_G) (cA : Nat → ClassId) (ad : Nat → Nat) (thrown : Int32) (tape : Nat → Int32) (taped : Int32) (value : Nat → Int32) (weight : Nat → Int32) (many : Int32) (block : Int32) (ties : Int32) (lines : Int32) (pastValue : Nat → Int32) (pastWeight : Nat → Int32) (pastMany : Nat → Int32) (undos : Int32) (fresh : Int32) (newValue : Nat → Int32) (newWeight : Nat → Int32) (newMany : Int32) (newBlock : Int32) (newTies : Int32) (newLines : Int32) (hasBlock : Int32) (hasTies : Int32) (size : Int32) (att : Int32) (place : Int32) (sort : Int32) (number : Int32) (fault : Int32) (faultPlace : Int32) (lastFault : Int32) (lastPlace : Int32) (toValue : Nat → Int32) (toWeight : Nat → Int32) (toMany : Int32) (often : Nat → Int32) (firstOf : Nat → Int32) (lastOf : Nat → Int32) (unlikes : Nat → Int32) (unlikeMany : Int32) (isCandidate : Nat → Int32) (modes : Nat → Int32) (fewest : Nat → Int32) (x1 : Int32) (x2 : Int32) (q : Int32) (h : mX6_placesOf block x1 x2 = some q) : MI l yX6_placesOf wsX6_placesOf { frames := 0, cells := 0, slots := 0, locals := 0 } D cA .int [.ref (ad 0), .int x1, .int x2] (wX6 cA ad thrown tape taped value weight many block ties lines pastValue pastWeight pastMany undos fresh newValue newWeight newMany newBlock newTies newLines hasBlock hasTies size att place sort number fault faultPlace lastFault lastPlace toValue toWeight toMany often firstOf lastOf unlikes unlikeMany isCandidate modes fewest) (wX6 cA ad thrown tape taped value weight many block ties lines pastValue pastWeight pastMany undos fresh newValue newWeight newMany newBlock newTies newLines hasBlock hasTies size att place sort number fault faultPlace lastFault lastPlace toValue toWeight toMany often firstOf lastOf unlikes unlikeMany isCandidate modes fewest) q := by
  refine MI.of (cc := cX6_placesOf) (maxL := 4) (by decide +kernel) rfl rfl rfl (Nat.le_of_ble_eq_true rfl) ?_
  intro p e s m args below meth c A ls Q hx hb hml hts hown hK hP hD hA hS hl hret
  have hl : lv_has ls 4 [(0, .ref (ad 0)), (1, .int x1), (2, .int x2)] := hl
  have f69 := hts (.fieldLink RX6 69 "ModeDeskModel" "block" "I") (by decide +kernel)
  have iX6 : ∀ w ∈ wsX60, w ∈ wsX6_placesOf := by decide +kernel
  unfold mX6_placesOf at h
  refine lv_iload_n hx hb dX6_placesOf_0 rfl (lv_at hl 2 rfl) ?_
  refine lv_aload_n hx hb dX6_placesOf_1 rfl (lv_at hl 0 rfl) ?_
  refine va_get (D := D) (ci := 6) (v := .int block) (C := RX6) (T := TX6) (N := 42) hx hb hts iX6 hown hK hP 0 rfl rfl 6 (Nat.le_of_ble_eq_true rfl) f69 (fun _ h9 => h9) rfl dX6_placesOf_2 ?_
  refine lv_iload_n hx hb dX6_placesOf_5 rfl (lv_at hl 1 rfl) ?_
  refine lv_imul hx hb dX6_placesOf_6 ?_
  refine lv_isub hx hb dX6_placesOf_7 ?_
  refine lv_istore_n (lv' := [(3, .int (x2 - (block * x1))), (0, .ref (ad 0)), (1, .int x1), (2, .int x2)]) hx hb dX6_placesOf_8 rfl hl (by decide) rfl (fun ls hl => ?_)
  refine lv_iload_n hx hb dX6_placesOf_9 rfl (lv_at hl 0 rfl) ?_
  refine lv_aload_n hx hb dX6_placesOf_10 rfl (lv_at hl 1 rfl) ?_
  refine va_get (D := D) (ci := 6) (v := .int block) (C := RX6) (T := TX6) (N := 42) hx hb hts iX6 hown hK hP 0 rfl rfl 6 (Nat.le_of_ble_eq_true rfl) f69 (fun _ h9 => h9) rfl dX6_placesOf_11 ?_
  refine lv_icmp_le (tgt := 24) hx hb dX6_placesOf_14 (by decide) (fun c1 => ?_) (fun c1 => ?_)
  · have h := e_t c1 h
    refine lv_iload_n hx hb dX6_placesOf_24 rfl (lv_at hl 0 rfl) ?_
    refine lv_if_ge (tgt := 32) hx hb dX6_placesOf_25 (by decide) (fun c2 => ?_) (fun c2 => ?_)
    · have h := e_t c2 h
      refine lv_iload_n hx hb dX6_placesOf_32 rfl (lv_at hl 0 rfl) ?_
      obtain rfl := e_s h
      exact hret hP hS rfl dX6_placesOf_33
    · have h := e_f c2 h
      refine lv_iconst (v := 0) hx hb dX6_placesOf_28 (by decide) ?_
      refine lv_goto (tgt := 33) hx hb dX6_placesOf_29 (by decide) ?_
      obtain rfl := e_s h
      exact hret hP hS rfl dX6_placesOf_33
  · have h := e_f c1 h
    refine lv_aload_n hx hb dX6_placesOf_17 rfl (lv_at hl 1 rfl) ?_
    refine va_get (D := D) (ci := 6) (v := .int block) (C := RX6) (T := TX6) (N := 42) hx hb hts iX6 hown hK hP 0 rfl rfl 6 (Nat.le_of_ble_eq_true rfl) f69 (fun _ h9 => h9) rfl dX6_placesOf_18 ?_
    refine lv_goto (tgt := 33) hx hb dX6_placesOf_21 (by decide) ?_
    obtain rfl := e_s h
    exact hret hP hS rfl dX6_placesOf_33
set_option maxHeartbeats 4000000 in
set_option maxRecDepth 100000 in
theorem kX6_isFresh (l : Launch) (D : va_G) (cA : Nat → ClassId) (ad : Nat → Nat) (thrown : Int32) (tape : Nat → Int32) (taped : Int32) (value : Nat → Int32) (weight : Nat → Int32) (many : Int32) (block : Int32) (ties : Int32) (lines : Int32) (pastValue : Nat → Int32) (pastWeight : Nat → Int32) (pastMany : Nat → Int32) (undos : Int32) (fresh : Int32) (newValue : Nat → Int32) (newWeight : Nat → Int32) (newMany : Int32) (newBlock : Int32) (newTies : Int32) (newLines : Int32) (hasBlock : Int32) (hasTies : Int32) (size : Int32) (att : Int32) (place : Int32) (sort : Int32) (number : Int32) (fault : Int32) (faultPlace : Int32) (lastFault : Int32) (lastPlace : Int32) (toValue : Nat → Int32) (toWeight : Nat → Int32) (toMany : Int32) (often : Nat → Int32) (firstOf : Nat → Int32) (lastOf : Nat → Int32) (unlikes : Nat → Int32) (unlikeMany : Int32) (isCandidate : Nat → Int32) (modes : Nat → Int32) (fewest : Nat → Int32) (x1 : Int32) (q : Int32) (h : mX6_isFresh value many block toValue toMany x1 = some q) : MI l yX6_isFresh wsX6_isFresh { frames := 1, cells := 0, slots := 0, locals := 23 } D cA .boolean [.ref (ad 0), .int x1] (wX6 cA ad thrown tape taped value weight many block ties lines pastValue pastWeight pastMany undos fresh newValue newWeight newMany newBlock newTies newLines hasBlock hasTies size att place sort number fault faultPlace lastFault lastPlace toValue toWeight toMany often firstOf lastOf unlikes unlikeMany isCandidate modes fewest) (wX6 cA ad thrown tape taped value weight many block ties lines pastValue pastWeight pastMany undos fresh newValue newWeight newMany newBlock newTies newLines hasBlock hasTies size att place sort number fault faultPlace lastFault lastPlace toValue toWeight toMany often firstOf lastOf unlikes unlikeMany isCandidate modes fewest) q := by
  refine MI.of (cc := cX6_isFresh) (maxL := 3) (by decide +kernel) rfl rfl rfl (Nat.le_of_ble_eq_true rfl) ?_
  intro p e s m args below meth c A ls Q hx hb hml hts hown hK hP hD hA hS hl hret
  have hl : lv_has ls 3 [(0, .ref (ad 0)), (1, .int x1)] := hl
  have f13 := hts (.fieldLink RX6 13 "ModeDeskModel" "value" "[I") (by decide +kernel)
  have f175 := hts (.fieldLink RX6 175 "ModeDeskModel" "many" "I") (by decide +kernel)
  have f197 := hts (.fieldLink RX6 197 "ModeDeskModel" "toMany" "I") (by decide +kernel)
  have f41 := hts (.fieldLink RX6 41 "ModeDeskModel" "toValue" "[I") (by decide +kernel)
  have f69 := hts (.fieldLink RX6 69 "ModeDeskModel" "block" "I") (by decide +kernel)
  have iX6 : ∀ w ∈ wsX60, w ∈ wsX6_isFresh := by decide +kernel
  unfold mX6_isFresh at h
  refine lv_aload_n hx hb dX6_isFresh_0 rfl (lv_at hl 0 rfl) ?_
  refine lv_iload_n hx hb dX6_isFresh_1 rfl (lv_at hl 1 rfl) ?_
  refine lv_aload_n hx hb dX6_isFresh_2 rfl (lv_at hl 0 rfl) ?_
  refine va_get (D := D) (ci := 6) (v := .int toMany) (C := RX6) (T := TX6) (N := 42) hx hb hts iX6 hown hK hP 0 rfl rfl 33 (Nat.le_of_ble_eq_true rfl) f197 (fun _ h9 => h9) rfl dX6_isFresh_3 ?_
  obtain ⟨q1, eq1, h⟩ := e_b h
  refine xv_i0 (As := [.int x1, .int toMany]) (rest := []) (ci := 6) (b := ad 0) ⟨hx, hb, hml, hown, hts⟩ hl.1 (kX6_placesOf l D cA ad thrown tape taped value weight many block ties lines pastValue pastWeight pastMany undos fresh newValue newWeight newMany newBlock newTies newLines hasBlock hasTies size att place sort number fault faultPlace lastFault lastPlace toValue toWeight toMany often firstOf lastOf unlikes unlikeMany isCandidate modes fewest x1 toMany _ eq1) (cwV 2 hts gX6_isFresh_X6_placesOf rfl rfl rfl (by decide +kernel) ⟨Nat.le_of_ble_eq_true rfl, Nat.le_of_ble_eq_true rfl⟩) rfl hK hP hD hS hA 0 rfl rfl rfl rfl (Nat.le_of_ble_eq_true rfl) dX6_isFresh_6 ⟨Nat.zero_le _, Nat.zero_le _⟩ (fun H locs hP hD hS hnq1 => ?_)
  have hP : va_P D vwCl (wX6 cA ad thrown tape taped value weight many block ties lines pastValue pastWeight pastMany undos fresh newValue newWeight newMany newBlock newTies newLines hasBlock hasTies size att place sort number fault faultPlace lastFault lastPlace toValue toWeight toMany often firstOf lastOf unlikes unlikeMany isCandidate modes fewest) H := hP
  have hD : va_D A (wX6 cA ad thrown tape taped value weight many block ties lines pastValue pastWeight pastMany undos fresh newValue newWeight newMany newBlock newTies newLines hasBlock hasTies size att place sort number fault faultPlace lastFault lastPlace toValue toWeight toMany often firstOf lastOf unlikes unlikeMany isCandidate modes fewest) := hD
  refine lv_aload_n hx hb dX6_isFresh_9 rfl (lv_at hl 0 rfl) ?_
  refine lv_iload_n hx hb dX6_isFresh_10 rfl (lv_at hl 1 rfl) ?_
  refine lv_aload_n hx hb dX6_isFresh_11 rfl (lv_at hl 0 rfl) ?_
  refine va_get (D := D) (ci := 6) (v := .int many) (C := RX6) (T := TX6) (N := 42) hx hb hts iX6 hown hK hP 0 rfl rfl 5 (Nat.le_of_ble_eq_true rfl) f175 (fun _ h9 => h9) rfl dX6_isFresh_12 ?_
  obtain ⟨q2, eq2, h⟩ := e_b h
  refine xv_i0 (As := [.int x1, .int many]) (rest := [.int q1]) (ci := 6) (b := ad 0) ⟨hx, hb, hml, hown, hts⟩ hl.1 (kX6_placesOf l D cA ad thrown tape taped value weight many block ties lines pastValue pastWeight pastMany undos fresh newValue newWeight newMany newBlock newTies newLines hasBlock hasTies size att place sort number fault faultPlace lastFault lastPlace toValue toWeight toMany often firstOf lastOf unlikes unlikeMany isCandidate modes fewest x1 many _ eq2) (cwV 2 hts gX6_isFresh_X6_placesOf rfl rfl rfl (by decide +kernel) ⟨Nat.le_of_ble_eq_true rfl, Nat.le_of_ble_eq_true rfl⟩) rfl hK hP hD hS hA 0 rfl rfl rfl rfl (Nat.le_of_ble_eq_true rfl) dX6_isFresh_15 ⟨Nat.zero_le _, Nat.zero_le _⟩ (fun H locs hP hD hS hnq2 => ?_)
  have hP : va_P D vwCl (wX6 cA ad thrown tape taped value weight many block ties lines pastValue pastWeight pastMany undos fresh newValue newWeight newMany newBlock newTies newLines hasBlock hasTies size att place sort number fault faultPlace lastFault lastPlace toValue toWeight toMany often firstOf lastOf unlikes unlikeMany isCandidate modes fewest) H := hP
  have hD : va_D A (wX6 cA ad thrown tape taped value weight many block ties lines pastValue pastWeight pastMany undos fresh newValue newWeight newMany newBlock newTies newLines hasBlock hasTies size att place sort number fault faultPlace lastFault lastPlace toValue toWeight toMany often firstOf lastOf unlikes unlikeMany isCandidate modes fewest) := hD
  refine lv_icmp_ge (tgt := 23) hx hb dX6_isFresh_18 (by decide) (fun c3 => ?_) (fun c3 => ?_)
  · have h := e_t c3 h
    refine lv_aload_n hx hb dX6_isFresh_23 rfl (lv_at hl 0 rfl) ?_
    refine va_get (D := D) (ci := 6) (v := .int block) (C := RX6) (T := TX6) (N := 42) hx hb hts iX6 hown hK hP 0 rfl rfl 6 (Nat.le_of_ble_eq_true rfl) f69 (fun _ h9 => h9) rfl dX6_isFresh_24 ?_
    refine lv_iload_n hx hb dX6_isFresh_27 rfl (lv_at hl 1 rfl) ?_
    refine lv_imul hx hb dX6_isFresh_28 ?_
    refine lv_istore_n (lv' := [(2, .int (block * x1)), (0, .ref (ad 0)), (1, .int x1)]) hx hb dX6_isFresh_29 rfl hl (by decide) rfl (fun ls hl => ?_)
    have hL30 : ∀ (n : Nat) (x1 : Int32) (x2 : Int32) (ls : Array Slot) (H : Heap) (locs : List Loc), lv_has ls 3 [(0, .ref (ad 0)), (1, .int x1), (2, .int x2)] → va_P D vwCl (wX6 cA ad thrown tape taped value weight many block ties lines pastValue pastWeight pastMany undos fresh newValue newWeight newMany newBlock newTies newLines hasBlock hasTies size att place sort number fault faultPlace lastFault lastPlace toValue toWeight toMany often firstOf lastOf unlikes unlikeMany isCandidate modes fewest) H → va_D A (wX6 cA ad thrown tape taped value weight many block ties lines pastValue pastWeight pastMany undos fresh newValue newWeight newMany newBlock newTies newLines hasBlock hasTies size att place sort number fault faultPlace lastFault lastPlace toValue toWeight toMany often firstOf lastOf unlikes unlikeMany isCandidate modes fewest) → va_S A s.heap H locs → mX6_isFresh_L30 value many block toValue toMany x1 n x2 = some q → W p l e (headSpec wsX6_isFresh { frames := 1, cells := 0, slots := 0, locals := 23 }).room s m args below meth c H locs 0 0 Q (F0 m 30 ls []) := by
      intro n
      induction n with
      | zero => intro x1 x2 ls H locs hl hP hD hS h; exact e_n h
      | succ n ih30 =>
        intro x1 x2 ls H locs hl hP hD hS h
        rw [mX6_isFresh_L30.eq_2] at h
        refine lv_iload_n hx hb dX6_isFresh_30 rfl (lv_at hl 2 rfl) ?_
        refine lv_aload_n hx hb dX6_isFresh_31 rfl (lv_at hl 0 rfl) ?_
        refine va_get (D := D) (ci := 6) (v := .int block) (C := RX6) (T := TX6) (N := 42) hx hb hts iX6 hown hK hP 0 rfl rfl 6 (Nat.le_of_ble_eq_true rfl) f69 (fun _ h9 => h9) rfl dX6_isFresh_32 ?_
        refine lv_iload_n hx hb dX6_isFresh_35 rfl (lv_at hl 1 rfl) ?_
        refine lv_imul hx hb dX6_isFresh_36 ?_
        refine lv_aload_n hx hb dX6_isFresh_37 rfl (lv_at hl 0 rfl) ?_
        refine va_get (D := D) (ci := 6) (v := .int block) (C := RX6) (T := TX6) (N := 42) hx hb hts iX6 hown hK hP 0 rfl rfl 6 (Nat.le_of_ble_eq_true rfl) f69 (fun _ h9 => h9) rfl dX6_isFresh_38 ?_
        refine lv_iadd hx hb dX6_isFresh_41 ?_
        refine lv_icmp_ge (tgt := 84) hx hb dX6_isFresh_42 (by decide) (fun c5 => ?_) (fun c5 => ?_)
        · have h := e_t c5 h
          refine lv_iconst (v := 0) hx hb dX6_isFresh_84 (by decide) ?_
          obtain rfl := e_s h
          exact hret hP hS (show narrow .boolean (.int 0) = .int 0 from rfl) dX6_isFresh_85
        · have h := e_f c5 h
          refine lv_iload_n hx hb dX6_isFresh_45 rfl (lv_at hl 2 rfl) ?_
          refine lv_aload_n hx hb dX6_isFresh_46 rfl (lv_at hl 0 rfl) ?_
          refine va_get (D := D) (ci := 6) (v := .int toMany) (C := RX6) (T := TX6) (N := 42) hx hb hts iX6 hown hK hP 0 rfl rfl 33 (Nat.le_of_ble_eq_true rfl) f197 (fun _ h9 => h9) rfl dX6_isFresh_47 ?_
          refine lv_icmp_ge (tgt := 84) hx hb dX6_isFresh_50 (by decide) (fun c6 => ?_) (fun c6 => ?_)
          · have h := e_t c6 h
            refine lv_iconst (v := 0) hx hb dX6_isFresh_84 (by decide) ?_
            obtain rfl := e_s h
            exact hret hP hS (show narrow .boolean (.int 0) = .int 0 from rfl) dX6_isFresh_85
          · have h := e_f c6 h
            refine lv_iload_n hx hb dX6_isFresh_53 rfl (lv_at hl 2 rfl) ?_
            refine lv_aload_n hx hb dX6_isFresh_54 rfl (lv_at hl 0 rfl) ?_
            refine va_get (D := D) (ci := 6) (v := .int many) (C := RX6) (T := TX6) (N := 42) hx hb hts iX6 hown hK hP 0 rfl rfl 5 (Nat.le_of_ble_eq_true rfl) f175 (fun _ h9 => h9) rfl dX6_isFresh_55 ?_
            refine lv_icmp_ge (tgt := 76) hx hb dX6_isFresh_58 (by decide) (fun c7 => ?_) (fun c7 => ?_)
            · have h := e_t c7 h
              refine lv_iconst (v := 1) hx hb dX6_isFresh_76 (by decide) ?_
              obtain rfl := e_s h
              exact hret hP hS (show narrow .boolean (.int 1) = .int 1 from rfl) dX6_isFresh_77
            · have h := e_f c7 h
              refine lv_aload_n hx hb dX6_isFresh_61 rfl (lv_at hl 0 rfl) ?_
              refine va_get (D := D) (ci := 6) (v := .ref (ad 9)) (C := RX6) (T := TX6) (N := 42) hx hb hts iX6 hown hK hP 0 rfl rfl 31 (Nat.le_of_ble_eq_true rfl) f41 (fun _ h9 => h9) rfl dX6_isFresh_62 ?_
              refine lv_iload_n hx hb dX6_isFresh_65 rfl (lv_at hl 2 rfl) ?_
              obtain ⟨v8, ev8, nv8, h⟩ := e_rd h
              refine xa_iald hx hb hK hP 9 rfl nv8 ev8 dX6_isFresh_66 ?_
              refine lv_aload_n hx hb dX6_isFresh_67 rfl (lv_at hl 0 rfl) ?_
              refine va_get (D := D) (ci := 6) (v := .ref (ad 2)) (C := RX6) (T := TX6) (N := 42) hx hb hts iX6 hown hK hP 0 rfl rfl 3 (Nat.le_of_ble_eq_true rfl) f13 (fun _ h9 => h9) rfl dX6_isFresh_68 ?_
              refine lv_iload_n hx hb dX6_isFresh_71 rfl (lv_at hl 2 rfl) ?_
              obtain ⟨v9, ev9, nv9, h⟩ := e_rd h
              refine xa_iald hx hb hK hP 2 rfl nv9 ev9 dX6_isFresh_72 ?_
              refine lv_icmp_eq (tgt := 78) hx hb dX6_isFresh_73 (by decide) (fun c10 => ?_) (fun c10 => ?_)
              · have h := e_t c10 h
                refine lv_iinc (v := (x2 + 1)) (lv' := [(2, .int (x2 + 1)), (0, .ref (ad 0)), (1, .int x1)]) hx hb dX6_isFresh_78 hl (k := 2) rfl rfl (by decide) rfl (fun ls hl => ?_)
                refine lv_goto (tgt := 30) hx hb dX6_isFresh_81 (by decide) ?_
                exact ih30 x1 (x2 + 1) _ _ _ (lv_sub hl [1, 2, 0] rfl) hP hD hS h
              · have h := e_f c10 h
                refine lv_iconst (v := 1) hx hb dX6_isFresh_76 (by decide) ?_
                obtain rfl := e_s h
                exact hret hP hS (show narrow .boolean (.int 1) = .int 1 from rfl) dX6_isFresh_77
    exact hL30 FU x1 (block * x1) _ _ _ (lv_sub hl [1, 2, 0] rfl) hP hD hS h
  · have h := e_f c3 h
    refine lv_iconst (v := 1) hx hb dX6_isFresh_21 (by decide) ?_
    obtain rfl := e_s h
    exact hret hP hS (show narrow .boolean (.int 1) = .int 1 from rfl) dX6_isFresh_22
set_option maxHeartbeats 4000000 in
set_option maxRecDepth 100000 in
theorem kX6_freshPairs (l : Launch) (D : va_G) (cA : Nat → ClassId) (ad : Nat → Nat) (thrown : Int32) (tape : Nat → Int32) (taped : Int32) (value : Nat → Int32) (weight : Nat → Int32) (many : Int32) (block : Int32) (ties : Int32) (lines : Int32) (pastValue : Nat → Int32) (pastWeight : Nat → Int32) (pastMany : Nat → Int32) (undos : Int32) (fresh : Int32) (newValue : Nat → Int32) (newWeight : Nat → Int32) (newMany : Int32) (newBlock : Int32) (newTies : Int32) (newLines : Int32) (hasBlock : Int32) (hasTies : Int32) (size : Int32) (att : Int32) (place : Int32) (sort : Int32) (number : Int32) (fault : Int32) (faultPlace : Int32) (lastFault : Int32) (lastPlace : Int32) (toValue : Nat → Int32) (toWeight : Nat → Int32) (toMany : Int32) (often : Nat → Int32) (firstOf : Nat → Int32) (lastOf : Nat → Int32) (unlikes : Nat → Int32) (unlikeMany : Int32) (isCandidate : Nat → Int32) (modes : Nat → Int32) (fewest : Nat → Int32)  (q : Int32) (h : mX6_freshPairs value many block toValue toMany  = some q) : MI l yX6_freshPairs wsX6_freshPairs { frames := 2, cells := 0, slots := 0, locals := 45 } D cA .int [.ref (ad 0)] (wX6 cA ad thrown tape taped value weight many block ties lines pastValue pastWeight pastMany undos fresh newValue newWeight newMany newBlock newTies newLines hasBlock hasTies size att place sort number fault faultPlace lastFault lastPlace toValue toWeight toMany often firstOf lastOf unlikes unlikeMany isCandidate modes fewest) (wX6 cA ad thrown tape taped value weight many block ties lines pastValue pastWeight pastMany undos fresh newValue newWeight newMany newBlock newTies newLines hasBlock hasTies size att place sort number fault faultPlace lastFault lastPlace toValue toWeight toMany often firstOf lastOf unlikes unlikeMany isCandidate modes fewest) q := by
  refine MI.of (cc := cX6_freshPairs) (maxL := 6) (by decide +kernel) rfl rfl rfl (Nat.le_of_ble_eq_true rfl) ?_
  intro p e s m args below meth c A ls Q hx hb hml hts hown hK hP hD hA hS hl hret
  have hl : lv_has ls 6 [(0, .ref (ad 0))] := hl
  have f197 := hts (.fieldLink RX6 197 "ModeDeskModel" "toMany" "I") (by decide +kernel)
  have f69 := hts (.fieldLink RX6 69 "ModeDeskModel" "block" "I") (by decide +kernel)
  have iX6 : ∀ w ∈ wsX60, w ∈ wsX6_freshPairs := by decide +kernel
  unfold mX6_freshPairs at h
  refine lv_aload_n hx hb dX6_freshPairs_0 rfl (lv_at hl 0 rfl) ?_
  refine va_get (D := D) (ci := 6) (v := .int toMany) (C := RX6) (T := TX6) (N := 42) hx hb hts iX6 hown hK hP 0 rfl rfl 33 (Nat.le_of_ble_eq_true rfl) f197 (fun _ h9 => h9) rfl dX6_freshPairs_1 ?_
  refine lv_aload_n hx hb dX6_freshPairs_4 rfl (lv_at hl 0 rfl) ?_
  refine va_get (D := D) (ci := 6) (v := .int block) (C := RX6) (T := TX6) (N := 42) hx hb hts iX6 hown hK hP 0 rfl rfl 6 (Nat.le_of_ble_eq_true rfl) f69 (fun _ h9 => h9) rfl dX6_freshPairs_5 ?_
  refine lv_iadd hx hb dX6_freshPairs_8 ?_
  refine lv_iconst (v := 1) hx hb dX6_freshPairs_9 (by decide) ?_
  refine lv_isub hx hb dX6_freshPairs_10 ?_
  refine lv_aload_n hx hb dX6_freshPairs_11 rfl (lv_at hl 0 rfl) ?_
  refine va_get (D := D) (ci := 6) (v := .int block) (C := RX6) (T := TX6) (N := 42) hx hb hts iX6 hown hK hP 0 rfl rfl 6 (Nat.le_of_ble_eq_true rfl) f69 (fun _ h9 => h9) rfl dX6_freshPairs_12 ?_
  obtain ⟨v1, ev1, nv1, h⟩ := e_dv h
  refine xa_idiv hx hb dX6_freshPairs_15 nv1 ev1 ?_
  refine lv_istore_n (lv' := [(1, .int v1), (0, .ref (ad 0))]) hx hb dX6_freshPairs_16 rfl hl (by decide) rfl (fun ls hl => ?_)
  refine lv_iconst (v := 0) hx hb dX6_freshPairs_17 (by decide) ?_
  refine lv_istore_n (lv' := [(2, .int 0), (1, .int v1), (0, .ref (ad 0))]) hx hb dX6_freshPairs_18 rfl hl (by decide) rfl (fun ls hl => ?_)
  refine lv_iconst (v := 0) hx hb dX6_freshPairs_19 (by decide) ?_
  refine lv_istore_n (lv' := [(3, .int 0), (2, .int 0), (1, .int v1), (0, .ref (ad 0))]) hx hb dX6_freshPairs_20 rfl hl (by decide) rfl (fun ls hl => ?_)
  have hL21 : ∀ (n : Nat) (x1 : Int32) (x2 : Int32) (x3 : Int32) (thrown : Int32) (tape : Nat → Int32) (taped : Int32) (value : Nat → Int32) (weight : Nat → Int32) (many : Int32) (block : Int32) (ties : Int32) (lines : Int32) (pastValue : Nat → Int32) (pastWeight : Nat → Int32) (pastMany : Nat → Int32) (undos : Int32) (fresh : Int32) (newValue : Nat → Int32) (newWeight : Nat → Int32) (newMany : Int32) (newBlock : Int32) (newTies : Int32) (newLines : Int32) (hasBlock : Int32) (hasTies : Int32) (size : Int32) (att : Int32) (place : Int32) (sort : Int32) (number : Int32) (fault : Int32) (faultPlace : Int32) (lastFault : Int32) (lastPlace : Int32) (toValue : Nat → Int32) (toWeight : Nat → Int32) (toMany : Int32) (often : Nat → Int32) (firstOf : Nat → Int32) (lastOf : Nat → Int32) (unlikes : Nat → Int32) (unlikeMany : Int32) (isCandidate : Nat → Int32) (modes : Nat → Int32) (fewest : Nat → Int32) (z2 : Int32) (ls : Array Slot) (H : Heap) (locs : List Loc), lv_has ls 6 [(0, .ref (ad 0)), (1, .int x1), (2, .int x2), (3, .int x3)] → va_P D vwCl (wX6 cA ad thrown tape taped value weight many block ties lines pastValue pastWeight pastMany undos fresh newValue newWeight newMany newBlock newTies newLines hasBlock hasTies size att place sort number fault faultPlace lastFault lastPlace toValue toWeight toMany often firstOf lastOf unlikes unlikeMany isCandidate modes fewest) H → va_D A (wX6 cA ad thrown tape taped value weight many block ties lines pastValue pastWeight pastMany undos fresh newValue newWeight newMany newBlock newTies newLines hasBlock hasTies size att place sort number fault faultPlace lastFault lastPlace toValue toWeight toMany often firstOf lastOf unlikes unlikeMany isCandidate modes fewest) → va_S A s.heap H locs → mX6_freshPairs_L21 value many block toValue toMany x1 n x2 x3 = some z2 → (∀ (ls : Array Slot) (H : Heap) (locs : List Loc), lv_has ls 6 [(2, .int z2)] → va_P D vwCl (wX6 cA ad thrown tape taped value weight many block ties lines pastValue pastWeight pastMany undos fresh newValue newWeight newMany newBlock newTies newLines hasBlock hasTies size att place sort number fault faultPlace lastFault lastPlace toValue toWeight toMany often firstOf lastOf unlikes unlikeMany isCandidate modes fewest) H → va_D A (wX6 cA ad thrown tape taped value weight many block ties lines pastValue pastWeight pastMany undos fresh newValue newWeight newMany newBlock newTies newLines hasBlock hasTies size att place sort number fault faultPlace lastFault lastPlace toValue toWeight toMany often firstOf lastOf unlikes unlikeMany isCandidate modes fewest) → va_S A s.heap H locs → W p l e (headSpec wsX6_freshPairs { frames := 2, cells := 0, slots := 0, locals := 45 }).room s m args below meth c H locs 0 0 Q (F0 m 84 ls [])) → W p l e (headSpec wsX6_freshPairs { frames := 2, cells := 0, slots := 0, locals := 45 }).room s m args below meth c H locs 0 0 Q (F0 m 21 ls []) := by
    intro n
    induction n with
    | zero => intro x1 x2 x3 thrown tape taped value weight many block ties lines pastValue pastWeight pastMany undos fresh newValue newWeight newMany newBlock newTies newLines hasBlock hasTies size att place sort number fault faultPlace lastFault lastPlace toValue toWeight toMany often firstOf lastOf unlikes unlikeMany isCandidate modes fewest z2 ls H locs hl hP hD hS h hk21; exact e_n h
    | succ n ih21 =>
      intro x1 x2 x3 thrown tape taped value weight many block ties lines pastValue pastWeight pastMany undos fresh newValue newWeight newMany newBlock newTies newLines hasBlock hasTies size att place sort number fault faultPlace lastFault lastPlace toValue toWeight toMany often firstOf lastOf unlikes unlikeMany isCandidate modes fewest z2 ls H locs hl hP hD hS h hk21
      rw [mX6_freshPairs_L21.eq_2] at h
      refine lv_iload_n hx hb dX6_freshPairs_21 rfl (lv_at hl 3 rfl) ?_
      refine lv_iload_n hx hb dX6_freshPairs_22 rfl (lv_at hl 1 rfl) ?_
      refine lv_icmp_ge (tgt := 84) hx hb dX6_freshPairs_23 (by decide) (fun c3 => ?_) (fun c3 => ?_)
      · have h := e_t c3 h
        obtain rfl := e_s h
        exact hk21 _ _ _ (lv_sub hl [2] rfl) hP hD hS
      · have h := e_f c3 h
        refine lv_iconst (v := 0) hx hb dX6_freshPairs_26 (by decide) ?_
        refine lv_istore (lv' := [(4, .int 0), (0, .ref (ad 0)), (1, .int x1), (2, .int x2), (3, .int x3)]) hx hb dX6_freshPairs_27 hl (by decide) rfl (fun ls hl => ?_)
        refine lv_iload_n hx hb dX6_freshPairs_29 rfl (lv_at hl 4 rfl) ?_
        refine lv_istore (lv' := [(5, .int x3), (4, .int 0), (0, .ref (ad 0)), (1, .int x1), (2, .int x2), (3, .int x3)]) hx hb dX6_freshPairs_30 hl (by decide) rfl (fun ls hl => ?_)
        have hL32 : ∀ (n : Nat) (x1 : Int32) (x2 : Int32) (x3 : Int32) (x4 : Int32) (x5 : Int32) (thrown : Int32) (tape : Nat → Int32) (taped : Int32) (value : Nat → Int32) (weight : Nat → Int32) (many : Int32) (block : Int32) (ties : Int32) (lines : Int32) (pastValue : Nat → Int32) (pastWeight : Nat → Int32) (pastMany : Nat → Int32) (undos : Int32) (fresh : Int32) (newValue : Nat → Int32) (newWeight : Nat → Int32) (newMany : Int32) (newBlock : Int32) (newTies : Int32) (newLines : Int32) (hasBlock : Int32) (hasTies : Int32) (size : Int32) (att : Int32) (place : Int32) (sort : Int32) (number : Int32) (fault : Int32) (faultPlace : Int32) (lastFault : Int32) (lastPlace : Int32) (toValue : Nat → Int32) (toWeight : Nat → Int32) (toMany : Int32) (often : Nat → Int32) (firstOf : Nat → Int32) (lastOf : Nat → Int32) (unlikes : Nat → Int32) (unlikeMany : Int32) (isCandidate : Nat → Int32) (modes : Nat → Int32) (fewest : Nat → Int32) (z4 : Int32) (ls : Array Slot) (H : Heap) (locs : List Loc), lv_has ls 6 [(0, .ref (ad 0)), (1, .int x1), (2, .int x2), (3, .int x3), (4, .int x4), (5, .int x5)] → va_P D vwCl (wX6 cA ad thrown tape taped value weight many block ties lines pastValue pastWeight pastMany undos fresh newValue newWeight newMany newBlock newTies newLines hasBlock hasTies size att place sort number fault faultPlace lastFault lastPlace toValue toWeight toMany often firstOf lastOf unlikes unlikeMany isCandidate modes fewest) H → va_D A (wX6 cA ad thrown tape taped value weight many block ties lines pastValue pastWeight pastMany undos fresh newValue newWeight newMany newBlock newTies newLines hasBlock hasTies size att place sort number fault faultPlace lastFault lastPlace toValue toWeight toMany often firstOf lastOf unlikes unlikeMany isCandidate modes fewest) → va_S A s.heap H locs → mX6_freshPairs_L32 value many block toValue toMany x1 n x2 x4 x5 = some z4 → (∀ (ls : Array Slot) (H : Heap) (locs : List Loc), lv_has ls 6 [(0, .ref (ad 0)), (1, .int x1), (2, .int z4), (3, .int x3)] → va_P D vwCl (wX6 cA ad thrown tape taped value weight many block ties lines pastValue pastWeight pastMany undos fresh newValue newWeight newMany newBlock newTies newLines hasBlock hasTies size att place sort number fault faultPlace lastFault lastPlace toValue toWeight toMany often firstOf lastOf unlikes unlikeMany isCandidate modes fewest) H → va_D A (wX6 cA ad thrown tape taped value weight many block ties lines pastValue pastWeight pastMany undos fresh newValue newWeight newMany newBlock newTies newLines hasBlock hasTies size att place sort number fault faultPlace lastFault lastPlace toValue toWeight toMany often firstOf lastOf unlikes unlikeMany isCandidate modes fewest) → va_S A s.heap H locs → W p l e (headSpec wsX6_freshPairs { frames := 2, cells := 0, slots := 0, locals := 45 }).room s m args below meth c H locs 0 0 Q (F0 m 78 ls [])) → W p l e (headSpec wsX6_freshPairs { frames := 2, cells := 0, slots := 0, locals := 45 }).room s m args below meth c H locs 0 0 Q (F0 m 32 ls []) := by
          intro n
          induction n with
          | zero => intro x1 x2 x3 x4 x5 thrown tape taped value weight many block ties lines pastValue pastWeight pastMany undos fresh newValue newWeight newMany newBlock newTies newLines hasBlock hasTies size att place sort number fault faultPlace lastFault lastPlace toValue toWeight toMany often firstOf lastOf unlikes unlikeMany isCandidate modes fewest z4 ls H locs hl hP hD hS h hk32; exact e_n h
          | succ n ih32 =>
            intro x1 x2 x3 x4 x5 thrown tape taped value weight many block ties lines pastValue pastWeight pastMany undos fresh newValue newWeight newMany newBlock newTies newLines hasBlock hasTies size att place sort number fault faultPlace lastFault lastPlace toValue toWeight toMany often firstOf lastOf unlikes unlikeMany isCandidate modes fewest z4 ls H locs hl hP hD hS h hk32
            rw [mX6_freshPairs_L32.eq_2] at h
            refine lv_iload hx hb dX6_freshPairs_32 (lv_at hl 5 rfl) ?_
            refine lv_iload_n hx hb dX6_freshPairs_34 rfl (lv_at hl 1 rfl) ?_
            refine lv_icmp_ge (tgt := 78) hx hb dX6_freshPairs_35 (by decide) (fun c5 => ?_) (fun c5 => ?_)
            · have h := e_t c5 h
              obtain rfl := e_s h
              exact hk32 _ _ _ (lv_sub hl [0, 1, 2, 3] rfl) hP hD hS
            · have h := e_f c5 h
              refine lv_iload hx hb dX6_freshPairs_38 (lv_at hl 4 rfl) ?_
              obtain ⟨z6, ez6, h⟩ := e_b h
              have hJ7 : ∀ (ls : Array Slot) (H : Heap) (locs : List Loc), lv_has ls 6 [(0, .ref (ad 0)), (1, .int x1), (2, .int x2), (3, .int x3), (5, .int x5)] → va_P D vwCl (wX6 cA ad thrown tape taped value weight many block ties lines pastValue pastWeight pastMany undos fresh newValue newWeight newMany newBlock newTies newLines hasBlock hasTies size att place sort number fault faultPlace lastFault lastPlace toValue toWeight toMany often firstOf lastOf unlikes unlikeMany isCandidate modes fewest) H → va_D A (wX6 cA ad thrown tape taped value weight many block ties lines pastValue pastWeight pastMany undos fresh newValue newWeight newMany newBlock newTies newLines hasBlock hasTies size att place sort number fault faultPlace lastFault lastPlace toValue toWeight toMany often firstOf lastOf unlikes unlikeMany isCandidate modes fewest) → va_S A s.heap H locs → W p l e (headSpec wsX6_freshPairs { frames := 2, cells := 0, slots := 0, locals := 45 }).room s m args below meth c H locs 0 0 Q (F0 m 57 ls [.int z6]) := by
                intro ls H locs hl hP hD hS
                refine lv_istore (lv' := [(4, .int z6), (0, .ref (ad 0)), (1, .int x1), (2, .int x2), (3, .int x3), (5, .int x5)]) hx hb dX6_freshPairs_57 hl (by decide) rfl (fun ls hl => ?_)
                refine lv_iload_n hx hb dX6_freshPairs_59 rfl (lv_at hl 3 rfl) ?_
                refine lv_iload hx hb dX6_freshPairs_60 (lv_at hl 0 rfl) ?_
                refine lv_if_eq (tgt := 69) hx hb dX6_freshPairs_62 (by decide) (fun c8 => ?_) (fun c8 => ?_)
                · have h := e_t c8 h
                  refine lv_iconst (v := 0) hx hb dX6_freshPairs_69 (by decide) ?_
                  refine lv_iadd hx hb dX6_freshPairs_70 ?_
                  refine lv_istore_n (lv' := [(2, .int (x2 + 0)), (4, .int z6), (0, .ref (ad 0)), (1, .int x1), (3, .int x3), (5, .int x5)]) hx hb dX6_freshPairs_71 rfl hl (by decide) rfl (fun ls hl => ?_)
                  refine lv_iinc (v := (x5 + 1)) (lv' := [(5, .int (x5 + 1)), (2, .int (x2 + 0)), (4, .int z6), (0, .ref (ad 0)), (1, .int x1), (3, .int x3)]) hx hb dX6_freshPairs_72 hl (k := 5) rfl rfl (by decide) rfl (fun ls hl => ?_)
                  refine lv_goto (tgt := 32) hx hb dX6_freshPairs_75 (by decide) ?_
                  exact ih32 x1 (x2 + 0) x3 z6 (x5 + 1) thrown tape taped value weight many block ties lines pastValue pastWeight pastMany undos fresh newValue newWeight newMany newBlock newTies newLines hasBlock hasTies size att place sort number fault faultPlace lastFault lastPlace toValue toWeight toMany often firstOf lastOf unlikes unlikeMany isCandidate modes fewest z4 _ _ _ (lv_sub hl [3, 4, 1, 5, 2, 0] rfl) hP hD hS h hk32
                · have h := e_f c8 h
                  refine lv_iconst (v := 1) hx hb dX6_freshPairs_65 (by decide) ?_
                  refine lv_goto (tgt := 70) hx hb dX6_freshPairs_66 (by decide) ?_
                  refine lv_iadd hx hb dX6_freshPairs_70 ?_
                  refine lv_istore_n (lv' := [(2, .int (x2 + 1)), (4, .int z6), (0, .ref (ad 0)), (1, .int x1), (3, .int x3), (5, .int x5)]) hx hb dX6_freshPairs_71 rfl hl (by decide) rfl (fun ls hl => ?_)
                  refine lv_iinc (v := (x5 + 1)) (lv' := [(5, .int (x5 + 1)), (2, .int (x2 + 1)), (4, .int z6), (0, .ref (ad 0)), (1, .int x1), (3, .int x3)]) hx hb dX6_freshPairs_72 hl (k := 5) rfl rfl (by decide) rfl (fun ls hl => ?_)
                  refine lv_goto (tgt := 32) hx hb dX6_freshPairs_75 (by decide) ?_
                  exact ih32 x1 (x2 + 1) x3 z6 (x5 + 1) thrown tape taped value weight many block ties lines pastValue pastWeight pastMany undos fresh newValue newWeight newMany newBlock newTies newLines hasBlock hasTies size att place sort number fault faultPlace lastFault lastPlace toValue toWeight toMany often firstOf lastOf unlikes unlikeMany isCandidate modes fewest z4 _ _ _ (lv_sub hl [3, 4, 1, 5, 2, 0] rfl) hP hD hS h hk32
              have h := ez6
              refine lv_if_ne (tgt := 52) hx hb dX6_freshPairs_40 (by decide) (fun c9 => ?_) (fun c9 => ?_)
              · have h := e_t c9 h
                refine lv_iconst (v := 1) hx hb dX6_freshPairs_52 (by decide) ?_
                refine lv_goto (tgt := 57) hx hb dX6_freshPairs_53 (by decide) ?_
                obtain rfl := e_s h
                exact hJ7 _ _ _ (lv_sub hl [0, 1, 2, 3, 5] rfl) hP hD hS
              · have h := e_f (not_not_intro c9) h
                refine lv_aload_n hx hb dX6_freshPairs_43 rfl (lv_at hl 0 rfl) ?_
                refine lv_iload hx hb dX6_freshPairs_44 (lv_at hl 5 rfl) ?_
                obtain ⟨q10, eq10, h⟩ := e_b h
                refine xv_i0 (As := [.int x5]) (rest := []) (ci := 6) (b := ad 0) ⟨hx, hb, hml, hown, hts⟩ hl.1 (kX6_isFresh l D cA ad thrown tape taped value weight many block ties lines pastValue pastWeight pastMany undos fresh newValue newWeight newMany newBlock newTies newLines hasBlock hasTies size att place sort number fault faultPlace lastFault lastPlace toValue toWeight toMany often firstOf lastOf unlikes unlikeMany isCandidate modes fewest x5 _ eq10) (cwV 1 hts gX6_freshPairs_X6_isFresh rfl rfl rfl (by decide +kernel) ⟨Nat.le_of_ble_eq_true rfl, Nat.le_of_ble_eq_true rfl⟩) rfl hK hP hD hS hA 0 rfl rfl rfl rfl (Nat.le_of_ble_eq_true rfl) dX6_freshPairs_46 ⟨Nat.zero_le _, Nat.zero_le _⟩ (fun H locs hP hD hS hnq10 => ?_)
                have hP : va_P D vwCl (wX6 cA ad thrown tape taped value weight many block ties lines pastValue pastWeight pastMany undos fresh newValue newWeight newMany newBlock newTies newLines hasBlock hasTies size att place sort number fault faultPlace lastFault lastPlace toValue toWeight toMany often firstOf lastOf unlikes unlikeMany isCandidate modes fewest) H := hP
                have hD : va_D A (wX6 cA ad thrown tape taped value weight many block ties lines pastValue pastWeight pastMany undos fresh newValue newWeight newMany newBlock newTies newLines hasBlock hasTies size att place sort number fault faultPlace lastFault lastPlace toValue toWeight toMany often firstOf lastOf unlikes unlikeMany isCandidate modes fewest) := hD
                refine lv_if_eq (tgt := 56) hx hb dX6_freshPairs_49 (by decide) (fun c11 => ?_) (fun c11 => ?_)
                · have h := e_t c11 h
                  refine lv_iconst (v := 0) hx hb dX6_freshPairs_56 (by decide) ?_
                  obtain rfl := e_s h
                  exact hJ7 _ _ _ (lv_sub hl [0, 1, 2, 3, 5] rfl) hP hD hS
                · have h := e_f c11 h
                  refine lv_iconst (v := 1) hx hb dX6_freshPairs_52 (by decide) ?_
                  refine lv_goto (tgt := 57) hx hb dX6_freshPairs_53 (by decide) ?_
                  obtain rfl := e_s h
                  exact hJ7 _ _ _ (lv_sub hl [0, 1, 2, 3, 5] rfl) hP hD hS
        obtain ⟨z12, ez12, h⟩ := e_b h
        refine hL32 FU x1 x2 x3 0 x3 thrown tape taped value weight many block ties lines pastValue pastWeight pastMany undos fresh newValue newWeight newMany newBlock newTies newLines hasBlock hasTies size att place sort number fault faultPlace lastFault lastPlace toValue toWeight toMany often firstOf lastOf unlikes unlikeMany isCandidate modes fewest z12 _ _ _ (lv_sub hl [2, 3, 4, 5, 1, 0] rfl) hP hD hS ez12 (fun ls H locs hl hP hD hS => ?_)
        refine lv_iinc (v := (x3 + 1)) (lv' := [(3, .int (x3 + 1)), (0, .ref (ad 0)), (1, .int x1), (2, .int z12)]) hx hb dX6_freshPairs_78 hl (k := 3) rfl rfl (by decide) rfl (fun ls hl => ?_)
        refine lv_goto (tgt := 21) hx hb dX6_freshPairs_81 (by decide) ?_
        exact ih21 x1 z12 (x3 + 1) thrown tape taped value weight many block ties lines pastValue pastWeight pastMany undos fresh newValue newWeight newMany newBlock newTies newLines hasBlock hasTies size att place sort number fault faultPlace lastFault lastPlace toValue toWeight toMany often firstOf lastOf unlikes unlikeMany isCandidate modes fewest z2 _ _ _ (lv_sub hl [1, 2, 3, 0] rfl) hP hD hS h hk21
  obtain ⟨z13, ez13, h⟩ := e_b h
  refine hL21 FU v1 0 0 thrown tape taped value weight many block ties lines pastValue pastWeight pastMany undos fresh newValue newWeight newMany newBlock newTies newLines hasBlock hasTies size att place sort number fault faultPlace lastFault lastPlace toValue toWeight toMany often firstOf lastOf unlikes unlikeMany isCandidate modes fewest z13 _ _ _ (lv_sub hl [3, 2, 1, 0] rfl) hP hD hS ez13 (fun ls H locs hl hP hD hS => ?_)
  refine lv_iload_n hx hb dX6_freshPairs_84 rfl (lv_at hl 0 rfl) ?_
  obtain rfl := e_s h
  exact hret hP hS rfl dX6_freshPairs_85
set_option maxHeartbeats 4000000 in
set_option maxRecDepth 100000 in
theorem kX6_becomes (l : Launch) (D : va_G) (cA : Nat → ClassId) (ad : Nat → Nat) (thrown : Int32) (tape : Nat → Int32) (taped : Int32) (value : Nat → Int32) (weight : Nat → Int32) (many : Int32) (block : Int32) (ties : Int32) (lines : Int32) (pastValue : Nat → Int32) (pastWeight : Nat → Int32) (pastMany : Nat → Int32) (undos : Int32) (fresh : Int32) (newValue : Nat → Int32) (newWeight : Nat → Int32) (newMany : Int32) (newBlock : Int32) (newTies : Int32) (newLines : Int32) (hasBlock : Int32) (hasTies : Int32) (size : Int32) (att : Int32) (place : Int32) (sort : Int32) (number : Int32) (fault : Int32) (faultPlace : Int32) (lastFault : Int32) (lastPlace : Int32) (toValue : Nat → Int32) (toWeight : Nat → Int32) (toMany : Int32) (often : Nat → Int32) (firstOf : Nat → Int32) (lastOf : Nat → Int32) (unlikes : Nat → Int32) (unlikeMany : Int32) (isCandidate : Nat → Int32) (modes : Nat → Int32) (fewest : Nat → Int32)  (q : (Nat → Int32) × (Nat → Int32) × Int32 × Int32) (h : mX6_becomes value weight many block fresh toValue toWeight toMany  = some q) : MV l yX6_becomes wsX6_becomes { frames := 3, cells := 0, slots := 0, locals := 70 } D cA [.ref (ad 0)] (wX6 cA ad thrown tape taped value weight many block ties lines pastValue pastWeight pastMany undos fresh newValue newWeight newMany newBlock newTies newLines hasBlock hasTies size att place sort number fault faultPlace lastFault lastPlace toValue toWeight toMany often firstOf lastOf unlikes unlikeMany isCandidate modes fewest) (wX6 cA ad thrown tape taped q.1 q.2.1 q.2.2.1 block ties lines pastValue pastWeight pastMany undos q.2.2.2 newValue newWeight newMany newBlock newTies newLines hasBlock hasTies size att place sort number fault faultPlace lastFault lastPlace toValue toWeight toMany often firstOf lastOf unlikes unlikeMany isCandidate modes fewest) := by
  refine MV.of (cc := cX6_becomes) (maxL := 2) (by decide) rfl rfl rfl (Nat.le_of_ble_eq_true rfl) ?_
  intro p e s m args below meth c A ls Q hx hb hml hts hown hK hP hD hA hS hl hret
  have hl : lv_has ls 2 [(0, .ref (ad 0))] := hl
  have f13 := hts (.fieldLink RX6 13 "ModeDeskModel" "value" "[I") (by decide +kernel)
  have f16 := hts (.fieldLink RX6 16 "ModeDeskModel" "weight" "[I") (by decide +kernel)
  have f175 := hts (.fieldLink RX6 175 "ModeDeskModel" "many" "I") (by decide +kernel)
  have f197 := hts (.fieldLink RX6 197 "ModeDeskModel" "toMany" "I") (by decide +kernel)
  have f28 := hts (.fieldLink RX6 28 "ModeDeskModel" "fresh" "I") (by decide +kernel)
  have f41 := hts (.fieldLink RX6 41 "ModeDeskModel" "toValue" "[I") (by decide +kernel)
  have f44 := hts (.fieldLink RX6 44 "ModeDeskModel" "toWeight" "[I") (by decide +kernel)
  have iX6 : ∀ w ∈ wsX60, w ∈ wsX6_becomes := by decide +kernel
  unfold mX6_becomes at h
  refine lv_aload_n hx hb dX6_becomes_0 rfl (lv_at hl 0 rfl) ?_
  refine lv_aload_n hx hb dX6_becomes_1 rfl (lv_at hl 0 rfl) ?_
  obtain ⟨q1, eq1, h⟩ := e_b h
  refine xv_i0 (As := []) (rest := [.ref (ad 0)]) (ci := 6) (b := ad 0) ⟨hx, hb, hml, hown, hts⟩ hl.1 (kX6_freshPairs l D cA ad thrown tape taped value weight many block ties lines pastValue pastWeight pastMany undos fresh newValue newWeight newMany newBlock newTies newLines hasBlock hasTies size att place sort number fault faultPlace lastFault lastPlace toValue toWeight toMany often firstOf lastOf unlikes unlikeMany isCandidate modes fewest  _ eq1) (cwV 0 hts gX6_becomes_X6_freshPairs rfl rfl rfl (by decide +kernel) ⟨Nat.le_of_ble_eq_true rfl, Nat.le_of_ble_eq_true rfl⟩) rfl hK hP hD hS hA 0 rfl rfl rfl rfl (Nat.le_of_ble_eq_true rfl) dX6_becomes_2 ⟨Nat.zero_le _, Nat.zero_le _⟩ (fun H locs hP hD hS hnq1 => ?_)
  have hP : va_P D vwCl (wX6 cA ad thrown tape taped value weight many block ties lines pastValue pastWeight pastMany undos fresh newValue newWeight newMany newBlock newTies newLines hasBlock hasTies size att place sort number fault faultPlace lastFault lastPlace toValue toWeight toMany often firstOf lastOf unlikes unlikeMany isCandidate modes fewest) H := hP
  have hD : va_D A (wX6 cA ad thrown tape taped value weight many block ties lines pastValue pastWeight pastMany undos fresh newValue newWeight newMany newBlock newTies newLines hasBlock hasTies size att place sort number fault faultPlace lastFault lastPlace toValue toWeight toMany often firstOf lastOf unlikes unlikeMany isCandidate modes fewest) := hD
  refine va_put (D := D) (ci := 6) (v := .int q1) (ty := .int) (C := RX6) (T := TX6) (N := 42) hx hb hts iX6 tyX6 tyX6_ok nmX6 hown hK hP hD hS 0 rfl rfl 13 (Nat.le_of_ble_eq_true rfl) f28 (fun _ h9 => h9) rfl (tyX6_ok 13 (Nat.le_of_ble_eq_true rfl)) rfl rfl (Nat.le_of_ble_eq_true rfl) dX6_becomes_5 (fun H locs hP hD hS => ?_)
  have hP : va_P D vwCl (wX6 cA ad thrown tape taped value weight many block ties lines pastValue pastWeight pastMany undos q1 newValue newWeight newMany newBlock newTies newLines hasBlock hasTies size att place sort number fault faultPlace lastFault lastPlace toValue toWeight toMany often firstOf lastOf unlikes unlikeMany isCandidate modes fewest) H := hP
  have hD : va_D A (wX6 cA ad thrown tape taped value weight many block ties lines pastValue pastWeight pastMany undos q1 newValue newWeight newMany newBlock newTies newLines hasBlock hasTies size att place sort number fault faultPlace lastFault lastPlace toValue toWeight toMany often firstOf lastOf unlikes unlikeMany isCandidate modes fewest) := hD
  refine lv_aload_n hx hb dX6_becomes_8 rfl (lv_at hl 0 rfl) ?_
  refine lv_aload_n hx hb dX6_becomes_9 rfl (lv_at hl 0 rfl) ?_
  refine va_get (D := D) (ci := 6) (v := .int toMany) (C := RX6) (T := TX6) (N := 42) hx hb hts iX6 hown hK hP 0 rfl rfl 33 (Nat.le_of_ble_eq_true rfl) f197 (fun _ h9 => h9) rfl dX6_becomes_10 ?_
  refine va_put (D := D) (ci := 6) (v := .int toMany) (ty := .int) (C := RX6) (T := TX6) (N := 42) hx hb hts iX6 tyX6 tyX6_ok nmX6 hown hK hP hD hS 0 rfl rfl 5 (Nat.le_of_ble_eq_true rfl) f175 (fun _ h9 => h9) rfl (tyX6_ok 5 (Nat.le_of_ble_eq_true rfl)) rfl rfl (Nat.le_of_ble_eq_true rfl) dX6_becomes_13 (fun H locs hP hD hS => ?_)
  have hP : va_P D vwCl (wX6 cA ad thrown tape taped value weight toMany block ties lines pastValue pastWeight pastMany undos q1 newValue newWeight newMany newBlock newTies newLines hasBlock hasTies size att place sort number fault faultPlace lastFault lastPlace toValue toWeight toMany often firstOf lastOf unlikes unlikeMany isCandidate modes fewest) H := hP
  have hD : va_D A (wX6 cA ad thrown tape taped value weight toMany block ties lines pastValue pastWeight pastMany undos q1 newValue newWeight newMany newBlock newTies newLines hasBlock hasTies size att place sort number fault faultPlace lastFault lastPlace toValue toWeight toMany often firstOf lastOf unlikes unlikeMany isCandidate modes fewest) := hD
  refine lv_iconst (v := 0) hx hb dX6_becomes_16 (by decide) ?_
  refine lv_istore_n (lv' := [(1, .int 0), (0, .ref (ad 0))]) hx hb dX6_becomes_17 rfl hl (by decide) rfl (fun ls hl => ?_)
  have hL18 : ∀ (n : Nat) (x1 : Int32) (thrown : Int32) (tape : Nat → Int32) (taped : Int32) (value : Nat → Int32) (weight : Nat → Int32) (many : Int32) (block : Int32) (ties : Int32) (lines : Int32) (pastValue : Nat → Int32) (pastWeight : Nat → Int32) (pastMany : Nat → Int32) (undos : Int32) (fresh : Int32) (newValue : Nat → Int32) (newWeight : Nat → Int32) (newMany : Int32) (newBlock : Int32) (newTies : Int32) (newLines : Int32) (hasBlock : Int32) (hasTies : Int32) (size : Int32) (att : Int32) (place : Int32) (sort : Int32) (number : Int32) (fault : Int32) (faultPlace : Int32) (lastFault : Int32) (lastPlace : Int32) (toValue : Nat → Int32) (toWeight : Nat → Int32) (toMany : Int32) (often : Nat → Int32) (firstOf : Nat → Int32) (lastOf : Nat → Int32) (unlikes : Nat → Int32) (unlikeMany : Int32) (isCandidate : Nat → Int32) (modes : Nat → Int32) (fewest : Nat → Int32) (z2 : (Nat → Int32) × (Nat → Int32)) (ls : Array Slot) (H : Heap) (locs : List Loc), lv_has ls 2 [(0, .ref (ad 0)), (1, .int x1)] → va_P D vwCl (wX6 cA ad thrown tape taped value weight many block ties lines pastValue pastWeight pastMany undos fresh newValue newWeight newMany newBlock newTies newLines hasBlock hasTies size att place sort number fault faultPlace lastFault lastPlace toValue toWeight toMany often firstOf lastOf unlikes unlikeMany isCandidate modes fewest) H → va_D A (wX6 cA ad thrown tape taped value weight many block ties lines pastValue pastWeight pastMany undos fresh newValue newWeight newMany newBlock newTies newLines hasBlock hasTies size att place sort number fault faultPlace lastFault lastPlace toValue toWeight toMany often firstOf lastOf unlikes unlikeMany isCandidate modes fewest) → va_S A s.heap H locs → mX6_becomes_L18 many toValue toWeight n x1 value weight = some z2 → (∀ (ls : Array Slot) (H : Heap) (locs : List Loc), lv_has ls 2 [] → va_P D vwCl (wX6 cA ad thrown tape taped z2.1 z2.2 many block ties lines pastValue pastWeight pastMany undos fresh newValue newWeight newMany newBlock newTies newLines hasBlock hasTies size att place sort number fault faultPlace lastFault lastPlace toValue toWeight toMany often firstOf lastOf unlikes unlikeMany isCandidate modes fewest) H → va_D A (wX6 cA ad thrown tape taped z2.1 z2.2 many block ties lines pastValue pastWeight pastMany undos fresh newValue newWeight newMany newBlock newTies newLines hasBlock hasTies size att place sort number fault faultPlace lastFault lastPlace toValue toWeight toMany often firstOf lastOf unlikes unlikeMany isCandidate modes fewest) → va_S A s.heap H locs → W p l e (headSpec wsX6_becomes { frames := 3, cells := 0, slots := 0, locals := 70 }).room s m args below meth c H locs 0 0 Q (F0 m 56 ls [])) → W p l e (headSpec wsX6_becomes { frames := 3, cells := 0, slots := 0, locals := 70 }).room s m args below meth c H locs 0 0 Q (F0 m 18 ls []) := by
    intro n
    induction n with
    | zero => intro x1 thrown tape taped value weight many block ties lines pastValue pastWeight pastMany undos fresh newValue newWeight newMany newBlock newTies newLines hasBlock hasTies size att place sort number fault faultPlace lastFault lastPlace toValue toWeight toMany often firstOf lastOf unlikes unlikeMany isCandidate modes fewest z2 ls H locs hl hP hD hS h hk18; exact e_n h
    | succ n ih18 =>
      intro x1 thrown tape taped value weight many block ties lines pastValue pastWeight pastMany undos fresh newValue newWeight newMany newBlock newTies newLines hasBlock hasTies size att place sort number fault faultPlace lastFault lastPlace toValue toWeight toMany often firstOf lastOf unlikes unlikeMany isCandidate modes fewest z2 ls H locs hl hP hD hS h hk18
      rw [mX6_becomes_L18.eq_2] at h
      refine lv_iload_n hx hb dX6_becomes_18 rfl (lv_at hl 1 rfl) ?_
      refine lv_aload_n hx hb dX6_becomes_19 rfl (lv_at hl 0 rfl) ?_
      refine va_get (D := D) (ci := 6) (v := .int many) (C := RX6) (T := TX6) (N := 42) hx hb hts iX6 hown hK hP 0 rfl rfl 5 (Nat.le_of_ble_eq_true rfl) f175 (fun _ h9 => h9) rfl dX6_becomes_20 ?_
      refine lv_icmp_ge (tgt := 56) hx hb dX6_becomes_23 (by decide) (fun c3 => ?_) (fun c3 => ?_)
      · have h := e_t c3 h
        obtain rfl := e_s h
        exact hk18 _ _ _ (lv_sub hl [] rfl) hP hD hS
      · have h := e_f c3 h
        refine lv_aload_n hx hb dX6_becomes_26 rfl (lv_at hl 0 rfl) ?_
        refine va_get (D := D) (ci := 6) (v := .ref (ad 2)) (C := RX6) (T := TX6) (N := 42) hx hb hts iX6 hown hK hP 0 rfl rfl 3 (Nat.le_of_ble_eq_true rfl) f13 (fun _ h9 => h9) rfl dX6_becomes_27 ?_
        refine lv_iload_n hx hb dX6_becomes_30 rfl (lv_at hl 1 rfl) ?_
        refine lv_aload_n hx hb dX6_becomes_31 rfl (lv_at hl 0 rfl) ?_
        refine va_get (D := D) (ci := 6) (v := .ref (ad 9)) (C := RX6) (T := TX6) (N := 42) hx hb hts iX6 hown hK hP 0 rfl rfl 31 (Nat.le_of_ble_eq_true rfl) f41 (fun _ h9 => h9) rfl dX6_becomes_32 ?_
        refine lv_iload_n hx hb dX6_becomes_35 rfl (lv_at hl 1 rfl) ?_
        obtain ⟨v4, ev4, nv4, h⟩ := e_rd h
        refine xa_iald hx hb hK hP 9 rfl nv4 ev4 dX6_becomes_36 ?_
        obtain ⟨a5, ea5, na5, h⟩ := e_wr h
        refine xa_iast hx hb hK hP hD hS 2 rfl na5 ea5 dX6_becomes_37 (fun H locs hP hD hS => ?_)
        have hP : va_P D vwCl (wX6 cA ad thrown tape taped a5 weight many block ties lines pastValue pastWeight pastMany undos fresh newValue newWeight newMany newBlock newTies newLines hasBlock hasTies size att place sort number fault faultPlace lastFault lastPlace toValue toWeight toMany often firstOf lastOf unlikes unlikeMany isCandidate modes fewest) H := hP
        have hD : va_D A (wX6 cA ad thrown tape taped a5 weight many block ties lines pastValue pastWeight pastMany undos fresh newValue newWeight newMany newBlock newTies newLines hasBlock hasTies size att place sort number fault faultPlace lastFault lastPlace toValue toWeight toMany often firstOf lastOf unlikes unlikeMany isCandidate modes fewest) := hD
        refine lv_aload_n hx hb dX6_becomes_38 rfl (lv_at hl 0 rfl) ?_
        refine va_get (D := D) (ci := 6) (v := .ref (ad 3)) (C := RX6) (T := TX6) (N := 42) hx hb hts iX6 hown hK hP 0 rfl rfl 4 (Nat.le_of_ble_eq_true rfl) f16 (fun _ h9 => h9) rfl dX6_becomes_39 ?_
        refine lv_iload_n hx hb dX6_becomes_42 rfl (lv_at hl 1 rfl) ?_
        refine lv_aload_n hx hb dX6_becomes_43 rfl (lv_at hl 0 rfl) ?_
        refine va_get (D := D) (ci := 6) (v := .ref (ad 10)) (C := RX6) (T := TX6) (N := 42) hx hb hts iX6 hown hK hP 0 rfl rfl 32 (Nat.le_of_ble_eq_true rfl) f44 (fun _ h9 => h9) rfl dX6_becomes_44 ?_
        refine lv_iload_n hx hb dX6_becomes_47 rfl (lv_at hl 1 rfl) ?_
        obtain ⟨v6, ev6, nv6, h⟩ := e_rd h
        refine xa_iald hx hb hK hP 10 rfl nv6 ev6 dX6_becomes_48 ?_
        obtain ⟨a7, ea7, na7, h⟩ := e_wr h
        refine xa_iast hx hb hK hP hD hS 3 rfl na7 ea7 dX6_becomes_49 (fun H locs hP hD hS => ?_)
        have hP : va_P D vwCl (wX6 cA ad thrown tape taped a5 a7 many block ties lines pastValue pastWeight pastMany undos fresh newValue newWeight newMany newBlock newTies newLines hasBlock hasTies size att place sort number fault faultPlace lastFault lastPlace toValue toWeight toMany often firstOf lastOf unlikes unlikeMany isCandidate modes fewest) H := hP
        have hD : va_D A (wX6 cA ad thrown tape taped a5 a7 many block ties lines pastValue pastWeight pastMany undos fresh newValue newWeight newMany newBlock newTies newLines hasBlock hasTies size att place sort number fault faultPlace lastFault lastPlace toValue toWeight toMany often firstOf lastOf unlikes unlikeMany isCandidate modes fewest) := hD
        refine lv_iinc (v := (x1 + 1)) (lv' := [(1, .int (x1 + 1)), (0, .ref (ad 0))]) hx hb dX6_becomes_50 hl (k := 1) rfl rfl (by decide) rfl (fun ls hl => ?_)
        refine lv_goto (tgt := 18) hx hb dX6_becomes_53 (by decide) ?_
        exact ih18 (x1 + 1) thrown tape taped a5 a7 many block ties lines pastValue pastWeight pastMany undos fresh newValue newWeight newMany newBlock newTies newLines hasBlock hasTies size att place sort number fault faultPlace lastFault lastPlace toValue toWeight toMany often firstOf lastOf unlikes unlikeMany isCandidate modes fewest z2 _ _ _ (lv_sub hl [1, 0] rfl) hP hD hS h hk18
  obtain ⟨z8, ez8, h⟩ := e_b h
  refine hL18 FU 0 thrown tape taped value weight toMany block ties lines pastValue pastWeight pastMany undos q1 newValue newWeight newMany newBlock newTies newLines hasBlock hasTies size att place sort number fault faultPlace lastFault lastPlace toValue toWeight toMany often firstOf lastOf unlikes unlikeMany isCandidate modes fewest z8 _ _ _ (lv_sub hl [1, 0] rfl) hP hD hS ez8 (fun ls H locs hl hP hD hS => ?_)
  obtain rfl := e_s h
  exact hret hP hS dX6_becomes_56
set_option maxHeartbeats 4000000 in
set_option maxRecDepth 100000 in
theorem kX6_copies (l : Launch) (D : va_G) (cA : Nat → ClassId) (ad : Nat → Nat) (thrown : Int32) (tape : Nat → Int32) (taped : Int32) (value : Nat → Int32) (weight : Nat → Int32) (many : Int32) (block : Int32) (ties : Int32) (lines : Int32) (pastValue : Nat → Int32) (pastWeight : Nat → Int32) (pastMany : Nat → Int32) (undos : Int32) (fresh : Int32) (newValue : Nat → Int32) (newWeight : Nat → Int32) (newMany : Int32) (newBlock : Int32) (newTies : Int32) (newLines : Int32) (hasBlock : Int32) (hasTies : Int32) (size : Int32) (att : Int32) (place : Int32) (sort : Int32) (number : Int32) (fault : Int32) (faultPlace : Int32) (lastFault : Int32) (lastPlace : Int32) (toValue : Nat → Int32) (toWeight : Nat → Int32) (toMany : Int32) (often : Nat → Int32) (firstOf : Nat → Int32) (lastOf : Nat → Int32) (unlikes : Nat → Int32) (unlikeMany : Int32) (isCandidate : Nat → Int32) (modes : Nat → Int32) (fewest : Nat → Int32) (x1 : Int32) (x2 : Int32) (q : (Nat → Int32) × (Nat → Int32) × (Nat → Int32)) (h : mX6_copies pastValue pastWeight pastMany x1 x2 = some q) : MV l yX6_copies wsX6_copies { frames := 0, cells := 0, slots := 0, locals := 0 } D cA [.ref (ad 0), .int x1, .int x2] (wX6 cA ad thrown tape taped value weight many block ties lines pastValue pastWeight pastMany undos fresh newValue newWeight newMany newBlock newTies newLines hasBlock hasTies size att place sort number fault faultPlace lastFault lastPlace toValue toWeight toMany often firstOf lastOf unlikes unlikeMany isCandidate modes fewest) (wX6 cA ad thrown tape taped value weight many block ties lines q.1 q.2.1 q.2.2 undos fresh newValue newWeight newMany newBlock newTies newLines hasBlock hasTies size att place sort number fault faultPlace lastFault lastPlace toValue toWeight toMany often firstOf lastOf unlikes unlikeMany isCandidate modes fewest) := by
  refine MV.of (cc := cX6_copies) (maxL := 4) (by decide) rfl rfl rfl (Nat.le_of_ble_eq_true rfl) ?_
  intro p e s m args below meth c A ls Q hx hb hml hts hown hK hP hD hA hS hl hret
  have hl : lv_has ls 4 [(0, .ref (ad 0)), (1, .int x1), (2, .int x2)] := hl
  have f19 := hts (.fieldLink RX6 19 "ModeDeskModel" "pastValue" "[I") (by decide +kernel)
  have f22 := hts (.fieldLink RX6 22 "ModeDeskModel" "pastWeight" "[I") (by decide +kernel)
  have f25 := hts (.fieldLink RX6 25 "ModeDeskModel" "pastMany" "[I") (by decide +kernel)
  have iX6 : ∀ w ∈ wsX60, w ∈ wsX6_copies := by decide +kernel
  unfold mX6_copies at h
  refine lv_iconst (v := 0) hx hb dX6_copies_0 (by decide) ?_
  refine lv_istore_n (lv' := [(3, .int 0), (0, .ref (ad 0)), (1, .int x1), (2, .int x2)]) hx hb dX6_copies_1 rfl hl (by decide) rfl (fun ls hl => ?_)
  have hL2 : ∀ (n : Nat) (x1 : Int32) (x2 : Int32) (x3 : Int32) (thrown : Int32) (tape : Nat → Int32) (taped : Int32) (value : Nat → Int32) (weight : Nat → Int32) (many : Int32) (block : Int32) (ties : Int32) (lines : Int32) (pastValue : Nat → Int32) (pastWeight : Nat → Int32) (pastMany : Nat → Int32) (undos : Int32) (fresh : Int32) (newValue : Nat → Int32) (newWeight : Nat → Int32) (newMany : Int32) (newBlock : Int32) (newTies : Int32) (newLines : Int32) (hasBlock : Int32) (hasTies : Int32) (size : Int32) (att : Int32) (place : Int32) (sort : Int32) (number : Int32) (fault : Int32) (faultPlace : Int32) (lastFault : Int32) (lastPlace : Int32) (toValue : Nat → Int32) (toWeight : Nat → Int32) (toMany : Int32) (often : Nat → Int32) (firstOf : Nat → Int32) (lastOf : Nat → Int32) (unlikes : Nat → Int32) (unlikeMany : Int32) (isCandidate : Nat → Int32) (modes : Nat → Int32) (fewest : Nat → Int32) (z1 : (Nat → Int32) × (Nat → Int32)) (ls : Array Slot) (H : Heap) (locs : List Loc), lv_has ls 4 [(0, .ref (ad 0)), (1, .int x1), (2, .int x2), (3, .int x3)] → va_P D vwCl (wX6 cA ad thrown tape taped value weight many block ties lines pastValue pastWeight pastMany undos fresh newValue newWeight newMany newBlock newTies newLines hasBlock hasTies size att place sort number fault faultPlace lastFault lastPlace toValue toWeight toMany often firstOf lastOf unlikes unlikeMany isCandidate modes fewest) H → va_D A (wX6 cA ad thrown tape taped value weight many block ties lines pastValue pastWeight pastMany undos fresh newValue newWeight newMany newBlock newTies newLines hasBlock hasTies size att place sort number fault faultPlace lastFault lastPlace toValue toWeight toMany often firstOf lastOf unlikes unlikeMany isCandidate modes fewest) → va_S A s.heap H locs → mX6_copies_L2 x1 x2 n x3 pastValue pastWeight = some z1 → (∀ (ls : Array Slot) (H : Heap) (locs : List Loc), lv_has ls 4 [(0, .ref (ad 0)), (1, .int x1), (2, .int x2)] → va_P D vwCl (wX6 cA ad thrown tape taped value weight many block ties lines z1.1 z1.2 pastMany undos fresh newValue newWeight newMany newBlock newTies newLines hasBlock hasTies size att place sort number fault faultPlace lastFault lastPlace toValue toWeight toMany often firstOf lastOf unlikes unlikeMany isCandidate modes fewest) H → va_D A (wX6 cA ad thrown tape taped value weight many block ties lines z1.1 z1.2 pastMany undos fresh newValue newWeight newMany newBlock newTies newLines hasBlock hasTies size att place sort number fault faultPlace lastFault lastPlace toValue toWeight toMany often firstOf lastOf unlikes unlikeMany isCandidate modes fewest) → va_S A s.heap H locs → W p l e (headSpec wsX6_copies { frames := 0, cells := 0, slots := 0, locals := 0 }).room s m args below meth c H locs 0 0 Q (F0 m 58 ls [])) → W p l e (headSpec wsX6_copies { frames := 0, cells := 0, slots := 0, locals := 0 }).room s m args below meth c H locs 0 0 Q (F0 m 2 ls []) := by
    intro n
    induction n with
    | zero => intro x1 x2 x3 thrown tape taped value weight many block ties lines pastValue pastWeight pastMany undos fresh newValue newWeight newMany newBlock newTies newLines hasBlock hasTies size att place sort number fault faultPlace lastFault lastPlace toValue toWeight toMany often firstOf lastOf unlikes unlikeMany isCandidate modes fewest z1 ls H locs hl hP hD hS h hk2; exact e_n h
    | succ n ih2 =>
      intro x1 x2 x3 thrown tape taped value weight many block ties lines pastValue pastWeight pastMany undos fresh newValue newWeight newMany newBlock newTies newLines hasBlock hasTies size att place sort number fault faultPlace lastFault lastPlace toValue toWeight toMany often firstOf lastOf unlikes unlikeMany isCandidate modes fewest z1 ls H locs hl hP hD hS h hk2
      rw [mX6_copies_L2.eq_2] at h
      refine lv_iload_n hx hb dX6_copies_2 rfl (lv_at hl 3 rfl) ?_
      refine lv_bipush (v := 120) hx hb dX6_copies_3 (by decide) ?_
      refine lv_icmp_ge (tgt := 58) hx hb dX6_copies_5 (by decide) (fun c2 => ?_) (fun c2 => ?_)
      · have h := e_t c2 h
        obtain rfl := e_s h
        exact hk2 _ _ _ (lv_sub hl [0, 1, 2] rfl) hP hD hS
      · have h := e_f c2 h
        refine lv_aload_n hx hb dX6_copies_8 rfl (lv_at hl 0 rfl) ?_
        refine va_get (D := D) (ci := 6) (v := .ref (ad 4)) (C := RX6) (T := TX6) (N := 42) hx hb hts iX6 hown hK hP 0 rfl rfl 9 (Nat.le_of_ble_eq_true rfl) f19 (fun _ h9 => h9) rfl dX6_copies_9 ?_
        refine lv_bipush (v := 120) hx hb dX6_copies_12 (by decide) ?_
        refine lv_iload_n hx hb dX6_copies_14 rfl (lv_at hl 2 rfl) ?_
        refine lv_imul hx hb dX6_copies_15 ?_
        refine lv_iload_n hx hb dX6_copies_16 rfl (lv_at hl 3 rfl) ?_
        refine lv_iadd hx hb dX6_copies_17 ?_
        refine lv_aload_n hx hb dX6_copies_18 rfl (lv_at hl 0 rfl) ?_
        refine va_get (D := D) (ci := 6) (v := .ref (ad 4)) (C := RX6) (T := TX6) (N := 42) hx hb hts iX6 hown hK hP 0 rfl rfl 9 (Nat.le_of_ble_eq_true rfl) f19 (fun _ h9 => h9) rfl dX6_copies_19 ?_
        refine lv_bipush (v := 120) hx hb dX6_copies_22 (by decide) ?_
        refine lv_iload_n hx hb dX6_copies_24 rfl (lv_at hl 1 rfl) ?_
        refine lv_imul hx hb dX6_copies_25 ?_
        refine lv_iload_n hx hb dX6_copies_26 rfl (lv_at hl 3 rfl) ?_
        refine lv_iadd hx hb dX6_copies_27 ?_
        obtain ⟨v3, ev3, nv3, h⟩ := e_rd h
        refine xa_iald hx hb hK hP 4 rfl nv3 ev3 dX6_copies_28 ?_
        obtain ⟨a4, ea4, na4, h⟩ := e_wr h
        refine xa_iast hx hb hK hP hD hS 4 rfl na4 ea4 dX6_copies_29 (fun H locs hP hD hS => ?_)
        have hP : va_P D vwCl (wX6 cA ad thrown tape taped value weight many block ties lines a4 pastWeight pastMany undos fresh newValue newWeight newMany newBlock newTies newLines hasBlock hasTies size att place sort number fault faultPlace lastFault lastPlace toValue toWeight toMany often firstOf lastOf unlikes unlikeMany isCandidate modes fewest) H := hP
        have hD : va_D A (wX6 cA ad thrown tape taped value weight many block ties lines a4 pastWeight pastMany undos fresh newValue newWeight newMany newBlock newTies newLines hasBlock hasTies size att place sort number fault faultPlace lastFault lastPlace toValue toWeight toMany often firstOf lastOf unlikes unlikeMany isCandidate modes fewest) := hD
        refine lv_aload_n hx hb dX6_copies_30 rfl (lv_at hl 0 rfl) ?_
        refine va_get (D := D) (ci := 6) (v := .ref (ad 5)) (C := RX6) (T := TX6) (N := 42) hx hb hts iX6 hown hK hP 0 rfl rfl 10 (Nat.le_of_ble_eq_true rfl) f22 (fun _ h9 => h9) rfl dX6_copies_31 ?_
        refine lv_bipush (v := 120) hx hb dX6_copies_34 (by decide) ?_
        refine lv_iload_n hx hb dX6_copies_36 rfl (lv_at hl 2 rfl) ?_
        refine lv_imul hx hb dX6_copies_37 ?_
        refine lv_iload_n hx hb dX6_copies_38 rfl (lv_at hl 3 rfl) ?_
        refine lv_iadd hx hb dX6_copies_39 ?_
        refine lv_aload_n hx hb dX6_copies_40 rfl (lv_at hl 0 rfl) ?_
        refine va_get (D := D) (ci := 6) (v := .ref (ad 5)) (C := RX6) (T := TX6) (N := 42) hx hb hts iX6 hown hK hP 0 rfl rfl 10 (Nat.le_of_ble_eq_true rfl) f22 (fun _ h9 => h9) rfl dX6_copies_41 ?_
        refine lv_bipush (v := 120) hx hb dX6_copies_44 (by decide) ?_
        refine lv_iload_n hx hb dX6_copies_46 rfl (lv_at hl 1 rfl) ?_
        refine lv_imul hx hb dX6_copies_47 ?_
        refine lv_iload_n hx hb dX6_copies_48 rfl (lv_at hl 3 rfl) ?_
        refine lv_iadd hx hb dX6_copies_49 ?_
        obtain ⟨v5, ev5, nv5, h⟩ := e_rd h
        refine xa_iald hx hb hK hP 5 rfl nv5 ev5 dX6_copies_50 ?_
        obtain ⟨a6, ea6, na6, h⟩ := e_wr h
        refine xa_iast hx hb hK hP hD hS 5 rfl na6 ea6 dX6_copies_51 (fun H locs hP hD hS => ?_)
        have hP : va_P D vwCl (wX6 cA ad thrown tape taped value weight many block ties lines a4 a6 pastMany undos fresh newValue newWeight newMany newBlock newTies newLines hasBlock hasTies size att place sort number fault faultPlace lastFault lastPlace toValue toWeight toMany often firstOf lastOf unlikes unlikeMany isCandidate modes fewest) H := hP
        have hD : va_D A (wX6 cA ad thrown tape taped value weight many block ties lines a4 a6 pastMany undos fresh newValue newWeight newMany newBlock newTies newLines hasBlock hasTies size att place sort number fault faultPlace lastFault lastPlace toValue toWeight toMany often firstOf lastOf unlikes unlikeMany isCandidate modes fewest) := hD
        refine lv_iinc (v := (x3 + 1)) (lv' := [(3, .int (x3 + 1)), (0, .ref (ad 0)), (1, .int x1), (2, .int x2)]) hx hb dX6_copies_52 hl (k := 3) rfl rfl (by decide) rfl (fun ls hl => ?_)
        refine lv_goto (tgt := 2) hx hb dX6_copies_55 (by decide) ?_
        exact ih2 x1 x2 (x3 + 1) thrown tape taped value weight many block ties lines a4 a6 pastMany undos fresh newValue newWeight newMany newBlock newTies newLines hasBlock hasTies size att place sort number fault faultPlace lastFault lastPlace toValue toWeight toMany often firstOf lastOf unlikes unlikeMany isCandidate modes fewest z1 _ _ _ (lv_sub hl [1, 2, 3, 0] rfl) hP hD hS h hk2
  obtain ⟨z7, ez7, h⟩ := e_b h
  refine hL2 FU x1 x2 0 thrown tape taped value weight many block ties lines pastValue pastWeight pastMany undos fresh newValue newWeight newMany newBlock newTies newLines hasBlock hasTies size att place sort number fault faultPlace lastFault lastPlace toValue toWeight toMany often firstOf lastOf unlikes unlikeMany isCandidate modes fewest z7 _ _ _ (lv_sub hl [1, 2, 3, 0] rfl) hP hD hS ez7 (fun ls H locs hl hP hD hS => ?_)
  refine lv_aload_n hx hb dX6_copies_58 rfl (lv_at hl 0 rfl) ?_
  refine va_get (D := D) (ci := 6) (v := .ref (ad 6)) (C := RX6) (T := TX6) (N := 42) hx hb hts iX6 hown hK hP 0 rfl rfl 11 (Nat.le_of_ble_eq_true rfl) f25 (fun _ h9 => h9) rfl dX6_copies_59 ?_
  refine lv_iload_n hx hb dX6_copies_62 rfl (lv_at hl 2 rfl) ?_
  refine lv_aload_n hx hb dX6_copies_63 rfl (lv_at hl 0 rfl) ?_
  refine va_get (D := D) (ci := 6) (v := .ref (ad 6)) (C := RX6) (T := TX6) (N := 42) hx hb hts iX6 hown hK hP 0 rfl rfl 11 (Nat.le_of_ble_eq_true rfl) f25 (fun _ h9 => h9) rfl dX6_copies_64 ?_
  refine lv_iload_n hx hb dX6_copies_67 rfl (lv_at hl 1 rfl) ?_
  obtain ⟨v8, ev8, nv8, h⟩ := e_rd h
  refine xa_iald hx hb hK hP 6 rfl nv8 ev8 dX6_copies_68 ?_
  obtain ⟨a9, ea9, na9, h⟩ := e_wr h
  refine xa_iast hx hb hK hP hD hS 6 rfl na9 ea9 dX6_copies_69 (fun H locs hP hD hS => ?_)
  have hP : va_P D vwCl (wX6 cA ad thrown tape taped value weight many block ties lines z7.1 z7.2 a9 undos fresh newValue newWeight newMany newBlock newTies newLines hasBlock hasTies size att place sort number fault faultPlace lastFault lastPlace toValue toWeight toMany often firstOf lastOf unlikes unlikeMany isCandidate modes fewest) H := hP
  have hD : va_D A (wX6 cA ad thrown tape taped value weight many block ties lines z7.1 z7.2 a9 undos fresh newValue newWeight newMany newBlock newTies newLines hasBlock hasTies size att place sort number fault faultPlace lastFault lastPlace toValue toWeight toMany often firstOf lastOf unlikes unlikeMany isCandidate modes fewest) := hD
  obtain rfl := e_s h
  exact hret hP hS dX6_copies_70
set_option maxHeartbeats 4000000 in
set_option maxRecDepth 100000 in
theorem kX6_edits (l : Launch) (D : va_G) (cA : Nat → ClassId) (ad : Nat → Nat) (thrown : Int32) (tape : Nat → Int32) (taped : Int32) (value : Nat → Int32) (weight : Nat → Int32) (many : Int32) (block : Int32) (ties : Int32) (lines : Int32) (pastValue : Nat → Int32) (pastWeight : Nat → Int32) (pastMany : Nat → Int32) (undos : Int32) (fresh : Int32) (newValue : Nat → Int32) (newWeight : Nat → Int32) (newMany : Int32) (newBlock : Int32) (newTies : Int32) (newLines : Int32) (hasBlock : Int32) (hasTies : Int32) (size : Int32) (att : Int32) (place : Int32) (sort : Int32) (number : Int32) (fault : Int32) (faultPlace : Int32) (lastFault : Int32) (lastPlace : Int32) (toValue : Nat → Int32) (toWeight : Nat → Int32) (toMany : Int32) (often : Nat → Int32) (firstOf : Nat → Int32) (lastOf : Nat → Int32) (unlikes : Nat → Int32) (unlikeMany : Int32) (isCandidate : Nat → Int32) (modes : Nat → Int32) (fewest : Nat → Int32)  (q : (Nat → Int32) × (Nat → Int32) × Int32 × (Nat → Int32) × (Nat → Int32) × (Nat → Int32) × Int32 × Int32) (h : mX6_edits value weight many block pastValue pastWeight pastMany undos fresh toValue toWeight toMany  = some q) : MV l yX6_edits wsX6_edits { frames := 4, cells := 0, slots := 0, locals := 91 } D cA [.ref (ad 0)] (wX6 cA ad thrown tape taped value weight many block ties lines pastValue pastWeight pastMany undos fresh newValue newWeight newMany newBlock newTies newLines hasBlock hasTies size att place sort number fault faultPlace lastFault lastPlace toValue toWeight toMany often firstOf lastOf unlikes unlikeMany isCandidate modes fewest) (wX6 cA ad thrown tape taped q.1 q.2.1 q.2.2.1 block ties lines q.2.2.2.1 q.2.2.2.2.1 q.2.2.2.2.2.1 q.2.2.2.2.2.2.1 q.2.2.2.2.2.2.2 newValue newWeight newMany newBlock newTies newLines hasBlock hasTies size att place sort number fault faultPlace lastFault lastPlace toValue toWeight toMany often firstOf lastOf unlikes unlikeMany isCandidate modes fewest) := by
  refine MV.of (cc := cX6_edits) (maxL := 2) (by decide) rfl rfl rfl (Nat.le_of_ble_eq_true rfl) ?_
  intro p e s m args below meth c A ls Q hx hb hml hts hown hK hP hD hA hS hl hret
  have hl : lv_has ls 2 [(0, .ref (ad 0))] := hl
  have f13 := hts (.fieldLink RX6 13 "ModeDeskModel" "value" "[I") (by decide +kernel)
  have f16 := hts (.fieldLink RX6 16 "ModeDeskModel" "weight" "[I") (by decide +kernel)
  have f175 := hts (.fieldLink RX6 175 "ModeDeskModel" "many" "I") (by decide +kernel)
  have f184 := hts (.fieldLink RX6 184 "ModeDeskModel" "undos" "I") (by decide +kernel)
  have f19 := hts (.fieldLink RX6 19 "ModeDeskModel" "pastValue" "[I") (by decide +kernel)
  have f22 := hts (.fieldLink RX6 22 "ModeDeskModel" "pastWeight" "[I") (by decide +kernel)
  have f25 := hts (.fieldLink RX6 25 "ModeDeskModel" "pastMany" "[I") (by decide +kernel)
  have iX6 : ∀ w ∈ wsX60, w ∈ wsX6_edits := by decide +kernel
  unfold mX6_edits at h
  refine lv_aload_n hx hb dX6_edits_0 rfl (lv_at hl 0 rfl) ?_
  obtain ⟨q1, eq1, h⟩ := e_b h
  refine xv_i0 (As := []) (rest := []) (ci := 6) (b := ad 0) ⟨hx, hb, hml, hown, hts⟩ hl.1 (kX6_isOther l D cA ad thrown tape taped value weight many block ties lines pastValue pastWeight pastMany undos fresh newValue newWeight newMany newBlock newTies newLines hasBlock hasTies size att place sort number fault faultPlace lastFault lastPlace toValue toWeight toMany often firstOf lastOf unlikes unlikeMany isCandidate modes fewest  _ eq1) (cwV 0 hts gX6_edits_X6_isOther rfl rfl rfl (by decide +kernel) ⟨Nat.le_of_ble_eq_true rfl, Nat.le_of_ble_eq_true rfl⟩) rfl hK hP hD hS hA 0 rfl rfl rfl rfl (Nat.le_of_ble_eq_true rfl) dX6_edits_1 ⟨Nat.zero_le _, Nat.zero_le _⟩ (fun H locs hP hD hS hnq1 => ?_)
  have hP : va_P D vwCl (wX6 cA ad thrown tape taped value weight many block ties lines pastValue pastWeight pastMany undos fresh newValue newWeight newMany newBlock newTies newLines hasBlock hasTies size att place sort number fault faultPlace lastFault lastPlace toValue toWeight toMany often firstOf lastOf unlikes unlikeMany isCandidate modes fewest) H := hP
  have hD : va_D A (wX6 cA ad thrown tape taped value weight many block ties lines pastValue pastWeight pastMany undos fresh newValue newWeight newMany newBlock newTies newLines hasBlock hasTies size att place sort number fault faultPlace lastFault lastPlace toValue toWeight toMany often firstOf lastOf unlikes unlikeMany isCandidate modes fewest) := hD
  refine lv_if_ne (tgt := 8) hx hb dX6_edits_4 (by decide) (fun c2 => ?_) (fun c2 => ?_)
  · have h := e_t c2 h
    refine lv_aload_n hx hb dX6_edits_8 rfl (lv_at hl 0 rfl) ?_
    refine va_get (D := D) (ci := 6) (v := .int undos) (C := RX6) (T := TX6) (N := 42) hx hb hts iX6 hown hK hP 0 rfl rfl 12 (Nat.le_of_ble_eq_true rfl) f184 (fun _ h9 => h9) rfl dX6_edits_9 ?_
    refine lv_bipush (v := 12) hx hb dX6_edits_12 (by decide) ?_
    refine lv_icmp_ne (tgt := 49) hx hb dX6_edits_14 (by decide) (fun c3 => ?_) (fun c3 => ?_)
    · have h := e_t c3 h
      refine lv_iconst (v := 0) hx hb dX6_edits_49 (by decide) ?_
      refine lv_istore_n (lv' := [(1, .int 0), (0, .ref (ad 0))]) hx hb dX6_edits_50 rfl hl (by decide) rfl (fun ls hl => ?_)
      have hL51 : ∀ (n : Nat) (x1 : Int32) (thrown : Int32) (tape : Nat → Int32) (taped : Int32) (value : Nat → Int32) (weight : Nat → Int32) (many : Int32) (block : Int32) (ties : Int32) (lines : Int32) (pastValue : Nat → Int32) (pastWeight : Nat → Int32) (pastMany : Nat → Int32) (undos : Int32) (fresh : Int32) (newValue : Nat → Int32) (newWeight : Nat → Int32) (newMany : Int32) (newBlock : Int32) (newTies : Int32) (newLines : Int32) (hasBlock : Int32) (hasTies : Int32) (size : Int32) (att : Int32) (place : Int32) (sort : Int32) (number : Int32) (fault : Int32) (faultPlace : Int32) (lastFault : Int32) (lastPlace : Int32) (toValue : Nat → Int32) (toWeight : Nat → Int32) (toMany : Int32) (often : Nat → Int32) (firstOf : Nat → Int32) (lastOf : Nat → Int32) (unlikes : Nat → Int32) (unlikeMany : Int32) (isCandidate : Nat → Int32) (modes : Nat → Int32) (fewest : Nat → Int32) (z4 : (Nat → Int32) × (Nat → Int32)) (ls : Array Slot) (H : Heap) (locs : List Loc), lv_has ls 2 [(0, .ref (ad 0)), (1, .int x1)] → va_P D vwCl (wX6 cA ad thrown tape taped value weight many block ties lines pastValue pastWeight pastMany undos fresh newValue newWeight newMany newBlock newTies newLines hasBlock hasTies size att place sort number fault faultPlace lastFault lastPlace toValue toWeight toMany often firstOf lastOf unlikes unlikeMany isCandidate modes fewest) H → va_D A (wX6 cA ad thrown tape taped value weight many block ties lines pastValue pastWeight pastMany undos fresh newValue newWeight newMany newBlock newTies newLines hasBlock hasTies size att place sort number fault faultPlace lastFault lastPlace toValue toWeight toMany often firstOf lastOf unlikes unlikeMany isCandidate modes fewest) → va_S A s.heap H locs → mX6_edits_L51 value weight many undos n x1 pastValue pastWeight = some z4 → (∀ (ls : Array Slot) (H : Heap) (locs : List Loc), lv_has ls 2 [(0, .ref (ad 0))] → va_P D vwCl (wX6 cA ad thrown tape taped value weight many block ties lines z4.1 z4.2 pastMany undos fresh newValue newWeight newMany newBlock newTies newLines hasBlock hasTies size att place sort number fault faultPlace lastFault lastPlace toValue toWeight toMany often firstOf lastOf unlikes unlikeMany isCandidate modes fewest) H → va_D A (wX6 cA ad thrown tape taped value weight many block ties lines z4.1 z4.2 pastMany undos fresh newValue newWeight newMany newBlock newTies newLines hasBlock hasTies size att place sort number fault faultPlace lastFault lastPlace toValue toWeight toMany often firstOf lastOf unlikes unlikeMany isCandidate modes fewest) → va_S A s.heap H locs → W p l e (headSpec wsX6_edits { frames := 4, cells := 0, slots := 0, locals := 91 }).room s m args below meth c H locs 0 0 Q (F0 m 105 ls [])) → W p l e (headSpec wsX6_edits { frames := 4, cells := 0, slots := 0, locals := 91 }).room s m args below meth c H locs 0 0 Q (F0 m 51 ls []) := by
        intro n
        induction n with
        | zero => intro x1 thrown tape taped value weight many block ties lines pastValue pastWeight pastMany undos fresh newValue newWeight newMany newBlock newTies newLines hasBlock hasTies size att place sort number fault faultPlace lastFault lastPlace toValue toWeight toMany often firstOf lastOf unlikes unlikeMany isCandidate modes fewest z4 ls H locs hl hP hD hS h hk51; exact e_n h
        | succ n ih51 =>
          intro x1 thrown tape taped value weight many block ties lines pastValue pastWeight pastMany undos fresh newValue newWeight newMany newBlock newTies newLines hasBlock hasTies size att place sort number fault faultPlace lastFault lastPlace toValue toWeight toMany often firstOf lastOf unlikes unlikeMany isCandidate modes fewest z4 ls H locs hl hP hD hS h hk51
          rw [mX6_edits_L51.eq_2] at h
          refine lv_iload_n hx hb dX6_edits_51 rfl (lv_at hl 1 rfl) ?_
          refine lv_aload_n hx hb dX6_edits_52 rfl (lv_at hl 0 rfl) ?_
          refine va_get (D := D) (ci := 6) (v := .int many) (C := RX6) (T := TX6) (N := 42) hx hb hts iX6 hown hK hP 0 rfl rfl 5 (Nat.le_of_ble_eq_true rfl) f175 (fun _ h9 => h9) rfl dX6_edits_53 ?_
          refine lv_icmp_ge (tgt := 105) hx hb dX6_edits_56 (by decide) (fun c5 => ?_) (fun c5 => ?_)
          · have h := e_t c5 h
            obtain rfl := e_s h
            exact hk51 _ _ _ (lv_sub hl [0] rfl) hP hD hS
          · have h := e_f c5 h
            refine lv_aload_n hx hb dX6_edits_59 rfl (lv_at hl 0 rfl) ?_
            refine va_get (D := D) (ci := 6) (v := .ref (ad 4)) (C := RX6) (T := TX6) (N := 42) hx hb hts iX6 hown hK hP 0 rfl rfl 9 (Nat.le_of_ble_eq_true rfl) f19 (fun _ h9 => h9) rfl dX6_edits_60 ?_
            refine lv_bipush (v := 120) hx hb dX6_edits_63 (by decide) ?_
            refine lv_aload_n hx hb dX6_edits_65 rfl (lv_at hl 0 rfl) ?_
            refine va_get (D := D) (ci := 6) (v := .int undos) (C := RX6) (T := TX6) (N := 42) hx hb hts iX6 hown hK hP 0 rfl rfl 12 (Nat.le_of_ble_eq_true rfl) f184 (fun _ h9 => h9) rfl dX6_edits_66 ?_
            refine lv_imul hx hb dX6_edits_69 ?_
            refine lv_iload_n hx hb dX6_edits_70 rfl (lv_at hl 1 rfl) ?_
            refine lv_iadd hx hb dX6_edits_71 ?_
            refine lv_aload_n hx hb dX6_edits_72 rfl (lv_at hl 0 rfl) ?_
            refine va_get (D := D) (ci := 6) (v := .ref (ad 2)) (C := RX6) (T := TX6) (N := 42) hx hb hts iX6 hown hK hP 0 rfl rfl 3 (Nat.le_of_ble_eq_true rfl) f13 (fun _ h9 => h9) rfl dX6_edits_73 ?_
            refine lv_iload_n hx hb dX6_edits_76 rfl (lv_at hl 1 rfl) ?_
            obtain ⟨v6, ev6, nv6, h⟩ := e_rd h
            refine xa_iald hx hb hK hP 2 rfl nv6 ev6 dX6_edits_77 ?_
            obtain ⟨a7, ea7, na7, h⟩ := e_wr h
            refine xa_iast hx hb hK hP hD hS 4 rfl na7 ea7 dX6_edits_78 (fun H locs hP hD hS => ?_)
            have hP : va_P D vwCl (wX6 cA ad thrown tape taped value weight many block ties lines a7 pastWeight pastMany undos fresh newValue newWeight newMany newBlock newTies newLines hasBlock hasTies size att place sort number fault faultPlace lastFault lastPlace toValue toWeight toMany often firstOf lastOf unlikes unlikeMany isCandidate modes fewest) H := hP
            have hD : va_D A (wX6 cA ad thrown tape taped value weight many block ties lines a7 pastWeight pastMany undos fresh newValue newWeight newMany newBlock newTies newLines hasBlock hasTies size att place sort number fault faultPlace lastFault lastPlace toValue toWeight toMany often firstOf lastOf unlikes unlikeMany isCandidate modes fewest) := hD
            refine lv_aload_n hx hb dX6_edits_79 rfl (lv_at hl 0 rfl) ?_
            refine va_get (D := D) (ci := 6) (v := .ref (ad 5)) (C := RX6) (T := TX6) (N := 42) hx hb hts iX6 hown hK hP 0 rfl rfl 10 (Nat.le_of_ble_eq_true rfl) f22 (fun _ h9 => h9) rfl dX6_edits_80 ?_
            refine lv_bipush (v := 120) hx hb dX6_edits_83 (by decide) ?_
            refine lv_aload_n hx hb dX6_edits_85 rfl (lv_at hl 0 rfl) ?_
            refine va_get (D := D) (ci := 6) (v := .int undos) (C := RX6) (T := TX6) (N := 42) hx hb hts iX6 hown hK hP 0 rfl rfl 12 (Nat.le_of_ble_eq_true rfl) f184 (fun _ h9 => h9) rfl dX6_edits_86 ?_
            refine lv_imul hx hb dX6_edits_89 ?_
            refine lv_iload_n hx hb dX6_edits_90 rfl (lv_at hl 1 rfl) ?_
            refine lv_iadd hx hb dX6_edits_91 ?_
            refine lv_aload_n hx hb dX6_edits_92 rfl (lv_at hl 0 rfl) ?_
            refine va_get (D := D) (ci := 6) (v := .ref (ad 3)) (C := RX6) (T := TX6) (N := 42) hx hb hts iX6 hown hK hP 0 rfl rfl 4 (Nat.le_of_ble_eq_true rfl) f16 (fun _ h9 => h9) rfl dX6_edits_93 ?_
            refine lv_iload_n hx hb dX6_edits_96 rfl (lv_at hl 1 rfl) ?_
            obtain ⟨v8, ev8, nv8, h⟩ := e_rd h
            refine xa_iald hx hb hK hP 3 rfl nv8 ev8 dX6_edits_97 ?_
            obtain ⟨a9, ea9, na9, h⟩ := e_wr h
            refine xa_iast hx hb hK hP hD hS 5 rfl na9 ea9 dX6_edits_98 (fun H locs hP hD hS => ?_)
            have hP : va_P D vwCl (wX6 cA ad thrown tape taped value weight many block ties lines a7 a9 pastMany undos fresh newValue newWeight newMany newBlock newTies newLines hasBlock hasTies size att place sort number fault faultPlace lastFault lastPlace toValue toWeight toMany often firstOf lastOf unlikes unlikeMany isCandidate modes fewest) H := hP
            have hD : va_D A (wX6 cA ad thrown tape taped value weight many block ties lines a7 a9 pastMany undos fresh newValue newWeight newMany newBlock newTies newLines hasBlock hasTies size att place sort number fault faultPlace lastFault lastPlace toValue toWeight toMany often firstOf lastOf unlikes unlikeMany isCandidate modes fewest) := hD
            refine lv_iinc (v := (x1 + 1)) (lv' := [(1, .int (x1 + 1)), (0, .ref (ad 0))]) hx hb dX6_edits_99 hl (k := 1) rfl rfl (by decide) rfl (fun ls hl => ?_)
            refine lv_goto (tgt := 51) hx hb dX6_edits_102 (by decide) ?_
            exact ih51 (x1 + 1) thrown tape taped value weight many block ties lines a7 a9 pastMany undos fresh newValue newWeight newMany newBlock newTies newLines hasBlock hasTies size att place sort number fault faultPlace lastFault lastPlace toValue toWeight toMany often firstOf lastOf unlikes unlikeMany isCandidate modes fewest z4 _ _ _ (lv_sub hl [1, 0] rfl) hP hD hS h hk51
      obtain ⟨z10, ez10, h⟩ := e_b h
      refine hL51 FU 0 thrown tape taped value weight many block ties lines pastValue pastWeight pastMany undos fresh newValue newWeight newMany newBlock newTies newLines hasBlock hasTies size att place sort number fault faultPlace lastFault lastPlace toValue toWeight toMany often firstOf lastOf unlikes unlikeMany isCandidate modes fewest z10 _ _ _ (lv_sub hl [1, 0] rfl) hP hD hS ez10 (fun ls H locs hl hP hD hS => ?_)
      refine lv_aload_n hx hb dX6_edits_105 rfl (lv_at hl 0 rfl) ?_
      refine va_get (D := D) (ci := 6) (v := .ref (ad 6)) (C := RX6) (T := TX6) (N := 42) hx hb hts iX6 hown hK hP 0 rfl rfl 11 (Nat.le_of_ble_eq_true rfl) f25 (fun _ h9 => h9) rfl dX6_edits_106 ?_
      refine lv_aload_n hx hb dX6_edits_109 rfl (lv_at hl 0 rfl) ?_
      refine va_get (D := D) (ci := 6) (v := .int undos) (C := RX6) (T := TX6) (N := 42) hx hb hts iX6 hown hK hP 0 rfl rfl 12 (Nat.le_of_ble_eq_true rfl) f184 (fun _ h9 => h9) rfl dX6_edits_110 ?_
      refine lv_aload_n hx hb dX6_edits_113 rfl (lv_at hl 0 rfl) ?_
      refine va_get (D := D) (ci := 6) (v := .int many) (C := RX6) (T := TX6) (N := 42) hx hb hts iX6 hown hK hP 0 rfl rfl 5 (Nat.le_of_ble_eq_true rfl) f175 (fun _ h9 => h9) rfl dX6_edits_114 ?_
      obtain ⟨a11, ea11, na11, h⟩ := e_wr h
      refine xa_iast hx hb hK hP hD hS 6 rfl na11 ea11 dX6_edits_117 (fun H locs hP hD hS => ?_)
      have hP : va_P D vwCl (wX6 cA ad thrown tape taped value weight many block ties lines z10.1 z10.2 a11 undos fresh newValue newWeight newMany newBlock newTies newLines hasBlock hasTies size att place sort number fault faultPlace lastFault lastPlace toValue toWeight toMany often firstOf lastOf unlikes unlikeMany isCandidate modes fewest) H := hP
      have hD : va_D A (wX6 cA ad thrown tape taped value weight many block ties lines z10.1 z10.2 a11 undos fresh newValue newWeight newMany newBlock newTies newLines hasBlock hasTies size att place sort number fault faultPlace lastFault lastPlace toValue toWeight toMany often firstOf lastOf unlikes unlikeMany isCandidate modes fewest) := hD
      refine lv_aload_n hx hb dX6_edits_118 rfl (lv_at hl 0 rfl) ?_
      refine lv_dup hx hb dX6_edits_119 rfl ?_
      refine va_get (D := D) (ci := 6) (v := .int undos) (C := RX6) (T := TX6) (N := 42) hx hb hts iX6 hown hK hP 0 rfl rfl 12 (Nat.le_of_ble_eq_true rfl) f184 (fun _ h9 => h9) rfl dX6_edits_120 ?_
      refine lv_iconst (v := 1) hx hb dX6_edits_123 (by decide) ?_
      refine lv_iadd hx hb dX6_edits_124 ?_
      refine va_put (D := D) (ci := 6) (v := .int (undos + 1)) (ty := .int) (C := RX6) (T := TX6) (N := 42) hx hb hts iX6 tyX6 tyX6_ok nmX6 hown hK hP hD hS 0 rfl rfl 12 (Nat.le_of_ble_eq_true rfl) f184 (fun _ h9 => h9) rfl (tyX6_ok 12 (Nat.le_of_ble_eq_true rfl)) rfl rfl (Nat.le_of_ble_eq_true rfl) dX6_edits_125 (fun H locs hP hD hS => ?_)
      have hP : va_P D vwCl (wX6 cA ad thrown tape taped value weight many block ties lines z10.1 z10.2 a11 (undos + 1) fresh newValue newWeight newMany newBlock newTies newLines hasBlock hasTies size att place sort number fault faultPlace lastFault lastPlace toValue toWeight toMany often firstOf lastOf unlikes unlikeMany isCandidate modes fewest) H := hP
      have hD : va_D A (wX6 cA ad thrown tape taped value weight many block ties lines z10.1 z10.2 a11 (undos + 1) fresh newValue newWeight newMany newBlock newTies newLines hasBlock hasTies size att place sort number fault faultPlace lastFault lastPlace toValue toWeight toMany often firstOf lastOf unlikes unlikeMany isCandidate modes fewest) := hD
      refine lv_aload_n hx hb dX6_edits_128 rfl (lv_at hl 0 rfl) ?_
      obtain ⟨q12, eq12, h⟩ := e_b h
      refine xv_v0 (As := []) (rest := []) (ci := 6) (b := ad 0) ⟨hx, hb, hml, hown, hts⟩ hl.1 (kX6_becomes l D cA ad thrown tape taped value weight many block ties lines z10.1 z10.2 a11 (undos + 1) fresh newValue newWeight newMany newBlock newTies newLines hasBlock hasTies size att place sort number fault faultPlace lastFault lastPlace toValue toWeight toMany often firstOf lastOf unlikes unlikeMany isCandidate modes fewest  _ eq12) (cwV 0 hts gX6_edits_X6_becomes rfl rfl rfl (by decide +kernel) ⟨Nat.le_of_ble_eq_true rfl, Nat.le_of_ble_eq_true rfl⟩) rfl hK hP hD hS hA 0 rfl rfl rfl rfl (Nat.le_of_ble_eq_true rfl) dX6_edits_129 ⟨Nat.zero_le _, Nat.zero_le _⟩ (fun H locs hP hD hS => ?_)
      have hP : va_P D vwCl (wX6 cA ad thrown tape taped q12.1 q12.2.1 q12.2.2.1 block ties lines z10.1 z10.2 a11 (undos + 1) q12.2.2.2 newValue newWeight newMany newBlock newTies newLines hasBlock hasTies size att place sort number fault faultPlace lastFault lastPlace toValue toWeight toMany often firstOf lastOf unlikes unlikeMany isCandidate modes fewest) H := hP
      have hD : va_D A (wX6 cA ad thrown tape taped q12.1 q12.2.1 q12.2.2.1 block ties lines z10.1 z10.2 a11 (undos + 1) q12.2.2.2 newValue newWeight newMany newBlock newTies newLines hasBlock hasTies size att place sort number fault faultPlace lastFault lastPlace toValue toWeight toMany often firstOf lastOf unlikes unlikeMany isCandidate modes fewest) := hD
      obtain rfl := e_s h
      exact hret hP hS dX6_edits_132
    · have h := e_f (not_not_intro c3) h
      refine lv_iconst (v := 1) hx hb dX6_edits_17 (by decide) ?_
      refine lv_istore_n (lv' := [(1, .int 1), (0, .ref (ad 0))]) hx hb dX6_edits_18 rfl hl (by decide) rfl (fun ls hl => ?_)
      have hL19 : ∀ (n : Nat) (x1 : Int32) (thrown : Int32) (tape : Nat → Int32) (taped : Int32) (value : Nat → Int32) (weight : Nat → Int32) (many : Int32) (block : Int32) (ties : Int32) (lines : Int32) (pastValue : Nat → Int32) (pastWeight : Nat → Int32) (pastMany : Nat → Int32) (undos : Int32) (fresh : Int32) (newValue : Nat → Int32) (newWeight : Nat → Int32) (newMany : Int32) (newBlock : Int32) (newTies : Int32) (newLines : Int32) (hasBlock : Int32) (hasTies : Int32) (size : Int32) (att : Int32) (place : Int32) (sort : Int32) (number : Int32) (fault : Int32) (faultPlace : Int32) (lastFault : Int32) (lastPlace : Int32) (toValue : Nat → Int32) (toWeight : Nat → Int32) (toMany : Int32) (often : Nat → Int32) (firstOf : Nat → Int32) (lastOf : Nat → Int32) (unlikes : Nat → Int32) (unlikeMany : Int32) (isCandidate : Nat → Int32) (modes : Nat → Int32) (fewest : Nat → Int32) (z13 : (Nat → Int32) × (Nat → Int32) × (Nat → Int32)) (ls : Array Slot) (H : Heap) (locs : List Loc), lv_has ls 2 [(0, .ref (ad 0)), (1, .int x1)] → va_P D vwCl (wX6 cA ad thrown tape taped value weight many block ties lines pastValue pastWeight pastMany undos fresh newValue newWeight newMany newBlock newTies newLines hasBlock hasTies size att place sort number fault faultPlace lastFault lastPlace toValue toWeight toMany often firstOf lastOf unlikes unlikeMany isCandidate modes fewest) H → va_D A (wX6 cA ad thrown tape taped value weight many block ties lines pastValue pastWeight pastMany undos fresh newValue newWeight newMany newBlock newTies newLines hasBlock hasTies size att place sort number fault faultPlace lastFault lastPlace toValue toWeight toMany often firstOf lastOf unlikes unlikeMany isCandidate modes fewest) → va_S A s.heap H locs → mX6_edits_L19  n x1 pastValue pastWeight pastMany = some z13 → (∀ (ls : Array Slot) (H : Heap) (locs : List Loc), lv_has ls 2 [(0, .ref (ad 0))] → va_P D vwCl (wX6 cA ad thrown tape taped value weight many block ties lines z13.1 z13.2.1 z13.2.2 undos fresh newValue newWeight newMany newBlock newTies newLines hasBlock hasTies size att place sort number fault faultPlace lastFault lastPlace toValue toWeight toMany often firstOf lastOf unlikes unlikeMany isCandidate modes fewest) H → va_D A (wX6 cA ad thrown tape taped value weight many block ties lines z13.1 z13.2.1 z13.2.2 undos fresh newValue newWeight newMany newBlock newTies newLines hasBlock hasTies size att place sort number fault faultPlace lastFault lastPlace toValue toWeight toMany often firstOf lastOf unlikes unlikeMany isCandidate modes fewest) → va_S A s.heap H locs → W p l e (headSpec wsX6_edits { frames := 4, cells := 0, slots := 0, locals := 91 }).room s m args below meth c H locs 0 0 Q (F0 m 39 ls [])) → W p l e (headSpec wsX6_edits { frames := 4, cells := 0, slots := 0, locals := 91 }).room s m args below meth c H locs 0 0 Q (F0 m 19 ls []) := by
        intro n
        induction n with
        | zero => intro x1 thrown tape taped value weight many block ties lines pastValue pastWeight pastMany undos fresh newValue newWeight newMany newBlock newTies newLines hasBlock hasTies size att place sort number fault faultPlace lastFault lastPlace toValue toWeight toMany often firstOf lastOf unlikes unlikeMany isCandidate modes fewest z13 ls H locs hl hP hD hS h hk19; exact e_n h
        | succ n ih19 =>
          intro x1 thrown tape taped value weight many block ties lines pastValue pastWeight pastMany undos fresh newValue newWeight newMany newBlock newTies newLines hasBlock hasTies size att place sort number fault faultPlace lastFault lastPlace toValue toWeight toMany often firstOf lastOf unlikes unlikeMany isCandidate modes fewest z13 ls H locs hl hP hD hS h hk19
          rw [mX6_edits_L19.eq_2] at h
          refine lv_iload_n hx hb dX6_edits_19 rfl (lv_at hl 1 rfl) ?_
          refine lv_bipush (v := 12) hx hb dX6_edits_20 (by decide) ?_
          refine lv_icmp_ge (tgt := 39) hx hb dX6_edits_22 (by decide) (fun c14 => ?_) (fun c14 => ?_)
          · have h := e_t c14 h
            obtain rfl := e_s h
            exact hk19 _ _ _ (lv_sub hl [0] rfl) hP hD hS
          · have h := e_f c14 h
            refine lv_aload_n hx hb dX6_edits_25 rfl (lv_at hl 0 rfl) ?_
            refine lv_iload_n hx hb dX6_edits_26 rfl (lv_at hl 1 rfl) ?_
            refine lv_iload_n hx hb dX6_edits_27 rfl (lv_at hl 1 rfl) ?_
            refine lv_iconst (v := 1) hx hb dX6_edits_28 (by decide) ?_
            refine lv_isub hx hb dX6_edits_29 ?_
            obtain ⟨q15, eq15, h⟩ := e_b h
            refine xv_v0 (As := [.int x1, .int (x1 - 1)]) (rest := []) (ci := 6) (b := ad 0) ⟨hx, hb, hml, hown, hts⟩ hl.1 (kX6_copies l D cA ad thrown tape taped value weight many block ties lines pastValue pastWeight pastMany undos fresh newValue newWeight newMany newBlock newTies newLines hasBlock hasTies size att place sort number fault faultPlace lastFault lastPlace toValue toWeight toMany often firstOf lastOf unlikes unlikeMany isCandidate modes fewest x1 (x1 - 1) _ eq15) (cwV 2 hts gX6_edits_X6_copies rfl rfl rfl (by decide +kernel) ⟨Nat.le_of_ble_eq_true rfl, Nat.le_of_ble_eq_true rfl⟩) rfl hK hP hD hS hA 0 rfl rfl rfl rfl (Nat.le_of_ble_eq_true rfl) dX6_edits_30 ⟨Nat.zero_le _, Nat.zero_le _⟩ (fun H locs hP hD hS => ?_)
            have hP : va_P D vwCl (wX6 cA ad thrown tape taped value weight many block ties lines q15.1 q15.2.1 q15.2.2 undos fresh newValue newWeight newMany newBlock newTies newLines hasBlock hasTies size att place sort number fault faultPlace lastFault lastPlace toValue toWeight toMany often firstOf lastOf unlikes unlikeMany isCandidate modes fewest) H := hP
            have hD : va_D A (wX6 cA ad thrown tape taped value weight many block ties lines q15.1 q15.2.1 q15.2.2 undos fresh newValue newWeight newMany newBlock newTies newLines hasBlock hasTies size att place sort number fault faultPlace lastFault lastPlace toValue toWeight toMany often firstOf lastOf unlikes unlikeMany isCandidate modes fewest) := hD
            refine lv_iinc (v := (x1 + 1)) (lv' := [(1, .int (x1 + 1)), (0, .ref (ad 0))]) hx hb dX6_edits_33 hl (k := 1) rfl rfl (by decide) rfl (fun ls hl => ?_)
            refine lv_goto (tgt := 19) hx hb dX6_edits_36 (by decide) ?_
            exact ih19 (x1 + 1) thrown tape taped value weight many block ties lines q15.1 q15.2.1 q15.2.2 undos fresh newValue newWeight newMany newBlock newTies newLines hasBlock hasTies size att place sort number fault faultPlace lastFault lastPlace toValue toWeight toMany often firstOf lastOf unlikes unlikeMany isCandidate modes fewest z13 _ _ _ (lv_sub hl [1, 0] rfl) hP hD hS h hk19
      obtain ⟨z16, ez16, h⟩ := e_b h
      refine hL19 FU 1 thrown tape taped value weight many block ties lines pastValue pastWeight pastMany undos fresh newValue newWeight newMany newBlock newTies newLines hasBlock hasTies size att place sort number fault faultPlace lastFault lastPlace toValue toWeight toMany often firstOf lastOf unlikes unlikeMany isCandidate modes fewest z16 _ _ _ (lv_sub hl [1, 0] rfl) hP hD hS ez16 (fun ls H locs hl hP hD hS => ?_)
      refine lv_aload_n hx hb dX6_edits_39 rfl (lv_at hl 0 rfl) ?_
      refine lv_dup hx hb dX6_edits_40 rfl ?_
      refine va_get (D := D) (ci := 6) (v := .int undos) (C := RX6) (T := TX6) (N := 42) hx hb hts iX6 hown hK hP 0 rfl rfl 12 (Nat.le_of_ble_eq_true rfl) f184 (fun _ h9 => h9) rfl dX6_edits_41 ?_
      refine lv_iconst (v := 1) hx hb dX6_edits_44 (by decide) ?_
      refine lv_isub hx hb dX6_edits_45 ?_
      refine va_put (D := D) (ci := 6) (v := .int (undos - 1)) (ty := .int) (C := RX6) (T := TX6) (N := 42) hx hb hts iX6 tyX6 tyX6_ok nmX6 hown hK hP hD hS 0 rfl rfl 12 (Nat.le_of_ble_eq_true rfl) f184 (fun _ h9 => h9) rfl (tyX6_ok 12 (Nat.le_of_ble_eq_true rfl)) rfl rfl (Nat.le_of_ble_eq_true rfl) dX6_edits_46 (fun H locs hP hD hS => ?_)
      have hP : va_P D vwCl (wX6 cA ad thrown tape taped value weight many block ties lines z16.1 z16.2.1 z16.2.2 (undos - 1) fresh newValue newWeight newMany newBlock newTies newLines hasBlock hasTies size att place sort number fault faultPlace lastFault lastPlace toValue toWeight toMany often firstOf lastOf unlikes unlikeMany isCandidate modes fewest) H := hP
      have hD : va_D A (wX6 cA ad thrown tape taped value weight many block ties lines z16.1 z16.2.1 z16.2.2 (undos - 1) fresh newValue newWeight newMany newBlock newTies newLines hasBlock hasTies size att place sort number fault faultPlace lastFault lastPlace toValue toWeight toMany often firstOf lastOf unlikes unlikeMany isCandidate modes fewest) := hD
      refine lv_iconst (v := 0) hx hb dX6_edits_49 (by decide) ?_
      refine lv_istore_n (lv' := [(1, .int 0), (0, .ref (ad 0))]) hx hb dX6_edits_50 rfl hl (by decide) rfl (fun ls hl => ?_)
      have hL51 : ∀ (n : Nat) (x1 : Int32) (thrown : Int32) (tape : Nat → Int32) (taped : Int32) (value : Nat → Int32) (weight : Nat → Int32) (many : Int32) (block : Int32) (ties : Int32) (lines : Int32) (pastValue : Nat → Int32) (pastWeight : Nat → Int32) (pastMany : Nat → Int32) (undos : Int32) (fresh : Int32) (newValue : Nat → Int32) (newWeight : Nat → Int32) (newMany : Int32) (newBlock : Int32) (newTies : Int32) (newLines : Int32) (hasBlock : Int32) (hasTies : Int32) (size : Int32) (att : Int32) (place : Int32) (sort : Int32) (number : Int32) (fault : Int32) (faultPlace : Int32) (lastFault : Int32) (lastPlace : Int32) (toValue : Nat → Int32) (toWeight : Nat → Int32) (toMany : Int32) (often : Nat → Int32) (firstOf : Nat → Int32) (lastOf : Nat → Int32) (unlikes : Nat → Int32) (unlikeMany : Int32) (isCandidate : Nat → Int32) (modes : Nat → Int32) (fewest : Nat → Int32) (z17 : (Nat → Int32) × (Nat → Int32)) (ls : Array Slot) (H : Heap) (locs : List Loc), lv_has ls 2 [(0, .ref (ad 0)), (1, .int x1)] → va_P D vwCl (wX6 cA ad thrown tape taped value weight many block ties lines pastValue pastWeight pastMany undos fresh newValue newWeight newMany newBlock newTies newLines hasBlock hasTies size att place sort number fault faultPlace lastFault lastPlace toValue toWeight toMany often firstOf lastOf unlikes unlikeMany isCandidate modes fewest) H → va_D A (wX6 cA ad thrown tape taped value weight many block ties lines pastValue pastWeight pastMany undos fresh newValue newWeight newMany newBlock newTies newLines hasBlock hasTies size att place sort number fault faultPlace lastFault lastPlace toValue toWeight toMany often firstOf lastOf unlikes unlikeMany isCandidate modes fewest) → va_S A s.heap H locs → mX6_edits_L51 value weight many undos n x1 pastValue pastWeight = some z17 → (∀ (ls : Array Slot) (H : Heap) (locs : List Loc), lv_has ls 2 [(0, .ref (ad 0))] → va_P D vwCl (wX6 cA ad thrown tape taped value weight many block ties lines z17.1 z17.2 pastMany undos fresh newValue newWeight newMany newBlock newTies newLines hasBlock hasTies size att place sort number fault faultPlace lastFault lastPlace toValue toWeight toMany often firstOf lastOf unlikes unlikeMany isCandidate modes fewest) H → va_D A (wX6 cA ad thrown tape taped value weight many block ties lines z17.1 z17.2 pastMany undos fresh newValue newWeight newMany newBlock newTies newLines hasBlock hasTies size att place sort number fault faultPlace lastFault lastPlace toValue toWeight toMany often firstOf lastOf unlikes unlikeMany isCandidate modes fewest) → va_S A s.heap H locs → W p l e (headSpec wsX6_edits { frames := 4, cells := 0, slots := 0, locals := 91 }).room s m args below meth c H locs 0 0 Q (F0 m 105 ls [])) → W p l e (headSpec wsX6_edits { frames := 4, cells := 0, slots := 0, locals := 91 }).room s m args below meth c H locs 0 0 Q (F0 m 51 ls []) := by
        intro n
        induction n with
        | zero => intro x1 thrown tape taped value weight many block ties lines pastValue pastWeight pastMany undos fresh newValue newWeight newMany newBlock newTies newLines hasBlock hasTies size att place sort number fault faultPlace lastFault lastPlace toValue toWeight toMany often firstOf lastOf unlikes unlikeMany isCandidate modes fewest z17 ls H locs hl hP hD hS h hk51; exact e_n h
        | succ n ih51 =>
          intro x1 thrown tape taped value weight many block ties lines pastValue pastWeight pastMany undos fresh newValue newWeight newMany newBlock newTies newLines hasBlock hasTies size att place sort number fault faultPlace lastFault lastPlace toValue toWeight toMany often firstOf lastOf unlikes unlikeMany isCandidate modes fewest z17 ls H locs hl hP hD hS h hk51
          rw [mX6_edits_L51.eq_2] at h
          refine lv_iload_n hx hb dX6_edits_51 rfl (lv_at hl 1 rfl) ?_
          refine lv_aload_n hx hb dX6_edits_52 rfl (lv_at hl 0 rfl) ?_
          refine va_get (D := D) (ci := 6) (v := .int many) (C := RX6) (T := TX6) (N := 42) hx hb hts iX6 hown hK hP 0 rfl rfl 5 (Nat.le_of_ble_eq_true rfl) f175 (fun _ h9 => h9) rfl dX6_edits_53 ?_
          refine lv_icmp_ge (tgt := 105) hx hb dX6_edits_56 (by decide) (fun c18 => ?_) (fun c18 => ?_)
          · have h := e_t c18 h
            obtain rfl := e_s h
            exact hk51 _ _ _ (lv_sub hl [0] rfl) hP hD hS
          · have h := e_f c18 h
            refine lv_aload_n hx hb dX6_edits_59 rfl (lv_at hl 0 rfl) ?_
            refine va_get (D := D) (ci := 6) (v := .ref (ad 4)) (C := RX6) (T := TX6) (N := 42) hx hb hts iX6 hown hK hP 0 rfl rfl 9 (Nat.le_of_ble_eq_true rfl) f19 (fun _ h9 => h9) rfl dX6_edits_60 ?_
            refine lv_bipush (v := 120) hx hb dX6_edits_63 (by decide) ?_
            refine lv_aload_n hx hb dX6_edits_65 rfl (lv_at hl 0 rfl) ?_
            refine va_get (D := D) (ci := 6) (v := .int undos) (C := RX6) (T := TX6) (N := 42) hx hb hts iX6 hown hK hP 0 rfl rfl 12 (Nat.le_of_ble_eq_true rfl) f184 (fun _ h9 => h9) rfl dX6_edits_66 ?_
            refine lv_imul hx hb dX6_edits_69 ?_
            refine lv_iload_n hx hb dX6_edits_70 rfl (lv_at hl 1 rfl) ?_
            refine lv_iadd hx hb dX6_edits_71 ?_
            refine lv_aload_n hx hb dX6_edits_72 rfl (lv_at hl 0 rfl) ?_
            refine va_get (D := D) (ci := 6) (v := .ref (ad 2)) (C := RX6) (T := TX6) (N := 42) hx hb hts iX6 hown hK hP 0 rfl rfl 3 (Nat.le_of_ble_eq_true rfl) f13 (fun _ h9 => h9) rfl dX6_edits_73 ?_
            refine lv_iload_n hx hb dX6_edits_76 rfl (lv_at hl 1 rfl) ?_
            obtain ⟨v19, ev19, nv19, h⟩ := e_rd h
            refine xa_iald hx hb hK hP 2 rfl nv19 ev19 dX6_edits_77 ?_
            obtain ⟨a20, ea20, na20, h⟩ := e_wr h
            refine xa_iast hx hb hK hP hD hS 4 rfl na20 ea20 dX6_edits_78 (fun H locs hP hD hS => ?_)
            have hP : va_P D vwCl (wX6 cA ad thrown tape taped value weight many block ties lines a20 pastWeight pastMany undos fresh newValue newWeight newMany newBlock newTies newLines hasBlock hasTies size att place sort number fault faultPlace lastFault lastPlace toValue toWeight toMany often firstOf lastOf unlikes unlikeMany isCandidate modes fewest) H := hP
            have hD : va_D A (wX6 cA ad thrown tape taped value weight many block ties lines a20 pastWeight pastMany undos fresh newValue newWeight newMany newBlock newTies newLines hasBlock hasTies size att place sort number fault faultPlace lastFault lastPlace toValue toWeight toMany often firstOf lastOf unlikes unlikeMany isCandidate modes fewest) := hD
            refine lv_aload_n hx hb dX6_edits_79 rfl (lv_at hl 0 rfl) ?_
            refine va_get (D := D) (ci := 6) (v := .ref (ad 5)) (C := RX6) (T := TX6) (N := 42) hx hb hts iX6 hown hK hP 0 rfl rfl 10 (Nat.le_of_ble_eq_true rfl) f22 (fun _ h9 => h9) rfl dX6_edits_80 ?_
            refine lv_bipush (v := 120) hx hb dX6_edits_83 (by decide) ?_
            refine lv_aload_n hx hb dX6_edits_85 rfl (lv_at hl 0 rfl) ?_
            refine va_get (D := D) (ci := 6) (v := .int undos) (C := RX6) (T := TX6) (N := 42) hx hb hts iX6 hown hK hP 0 rfl rfl 12 (Nat.le_of_ble_eq_true rfl) f184 (fun _ h9 => h9) rfl dX6_edits_86 ?_
            refine lv_imul hx hb dX6_edits_89 ?_
            refine lv_iload_n hx hb dX6_edits_90 rfl (lv_at hl 1 rfl) ?_
            refine lv_iadd hx hb dX6_edits_91 ?_
            refine lv_aload_n hx hb dX6_edits_92 rfl (lv_at hl 0 rfl) ?_
            refine va_get (D := D) (ci := 6) (v := .ref (ad 3)) (C := RX6) (T := TX6) (N := 42) hx hb hts iX6 hown hK hP 0 rfl rfl 4 (Nat.le_of_ble_eq_true rfl) f16 (fun _ h9 => h9) rfl dX6_edits_93 ?_
            refine lv_iload_n hx hb dX6_edits_96 rfl (lv_at hl 1 rfl) ?_
            obtain ⟨v21, ev21, nv21, h⟩ := e_rd h
            refine xa_iald hx hb hK hP 3 rfl nv21 ev21 dX6_edits_97 ?_
            obtain ⟨a22, ea22, na22, h⟩ := e_wr h
            refine xa_iast hx hb hK hP hD hS 5 rfl na22 ea22 dX6_edits_98 (fun H locs hP hD hS => ?_)
            have hP : va_P D vwCl (wX6 cA ad thrown tape taped value weight many block ties lines a20 a22 pastMany undos fresh newValue newWeight newMany newBlock newTies newLines hasBlock hasTies size att place sort number fault faultPlace lastFault lastPlace toValue toWeight toMany often firstOf lastOf unlikes unlikeMany isCandidate modes fewest) H := hP
            have hD : va_D A (wX6 cA ad thrown tape taped value weight many block ties lines a20 a22 pastMany undos fresh newValue newWeight newMany newBlock newTies newLines hasBlock hasTies size att place sort number fault faultPlace lastFault lastPlace toValue toWeight toMany often firstOf lastOf unlikes unlikeMany isCandidate modes fewest) := hD
            refine lv_iinc (v := (x1 + 1)) (lv' := [(1, .int (x1 + 1)), (0, .ref (ad 0))]) hx hb dX6_edits_99 hl (k := 1) rfl rfl (by decide) rfl (fun ls hl => ?_)
            refine lv_goto (tgt := 51) hx hb dX6_edits_102 (by decide) ?_
            exact ih51 (x1 + 1) thrown tape taped value weight many block ties lines a20 a22 pastMany undos fresh newValue newWeight newMany newBlock newTies newLines hasBlock hasTies size att place sort number fault faultPlace lastFault lastPlace toValue toWeight toMany often firstOf lastOf unlikes unlikeMany isCandidate modes fewest z17 _ _ _ (lv_sub hl [1, 0] rfl) hP hD hS h hk51
      obtain ⟨z23, ez23, h⟩ := e_b h
      refine hL51 FU 0 thrown tape taped value weight many block ties lines z16.1 z16.2.1 z16.2.2 (undos - 1) fresh newValue newWeight newMany newBlock newTies newLines hasBlock hasTies size att place sort number fault faultPlace lastFault lastPlace toValue toWeight toMany often firstOf lastOf unlikes unlikeMany isCandidate modes fewest z23 _ _ _ (lv_sub hl [1, 0] rfl) hP hD hS ez23 (fun ls H locs hl hP hD hS => ?_)
      refine lv_aload_n hx hb dX6_edits_105 rfl (lv_at hl 0 rfl) ?_
      refine va_get (D := D) (ci := 6) (v := .ref (ad 6)) (C := RX6) (T := TX6) (N := 42) hx hb hts iX6 hown hK hP 0 rfl rfl 11 (Nat.le_of_ble_eq_true rfl) f25 (fun _ h9 => h9) rfl dX6_edits_106 ?_
      refine lv_aload_n hx hb dX6_edits_109 rfl (lv_at hl 0 rfl) ?_
      refine va_get (D := D) (ci := 6) (v := .int (undos - 1)) (C := RX6) (T := TX6) (N := 42) hx hb hts iX6 hown hK hP 0 rfl rfl 12 (Nat.le_of_ble_eq_true rfl) f184 (fun _ h9 => h9) rfl dX6_edits_110 ?_
      refine lv_aload_n hx hb dX6_edits_113 rfl (lv_at hl 0 rfl) ?_
      refine va_get (D := D) (ci := 6) (v := .int many) (C := RX6) (T := TX6) (N := 42) hx hb hts iX6 hown hK hP 0 rfl rfl 5 (Nat.le_of_ble_eq_true rfl) f175 (fun _ h9 => h9) rfl dX6_edits_114 ?_
      obtain ⟨a24, ea24, na24, h⟩ := e_wr h
      refine xa_iast hx hb hK hP hD hS 6 rfl na24 ea24 dX6_edits_117 (fun H locs hP hD hS => ?_)
      have hP : va_P D vwCl (wX6 cA ad thrown tape taped value weight many block ties lines z23.1 z23.2 a24 (undos - 1) fresh newValue newWeight newMany newBlock newTies newLines hasBlock hasTies size att place sort number fault faultPlace lastFault lastPlace toValue toWeight toMany often firstOf lastOf unlikes unlikeMany isCandidate modes fewest) H := hP
      have hD : va_D A (wX6 cA ad thrown tape taped value weight many block ties lines z23.1 z23.2 a24 (undos - 1) fresh newValue newWeight newMany newBlock newTies newLines hasBlock hasTies size att place sort number fault faultPlace lastFault lastPlace toValue toWeight toMany often firstOf lastOf unlikes unlikeMany isCandidate modes fewest) := hD
      refine lv_aload_n hx hb dX6_edits_118 rfl (lv_at hl 0 rfl) ?_
      refine lv_dup hx hb dX6_edits_119 rfl ?_
      refine va_get (D := D) (ci := 6) (v := .int (undos - 1)) (C := RX6) (T := TX6) (N := 42) hx hb hts iX6 hown hK hP 0 rfl rfl 12 (Nat.le_of_ble_eq_true rfl) f184 (fun _ h9 => h9) rfl dX6_edits_120 ?_
      refine lv_iconst (v := 1) hx hb dX6_edits_123 (by decide) ?_
      refine lv_iadd hx hb dX6_edits_124 ?_
      refine va_put (D := D) (ci := 6) (v := .int ((undos - 1) + 1)) (ty := .int) (C := RX6) (T := TX6) (N := 42) hx hb hts iX6 tyX6 tyX6_ok nmX6 hown hK hP hD hS 0 rfl rfl 12 (Nat.le_of_ble_eq_true rfl) f184 (fun _ h9 => h9) rfl (tyX6_ok 12 (Nat.le_of_ble_eq_true rfl)) rfl rfl (Nat.le_of_ble_eq_true rfl) dX6_edits_125 (fun H locs hP hD hS => ?_)
      have hP : va_P D vwCl (wX6 cA ad thrown tape taped value weight many block ties lines z23.1 z23.2 a24 ((undos - 1) + 1) fresh newValue newWeight newMany newBlock newTies newLines hasBlock hasTies size att place sort number fault faultPlace lastFault lastPlace toValue toWeight toMany often firstOf lastOf unlikes unlikeMany isCandidate modes fewest) H := hP
      have hD : va_D A (wX6 cA ad thrown tape taped value weight many block ties lines z23.1 z23.2 a24 ((undos - 1) + 1) fresh newValue newWeight newMany newBlock newTies newLines hasBlock hasTies size att place sort number fault faultPlace lastFault lastPlace toValue toWeight toMany often firstOf lastOf unlikes unlikeMany isCandidate modes fewest) := hD
      refine lv_aload_n hx hb dX6_edits_128 rfl (lv_at hl 0 rfl) ?_
      obtain ⟨q25, eq25, h⟩ := e_b h
      refine xv_v0 (As := []) (rest := []) (ci := 6) (b := ad 0) ⟨hx, hb, hml, hown, hts⟩ hl.1 (kX6_becomes l D cA ad thrown tape taped value weight many block ties lines z23.1 z23.2 a24 ((undos - 1) + 1) fresh newValue newWeight newMany newBlock newTies newLines hasBlock hasTies size att place sort number fault faultPlace lastFault lastPlace toValue toWeight toMany often firstOf lastOf unlikes unlikeMany isCandidate modes fewest  _ eq25) (cwV 0 hts gX6_edits_X6_becomes rfl rfl rfl (by decide +kernel) ⟨Nat.le_of_ble_eq_true rfl, Nat.le_of_ble_eq_true rfl⟩) rfl hK hP hD hS hA 0 rfl rfl rfl rfl (Nat.le_of_ble_eq_true rfl) dX6_edits_129 ⟨Nat.zero_le _, Nat.zero_le _⟩ (fun H locs hP hD hS => ?_)
      have hP : va_P D vwCl (wX6 cA ad thrown tape taped q25.1 q25.2.1 q25.2.2.1 block ties lines z23.1 z23.2 a24 ((undos - 1) + 1) q25.2.2.2 newValue newWeight newMany newBlock newTies newLines hasBlock hasTies size att place sort number fault faultPlace lastFault lastPlace toValue toWeight toMany often firstOf lastOf unlikes unlikeMany isCandidate modes fewest) H := hP
      have hD : va_D A (wX6 cA ad thrown tape taped q25.1 q25.2.1 q25.2.2.1 block ties lines z23.1 z23.2 a24 ((undos - 1) + 1) q25.2.2.2 newValue newWeight newMany newBlock newTies newLines hasBlock hasTies size att place sort number fault faultPlace lastFault lastPlace toValue toWeight toMany often firstOf lastOf unlikes unlikeMany isCandidate modes fewest) := hD
      obtain rfl := e_s h
      exact hret hP hS dX6_edits_132
  · have h := e_f (not_not_intro c2) h
    obtain rfl := e_s h
    exact hret hP hS dX6_edits_7
set_option maxHeartbeats 4000000 in
set_option maxRecDepth 100000 in
theorem kX6_undo (l : Launch) (D : va_G) (cA : Nat → ClassId) (ad : Nat → Nat) (thrown : Int32) (tape : Nat → Int32) (taped : Int32) (value : Nat → Int32) (weight : Nat → Int32) (many : Int32) (block : Int32) (ties : Int32) (lines : Int32) (pastValue : Nat → Int32) (pastWeight : Nat → Int32) (pastMany : Nat → Int32) (undos : Int32) (fresh : Int32) (newValue : Nat → Int32) (newWeight : Nat → Int32) (newMany : Int32) (newBlock : Int32) (newTies : Int32) (newLines : Int32) (hasBlock : Int32) (hasTies : Int32) (size : Int32) (att : Int32) (place : Int32) (sort : Int32) (number : Int32) (fault : Int32) (faultPlace : Int32) (lastFault : Int32) (lastPlace : Int32) (toValue : Nat → Int32) (toWeight : Nat → Int32) (toMany : Int32) (often : Nat → Int32) (firstOf : Nat → Int32) (lastOf : Nat → Int32) (unlikes : Nat → Int32) (unlikeMany : Int32) (isCandidate : Nat → Int32) (modes : Nat → Int32) (fewest : Nat → Int32)  (q : Int32 × Int32 × (Nat → Int32) × (Nat → Int32) × Int32 × Int32 × Int32 × (Nat → Int32) × (Nat → Int32) × Int32) (h : mX6_undo thrown value weight many block pastValue pastWeight pastMany undos fresh toValue toWeight toMany  = some q) : MI l yX6_undo wsX6_undo { frames := 4, cells := 0, slots := 0, locals := 91 } D cA .int [.ref (ad 0)] (wX6 cA ad thrown tape taped value weight many block ties lines pastValue pastWeight pastMany undos fresh newValue newWeight newMany newBlock newTies newLines hasBlock hasTies size att place sort number fault faultPlace lastFault lastPlace toValue toWeight toMany often firstOf lastOf unlikes unlikeMany isCandidate modes fewest) (wX6 cA ad q.2.1 tape taped q.2.2.1 q.2.2.2.1 q.2.2.2.2.1 block ties lines pastValue pastWeight pastMany q.2.2.2.2.2.1 q.2.2.2.2.2.2.1 newValue newWeight newMany newBlock newTies newLines hasBlock hasTies size att place sort number fault faultPlace lastFault lastPlace q.2.2.2.2.2.2.2.1 q.2.2.2.2.2.2.2.2.1 q.2.2.2.2.2.2.2.2.2 often firstOf lastOf unlikes unlikeMany isCandidate modes fewest) q.1 := by
  refine MI.of (cc := cX6_undo) (maxL := 2) (by decide +kernel) rfl rfl rfl (Nat.le_of_ble_eq_true rfl) ?_
  intro p e s m args below meth c A ls Q hx hb hml hts hown hK hP hD hA hS hl hret
  have hl : lv_has ls 2 [(0, .ref (ad 0))] := hl
  have f184 := hts (.fieldLink RX6 184 "ModeDeskModel" "undos" "I") (by decide +kernel)
  have f19 := hts (.fieldLink RX6 19 "ModeDeskModel" "pastValue" "[I") (by decide +kernel)
  have f197 := hts (.fieldLink RX6 197 "ModeDeskModel" "toMany" "I") (by decide +kernel)
  have f22 := hts (.fieldLink RX6 22 "ModeDeskModel" "pastWeight" "[I") (by decide +kernel)
  have f25 := hts (.fieldLink RX6 25 "ModeDeskModel" "pastMany" "[I") (by decide +kernel)
  have f41 := hts (.fieldLink RX6 41 "ModeDeskModel" "toValue" "[I") (by decide +kernel)
  have f44 := hts (.fieldLink RX6 44 "ModeDeskModel" "toWeight" "[I") (by decide +kernel)
  have f72 := hts (.fieldLink RX6 72 "ModeDeskModel" "thrown" "I") (by decide +kernel)
  have iX6 : ∀ w ∈ wsX60, w ∈ wsX6_undo := by decide +kernel
  unfold mX6_undo at h
  refine lv_aload_n hx hb dX6_undo_0 rfl (lv_at hl 0 rfl) ?_
  refine lv_iconst (v := 0) hx hb dX6_undo_1 (by decide) ?_
  refine va_put (D := D) (ci := 6) (v := .int 0) (ty := .int) (C := RX6) (T := TX6) (N := 42) hx hb hts iX6 tyX6 tyX6_ok nmX6 hown hK hP hD hS 0 rfl rfl 0 (Nat.le_of_ble_eq_true rfl) f72 (fun _ h9 => h9) rfl (tyX6_ok 0 (Nat.le_of_ble_eq_true rfl)) rfl rfl (Nat.le_of_ble_eq_true rfl) dX6_undo_2 (fun H locs hP hD hS => ?_)
  have hP : va_P D vwCl (wX6 cA ad 0 tape taped value weight many block ties lines pastValue pastWeight pastMany undos fresh newValue newWeight newMany newBlock newTies newLines hasBlock hasTies size att place sort number fault faultPlace lastFault lastPlace toValue toWeight toMany often firstOf lastOf unlikes unlikeMany isCandidate modes fewest) H := hP
  have hD : va_D A (wX6 cA ad 0 tape taped value weight many block ties lines pastValue pastWeight pastMany undos fresh newValue newWeight newMany newBlock newTies newLines hasBlock hasTies size att place sort number fault faultPlace lastFault lastPlace toValue toWeight toMany often firstOf lastOf unlikes unlikeMany isCandidate modes fewest) := hD
  refine lv_aload_n hx hb dX6_undo_5 rfl (lv_at hl 0 rfl) ?_
  refine va_get (D := D) (ci := 6) (v := .int undos) (C := RX6) (T := TX6) (N := 42) hx hb hts iX6 hown hK hP 0 rfl rfl 12 (Nat.le_of_ble_eq_true rfl) f184 (fun _ h9 => h9) rfl dX6_undo_6 ?_
  refine lv_if_ne (tgt := 14) hx hb dX6_undo_9 (by decide) (fun c1 => ?_) (fun c1 => ?_)
  · have h := e_t c1 h
    refine lv_aload_n hx hb dX6_undo_14 rfl (lv_at hl 0 rfl) ?_
    refine lv_dup hx hb dX6_undo_15 rfl ?_
    refine va_get (D := D) (ci := 6) (v := .int undos) (C := RX6) (T := TX6) (N := 42) hx hb hts iX6 hown hK hP 0 rfl rfl 12 (Nat.le_of_ble_eq_true rfl) f184 (fun _ h9 => h9) rfl dX6_undo_16 ?_
    refine lv_iconst (v := 1) hx hb dX6_undo_19 (by decide) ?_
    refine lv_isub hx hb dX6_undo_20 ?_
    refine va_put (D := D) (ci := 6) (v := .int (undos - 1)) (ty := .int) (C := RX6) (T := TX6) (N := 42) hx hb hts iX6 tyX6 tyX6_ok nmX6 hown hK hP hD hS 0 rfl rfl 12 (Nat.le_of_ble_eq_true rfl) f184 (fun _ h9 => h9) rfl (tyX6_ok 12 (Nat.le_of_ble_eq_true rfl)) rfl rfl (Nat.le_of_ble_eq_true rfl) dX6_undo_21 (fun H locs hP hD hS => ?_)
    have hP : va_P D vwCl (wX6 cA ad 0 tape taped value weight many block ties lines pastValue pastWeight pastMany (undos - 1) fresh newValue newWeight newMany newBlock newTies newLines hasBlock hasTies size att place sort number fault faultPlace lastFault lastPlace toValue toWeight toMany often firstOf lastOf unlikes unlikeMany isCandidate modes fewest) H := hP
    have hD : va_D A (wX6 cA ad 0 tape taped value weight many block ties lines pastValue pastWeight pastMany (undos - 1) fresh newValue newWeight newMany newBlock newTies newLines hasBlock hasTies size att place sort number fault faultPlace lastFault lastPlace toValue toWeight toMany often firstOf lastOf unlikes unlikeMany isCandidate modes fewest) := hD
    refine lv_aload_n hx hb dX6_undo_24 rfl (lv_at hl 0 rfl) ?_
    refine lv_aload_n hx hb dX6_undo_25 rfl (lv_at hl 0 rfl) ?_
    refine va_get (D := D) (ci := 6) (v := .ref (ad 6)) (C := RX6) (T := TX6) (N := 42) hx hb hts iX6 hown hK hP 0 rfl rfl 11 (Nat.le_of_ble_eq_true rfl) f25 (fun _ h9 => h9) rfl dX6_undo_26 ?_
    refine lv_aload_n hx hb dX6_undo_29 rfl (lv_at hl 0 rfl) ?_
    refine va_get (D := D) (ci := 6) (v := .int (undos - 1)) (C := RX6) (T := TX6) (N := 42) hx hb hts iX6 hown hK hP 0 rfl rfl 12 (Nat.le_of_ble_eq_true rfl) f184 (fun _ h9 => h9) rfl dX6_undo_30 ?_
    obtain ⟨v2, ev2, nv2, h⟩ := e_rd h
    refine xa_iald hx hb hK hP 6 rfl nv2 ev2 dX6_undo_33 ?_
    refine va_put (D := D) (ci := 6) (v := .int v2) (ty := .int) (C := RX6) (T := TX6) (N := 42) hx hb hts iX6 tyX6 tyX6_ok nmX6 hown hK hP hD hS 0 rfl rfl 33 (Nat.le_of_ble_eq_true rfl) f197 (fun _ h9 => h9) rfl (tyX6_ok 33 (Nat.le_of_ble_eq_true rfl)) rfl rfl (Nat.le_of_ble_eq_true rfl) dX6_undo_34 (fun H locs hP hD hS => ?_)
    have hP : va_P D vwCl (wX6 cA ad 0 tape taped value weight many block ties lines pastValue pastWeight pastMany (undos - 1) fresh newValue newWeight newMany newBlock newTies newLines hasBlock hasTies size att place sort number fault faultPlace lastFault lastPlace toValue toWeight v2 often firstOf lastOf unlikes unlikeMany isCandidate modes fewest) H := hP
    have hD : va_D A (wX6 cA ad 0 tape taped value weight many block ties lines pastValue pastWeight pastMany (undos - 1) fresh newValue newWeight newMany newBlock newTies newLines hasBlock hasTies size att place sort number fault faultPlace lastFault lastPlace toValue toWeight v2 often firstOf lastOf unlikes unlikeMany isCandidate modes fewest) := hD
    refine lv_iconst (v := 0) hx hb dX6_undo_37 (by decide) ?_
    refine lv_istore_n (lv' := [(1, .int 0), (0, .ref (ad 0))]) hx hb dX6_undo_38 rfl hl (by decide) rfl (fun ls hl => ?_)
    have hL39 : ∀ (n : Nat) (x1 : Int32) (thrown : Int32) (tape : Nat → Int32) (taped : Int32) (value : Nat → Int32) (weight : Nat → Int32) (many : Int32) (block : Int32) (ties : Int32) (lines : Int32) (pastValue : Nat → Int32) (pastWeight : Nat → Int32) (pastMany : Nat → Int32) (undos : Int32) (fresh : Int32) (newValue : Nat → Int32) (newWeight : Nat → Int32) (newMany : Int32) (newBlock : Int32) (newTies : Int32) (newLines : Int32) (hasBlock : Int32) (hasTies : Int32) (size : Int32) (att : Int32) (place : Int32) (sort : Int32) (number : Int32) (fault : Int32) (faultPlace : Int32) (lastFault : Int32) (lastPlace : Int32) (toValue : Nat → Int32) (toWeight : Nat → Int32) (toMany : Int32) (often : Nat → Int32) (firstOf : Nat → Int32) (lastOf : Nat → Int32) (unlikes : Nat → Int32) (unlikeMany : Int32) (isCandidate : Nat → Int32) (modes : Nat → Int32) (fewest : Nat → Int32) (z3 : (Nat → Int32) × (Nat → Int32)) (ls : Array Slot) (H : Heap) (locs : List Loc), lv_has ls 2 [(0, .ref (ad 0)), (1, .int x1)] → va_P D vwCl (wX6 cA ad thrown tape taped value weight many block ties lines pastValue pastWeight pastMany undos fresh newValue newWeight newMany newBlock newTies newLines hasBlock hasTies size att place sort number fault faultPlace lastFault lastPlace toValue toWeight toMany often firstOf lastOf unlikes unlikeMany isCandidate modes fewest) H → va_D A (wX6 cA ad thrown tape taped value weight many block ties lines pastValue pastWeight pastMany undos fresh newValue newWeight newMany newBlock newTies newLines hasBlock hasTies size att place sort number fault faultPlace lastFault lastPlace toValue toWeight toMany often firstOf lastOf unlikes unlikeMany isCandidate modes fewest) → va_S A s.heap H locs → mX6_undo_L39 pastValue pastWeight undos toMany n x1 toValue toWeight = some z3 → (∀ (ls : Array Slot) (H : Heap) (locs : List Loc), lv_has ls 2 [(0, .ref (ad 0))] → va_P D vwCl (wX6 cA ad thrown tape taped value weight many block ties lines pastValue pastWeight pastMany undos fresh newValue newWeight newMany newBlock newTies newLines hasBlock hasTies size att place sort number fault faultPlace lastFault lastPlace z3.1 z3.2 toMany often firstOf lastOf unlikes unlikeMany isCandidate modes fewest) H → va_D A (wX6 cA ad thrown tape taped value weight many block ties lines pastValue pastWeight pastMany undos fresh newValue newWeight newMany newBlock newTies newLines hasBlock hasTies size att place sort number fault faultPlace lastFault lastPlace z3.1 z3.2 toMany often firstOf lastOf unlikes unlikeMany isCandidate modes fewest) → va_S A s.heap H locs → W p l e (headSpec wsX6_undo { frames := 4, cells := 0, slots := 0, locals := 91 }).room s m args below meth c H locs 0 0 Q (F0 m 93 ls [])) → W p l e (headSpec wsX6_undo { frames := 4, cells := 0, slots := 0, locals := 91 }).room s m args below meth c H locs 0 0 Q (F0 m 39 ls []) := by
      intro n
      induction n with
      | zero => intro x1 thrown tape taped value weight many block ties lines pastValue pastWeight pastMany undos fresh newValue newWeight newMany newBlock newTies newLines hasBlock hasTies size att place sort number fault faultPlace lastFault lastPlace toValue toWeight toMany often firstOf lastOf unlikes unlikeMany isCandidate modes fewest z3 ls H locs hl hP hD hS h hk39; exact e_n h
      | succ n ih39 =>
        intro x1 thrown tape taped value weight many block ties lines pastValue pastWeight pastMany undos fresh newValue newWeight newMany newBlock newTies newLines hasBlock hasTies size att place sort number fault faultPlace lastFault lastPlace toValue toWeight toMany often firstOf lastOf unlikes unlikeMany isCandidate modes fewest z3 ls H locs hl hP hD hS h hk39
        rw [mX6_undo_L39.eq_2] at h
        refine lv_iload_n hx hb dX6_undo_39 rfl (lv_at hl 1 rfl) ?_
        refine lv_aload_n hx hb dX6_undo_40 rfl (lv_at hl 0 rfl) ?_
        refine va_get (D := D) (ci := 6) (v := .int toMany) (C := RX6) (T := TX6) (N := 42) hx hb hts iX6 hown hK hP 0 rfl rfl 33 (Nat.le_of_ble_eq_true rfl) f197 (fun _ h9 => h9) rfl dX6_undo_41 ?_
        refine lv_icmp_ge (tgt := 93) hx hb dX6_undo_44 (by decide) (fun c4 => ?_) (fun c4 => ?_)
        · have h := e_t c4 h
          obtain rfl := e_s h
          exact hk39 _ _ _ (lv_sub hl [0] rfl) hP hD hS
        · have h := e_f c4 h
          refine lv_aload_n hx hb dX6_undo_47 rfl (lv_at hl 0 rfl) ?_
          refine va_get (D := D) (ci := 6) (v := .ref (ad 9)) (C := RX6) (T := TX6) (N := 42) hx hb hts iX6 hown hK hP 0 rfl rfl 31 (Nat.le_of_ble_eq_true rfl) f41 (fun _ h9 => h9) rfl dX6_undo_48 ?_
          refine lv_iload_n hx hb dX6_undo_51 rfl (lv_at hl 1 rfl) ?_
          refine lv_aload_n hx hb dX6_undo_52 rfl (lv_at hl 0 rfl) ?_
          refine va_get (D := D) (ci := 6) (v := .ref (ad 4)) (C := RX6) (T := TX6) (N := 42) hx hb hts iX6 hown hK hP 0 rfl rfl 9 (Nat.le_of_ble_eq_true rfl) f19 (fun _ h9 => h9) rfl dX6_undo_53 ?_
          refine lv_bipush (v := 120) hx hb dX6_undo_56 (by decide) ?_
          refine lv_aload_n hx hb dX6_undo_58 rfl (lv_at hl 0 rfl) ?_
          refine va_get (D := D) (ci := 6) (v := .int undos) (C := RX6) (T := TX6) (N := 42) hx hb hts iX6 hown hK hP 0 rfl rfl 12 (Nat.le_of_ble_eq_true rfl) f184 (fun _ h9 => h9) rfl dX6_undo_59 ?_
          refine lv_imul hx hb dX6_undo_62 ?_
          refine lv_iload_n hx hb dX6_undo_63 rfl (lv_at hl 1 rfl) ?_
          refine lv_iadd hx hb dX6_undo_64 ?_
          obtain ⟨v5, ev5, nv5, h⟩ := e_rd h
          refine xa_iald hx hb hK hP 4 rfl nv5 ev5 dX6_undo_65 ?_
          obtain ⟨a6, ea6, na6, h⟩ := e_wr h
          refine xa_iast hx hb hK hP hD hS 9 rfl na6 ea6 dX6_undo_66 (fun H locs hP hD hS => ?_)
          have hP : va_P D vwCl (wX6 cA ad thrown tape taped value weight many block ties lines pastValue pastWeight pastMany undos fresh newValue newWeight newMany newBlock newTies newLines hasBlock hasTies size att place sort number fault faultPlace lastFault lastPlace a6 toWeight toMany often firstOf lastOf unlikes unlikeMany isCandidate modes fewest) H := hP
          have hD : va_D A (wX6 cA ad thrown tape taped value weight many block ties lines pastValue pastWeight pastMany undos fresh newValue newWeight newMany newBlock newTies newLines hasBlock hasTies size att place sort number fault faultPlace lastFault lastPlace a6 toWeight toMany often firstOf lastOf unlikes unlikeMany isCandidate modes fewest) := hD
          refine lv_aload_n hx hb dX6_undo_67 rfl (lv_at hl 0 rfl) ?_
          refine va_get (D := D) (ci := 6) (v := .ref (ad 10)) (C := RX6) (T := TX6) (N := 42) hx hb hts iX6 hown hK hP 0 rfl rfl 32 (Nat.le_of_ble_eq_true rfl) f44 (fun _ h9 => h9) rfl dX6_undo_68 ?_
          refine lv_iload_n hx hb dX6_undo_71 rfl (lv_at hl 1 rfl) ?_
          refine lv_aload_n hx hb dX6_undo_72 rfl (lv_at hl 0 rfl) ?_
          refine va_get (D := D) (ci := 6) (v := .ref (ad 5)) (C := RX6) (T := TX6) (N := 42) hx hb hts iX6 hown hK hP 0 rfl rfl 10 (Nat.le_of_ble_eq_true rfl) f22 (fun _ h9 => h9) rfl dX6_undo_73 ?_
          refine lv_bipush (v := 120) hx hb dX6_undo_76 (by decide) ?_
          refine lv_aload_n hx hb dX6_undo_78 rfl (lv_at hl 0 rfl) ?_
          refine va_get (D := D) (ci := 6) (v := .int undos) (C := RX6) (T := TX6) (N := 42) hx hb hts iX6 hown hK hP 0 rfl rfl 12 (Nat.le_of_ble_eq_true rfl) f184 (fun _ h9 => h9) rfl dX6_undo_79 ?_
          refine lv_imul hx hb dX6_undo_82 ?_
          refine lv_iload_n hx hb dX6_undo_83 rfl (lv_at hl 1 rfl) ?_
          refine lv_iadd hx hb dX6_undo_84 ?_
          obtain ⟨v7, ev7, nv7, h⟩ := e_rd h
          refine xa_iald hx hb hK hP 5 rfl nv7 ev7 dX6_undo_85 ?_
          obtain ⟨a8, ea8, na8, h⟩ := e_wr h
          refine xa_iast hx hb hK hP hD hS 10 rfl na8 ea8 dX6_undo_86 (fun H locs hP hD hS => ?_)
          have hP : va_P D vwCl (wX6 cA ad thrown tape taped value weight many block ties lines pastValue pastWeight pastMany undos fresh newValue newWeight newMany newBlock newTies newLines hasBlock hasTies size att place sort number fault faultPlace lastFault lastPlace a6 a8 toMany often firstOf lastOf unlikes unlikeMany isCandidate modes fewest) H := hP
          have hD : va_D A (wX6 cA ad thrown tape taped value weight many block ties lines pastValue pastWeight pastMany undos fresh newValue newWeight newMany newBlock newTies newLines hasBlock hasTies size att place sort number fault faultPlace lastFault lastPlace a6 a8 toMany often firstOf lastOf unlikes unlikeMany isCandidate modes fewest) := hD
          refine lv_iinc (v := (x1 + 1)) (lv' := [(1, .int (x1 + 1)), (0, .ref (ad 0))]) hx hb dX6_undo_87 hl (k := 1) rfl rfl (by decide) rfl (fun ls hl => ?_)
          refine lv_goto (tgt := 39) hx hb dX6_undo_90 (by decide) ?_
          exact ih39 (x1 + 1) thrown tape taped value weight many block ties lines pastValue pastWeight pastMany undos fresh newValue newWeight newMany newBlock newTies newLines hasBlock hasTies size att place sort number fault faultPlace lastFault lastPlace a6 a8 toMany often firstOf lastOf unlikes unlikeMany isCandidate modes fewest z3 _ _ _ (lv_sub hl [1, 0] rfl) hP hD hS h hk39
    obtain ⟨z9, ez9, h⟩ := e_b h
    refine hL39 FU 0 0 tape taped value weight many block ties lines pastValue pastWeight pastMany (undos - 1) fresh newValue newWeight newMany newBlock newTies newLines hasBlock hasTies size att place sort number fault faultPlace lastFault lastPlace toValue toWeight v2 often firstOf lastOf unlikes unlikeMany isCandidate modes fewest z9 _ _ _ (lv_sub hl [1, 0] rfl) hP hD hS ez9 (fun ls H locs hl hP hD hS => ?_)
    refine lv_aload_n hx hb dX6_undo_93 rfl (lv_at hl 0 rfl) ?_
    obtain ⟨q10, eq10, h⟩ := e_b h
    refine xv_v0 (As := []) (rest := []) (ci := 6) (b := ad 0) ⟨hx, hb, hml, hown, hts⟩ hl.1 (kX6_becomes l D cA ad 0 tape taped value weight many block ties lines pastValue pastWeight pastMany (undos - 1) fresh newValue newWeight newMany newBlock newTies newLines hasBlock hasTies size att place sort number fault faultPlace lastFault lastPlace z9.1 z9.2 v2 often firstOf lastOf unlikes unlikeMany isCandidate modes fewest  _ eq10) (cwV 0 hts gX6_undo_X6_becomes rfl rfl rfl (by decide +kernel) ⟨Nat.le_of_ble_eq_true rfl, Nat.le_of_ble_eq_true rfl⟩) rfl hK hP hD hS hA 0 rfl rfl rfl rfl (Nat.le_of_ble_eq_true rfl) dX6_undo_94 ⟨Nat.zero_le _, Nat.zero_le _⟩ (fun H locs hP hD hS => ?_)
    have hP : va_P D vwCl (wX6 cA ad 0 tape taped q10.1 q10.2.1 q10.2.2.1 block ties lines pastValue pastWeight pastMany (undos - 1) q10.2.2.2 newValue newWeight newMany newBlock newTies newLines hasBlock hasTies size att place sort number fault faultPlace lastFault lastPlace z9.1 z9.2 v2 often firstOf lastOf unlikes unlikeMany isCandidate modes fewest) H := hP
    have hD : va_D A (wX6 cA ad 0 tape taped q10.1 q10.2.1 q10.2.2.1 block ties lines pastValue pastWeight pastMany (undos - 1) q10.2.2.2 newValue newWeight newMany newBlock newTies newLines hasBlock hasTies size att place sort number fault faultPlace lastFault lastPlace z9.1 z9.2 v2 often firstOf lastOf unlikes unlikeMany isCandidate modes fewest) := hD
    refine lv_aload_n hx hb dX6_undo_97 rfl (lv_at hl 0 rfl) ?_
    refine va_get (D := D) (ci := 6) (v := .int (undos - 1)) (C := RX6) (T := TX6) (N := 42) hx hb hts iX6 hown hK hP 0 rfl rfl 12 (Nat.le_of_ble_eq_true rfl) f184 (fun _ h9 => h9) rfl dX6_undo_98 ?_
    obtain rfl := e_s h
    exact hret hP hS rfl dX6_undo_101
  · have h := e_f (not_not_intro c1) h
    refine lv_iconst (v := (-1)) hx hb dX6_undo_12 (by decide) ?_
    obtain rfl := e_s h
    exact hret hP hS rfl dX6_undo_13
set_option maxHeartbeats 4000000 in
set_option maxRecDepth 100000 in
theorem kX6_set (l : Launch) (D : va_G) (cA : Nat → ClassId) (ad : Nat → Nat) (thrown : Int32) (tape : Nat → Int32) (taped : Int32) (value : Nat → Int32) (weight : Nat → Int32) (many : Int32) (block : Int32) (ties : Int32) (lines : Int32) (pastValue : Nat → Int32) (pastWeight : Nat → Int32) (pastMany : Nat → Int32) (undos : Int32) (fresh : Int32) (newValue : Nat → Int32) (newWeight : Nat → Int32) (newMany : Int32) (newBlock : Int32) (newTies : Int32) (newLines : Int32) (hasBlock : Int32) (hasTies : Int32) (size : Int32) (att : Int32) (place : Int32) (sort : Int32) (number : Int32) (fault : Int32) (faultPlace : Int32) (lastFault : Int32) (lastPlace : Int32) (toValue : Nat → Int32) (toWeight : Nat → Int32) (toMany : Int32) (often : Nat → Int32) (firstOf : Nat → Int32) (lastOf : Nat → Int32) (unlikes : Nat → Int32) (unlikeMany : Int32) (isCandidate : Nat → Int32) (modes : Nat → Int32) (fewest : Nat → Int32) (x1 : Int32) (x2 : Int32) (q : Int32 × Int32 × (Nat → Int32) × (Nat → Int32) × Int32 × (Nat → Int32) × (Nat → Int32) × (Nat → Int32) × Int32 × Int32 × (Nat → Int32) × (Nat → Int32) × Int32) (h : mX6_set thrown value weight many block pastValue pastWeight pastMany undos fresh toValue toWeight toMany x1 x2 = some q) : MI l yX6_set wsX6_set { frames := 5, cells := 0, slots := 0, locals := 112 } D cA .int [.ref (ad 0), .int x1, .int x2] (wX6 cA ad thrown tape taped value weight many block ties lines pastValue pastWeight pastMany undos fresh newValue newWeight newMany newBlock newTies newLines hasBlock hasTies size att place sort number fault faultPlace lastFault lastPlace toValue toWeight toMany often firstOf lastOf unlikes unlikeMany isCandidate modes fewest) (wX6 cA ad q.2.1 tape taped q.2.2.1 q.2.2.2.1 q.2.2.2.2.1 block ties lines q.2.2.2.2.2.1 q.2.2.2.2.2.2.1 q.2.2.2.2.2.2.2.1 q.2.2.2.2.2.2.2.2.1 q.2.2.2.2.2.2.2.2.2.1 newValue newWeight newMany newBlock newTies newLines hasBlock hasTies size att place sort number fault faultPlace lastFault lastPlace q.2.2.2.2.2.2.2.2.2.2.1 q.2.2.2.2.2.2.2.2.2.2.2.1 q.2.2.2.2.2.2.2.2.2.2.2.2 often firstOf lastOf unlikes unlikeMany isCandidate modes fewest) q.1 := by
  refine MI.of (cc := cX6_set) (maxL := 4) (by decide +kernel) rfl rfl rfl (Nat.le_of_ble_eq_true rfl) ?_
  intro p e s m args below meth c A ls Q hx hb hml hts hown hK hP hD hA hS hl hret
  have hl : lv_has ls 4 [(0, .ref (ad 0)), (1, .int x1), (2, .int x2)] := hl
  have f13 := hts (.fieldLink RX6 13 "ModeDeskModel" "value" "[I") (by decide +kernel)
  have f41 := hts (.fieldLink RX6 41 "ModeDeskModel" "toValue" "[I") (by decide +kernel)
  have f72 := hts (.fieldLink RX6 72 "ModeDeskModel" "thrown" "I") (by decide +kernel)
  have iX6 : ∀ w ∈ wsX60, w ∈ wsX6_set := by decide +kernel
  unfold mX6_set at h
  refine lv_aload_n hx hb dX6_set_0 rfl (lv_at hl 0 rfl) ?_
  refine lv_iconst (v := 0) hx hb dX6_set_1 (by decide) ?_
  refine va_put (D := D) (ci := 6) (v := .int 0) (ty := .int) (C := RX6) (T := TX6) (N := 42) hx hb hts iX6 tyX6 tyX6_ok nmX6 hown hK hP hD hS 0 rfl rfl 0 (Nat.le_of_ble_eq_true rfl) f72 (fun _ h9 => h9) rfl (tyX6_ok 0 (Nat.le_of_ble_eq_true rfl)) rfl rfl (Nat.le_of_ble_eq_true rfl) dX6_set_2 (fun H locs hP hD hS => ?_)
  have hP : va_P D vwCl (wX6 cA ad 0 tape taped value weight many block ties lines pastValue pastWeight pastMany undos fresh newValue newWeight newMany newBlock newTies newLines hasBlock hasTies size att place sort number fault faultPlace lastFault lastPlace toValue toWeight toMany often firstOf lastOf unlikes unlikeMany isCandidate modes fewest) H := hP
  have hD : va_D A (wX6 cA ad 0 tape taped value weight many block ties lines pastValue pastWeight pastMany undos fresh newValue newWeight newMany newBlock newTies newLines hasBlock hasTies size att place sort number fault faultPlace lastFault lastPlace toValue toWeight toMany often firstOf lastOf unlikes unlikeMany isCandidate modes fewest) := hD
  refine lv_aload_n hx hb dX6_set_5 rfl (lv_at hl 0 rfl) ?_
  refine lv_iload_n hx hb dX6_set_6 rfl (lv_at hl 1 rfl) ?_
  obtain ⟨q1, eq1, h⟩ := e_b h
  refine xv_i0 (As := [.int x1]) (rest := []) (ci := 6) (b := ad 0) ⟨hx, hb, hml, hown, hts⟩ hl.1 (kX6_isPlace l D cA ad 0 tape taped value weight many block ties lines pastValue pastWeight pastMany undos fresh newValue newWeight newMany newBlock newTies newLines hasBlock hasTies size att place sort number fault faultPlace lastFault lastPlace toValue toWeight toMany often firstOf lastOf unlikes unlikeMany isCandidate modes fewest x1 _ eq1) (cwV 1 hts gX6_set_X6_isPlace rfl rfl rfl (by decide +kernel) ⟨Nat.le_of_ble_eq_true rfl, Nat.le_of_ble_eq_true rfl⟩) rfl hK hP hD hS hA 0 rfl rfl rfl rfl (Nat.le_of_ble_eq_true rfl) dX6_set_7 ⟨Nat.zero_le _, Nat.zero_le _⟩ (fun H locs hP hD hS hnq1 => ?_)
  have hP : va_P D vwCl (wX6 cA ad 0 tape taped value weight many block ties lines pastValue pastWeight pastMany undos fresh newValue newWeight newMany newBlock newTies newLines hasBlock hasTies size att place sort number fault faultPlace lastFault lastPlace toValue toWeight toMany often firstOf lastOf unlikes unlikeMany isCandidate modes fewest) H := hP
  have hD : va_D A (wX6 cA ad 0 tape taped value weight many block ties lines pastValue pastWeight pastMany undos fresh newValue newWeight newMany newBlock newTies newLines hasBlock hasTies size att place sort number fault faultPlace lastFault lastPlace toValue toWeight toMany often firstOf lastOf unlikes unlikeMany isCandidate modes fewest) := hD
  refine lv_if_eq (tgt := 20) hx hb dX6_set_10 (by decide) (fun c2 => ?_) (fun c2 => ?_)
  · have h := e_t c2 h
    refine lv_iconst (v := (-1)) hx hb dX6_set_20 (by decide) ?_
    obtain rfl := e_s h
    exact hret hP hS rfl dX6_set_21
  · have h := e_f c2 h
    refine lv_iload_n hx hb dX6_set_13 rfl (lv_at hl 2 rfl) ?_
    obtain ⟨q3, eq3, h⟩ := e_b h
    refine xs_i (As := [.int x2]) (rest := []) ⟨hx, hb, hml, hown, hts⟩ hl.1 (kX6_isValue l D cA   x2 _ eq3) (va_cwS 1 hts gX6_set_X6_isValue rfl rfl rfl (by decide +kernel) ⟨Nat.le_of_ble_eq_true rfl, Nat.le_of_ble_eq_true rfl⟩) rfl hK hP hD hS hA [] rfl (by decide +kernel) rfl (Nat.le_of_ble_eq_true rfl) dX6_set_14 ⟨Nat.zero_le _, Nat.zero_le _⟩ (fun H locs hP hD hS hnq3 => ?_)
    have hP : va_P D vwCl (wX6 cA ad 0 tape taped value weight many block ties lines pastValue pastWeight pastMany undos fresh newValue newWeight newMany newBlock newTies newLines hasBlock hasTies size att place sort number fault faultPlace lastFault lastPlace toValue toWeight toMany often firstOf lastOf unlikes unlikeMany isCandidate modes fewest) H := hP
    have hD : va_D A (wX6 cA ad 0 tape taped value weight many block ties lines pastValue pastWeight pastMany undos fresh newValue newWeight newMany newBlock newTies newLines hasBlock hasTies size att place sort number fault faultPlace lastFault lastPlace toValue toWeight toMany often firstOf lastOf unlikes unlikeMany isCandidate modes fewest) := hD
    refine lv_if_ne (tgt := 22) hx hb dX6_set_17 (by decide) (fun c4 => ?_) (fun c4 => ?_)
    · have h := e_t c4 h
      refine lv_aload_n hx hb dX6_set_22 rfl (lv_at hl 0 rfl) ?_
      refine va_get (D := D) (ci := 6) (v := .ref (ad 2)) (C := RX6) (T := TX6) (N := 42) hx hb hts iX6 hown hK hP 0 rfl rfl 3 (Nat.le_of_ble_eq_true rfl) f13 (fun _ h9 => h9) rfl dX6_set_23 ?_
      refine lv_iload_n hx hb dX6_set_26 rfl (lv_at hl 1 rfl) ?_
      obtain ⟨v5, ev5, nv5, h⟩ := e_rd h
      refine xa_iald hx hb hK hP 2 rfl nv5 ev5 dX6_set_27 ?_
      refine lv_istore_n (lv' := [(3, .int v5), (0, .ref (ad 0)), (1, .int x1), (2, .int x2)]) hx hb dX6_set_28 rfl hl (by decide) rfl (fun ls hl => ?_)
      refine lv_aload_n hx hb dX6_set_29 rfl (lv_at hl 1 rfl) ?_
      obtain ⟨q6, eq6, h⟩ := e_b h
      refine xv_v0 (As := []) (rest := []) (ci := 6) (b := ad 0) ⟨hx, hb, hml, hown, hts⟩ hl.1 (kX6_begins l D cA ad 0 tape taped value weight many block ties lines pastValue pastWeight pastMany undos fresh newValue newWeight newMany newBlock newTies newLines hasBlock hasTies size att place sort number fault faultPlace lastFault lastPlace toValue toWeight toMany often firstOf lastOf unlikes unlikeMany isCandidate modes fewest  _ eq6) (cwV 0 hts gX6_set_X6_begins rfl rfl rfl (by decide +kernel) ⟨Nat.le_of_ble_eq_true rfl, Nat.le_of_ble_eq_true rfl⟩) rfl hK hP hD hS hA 0 rfl rfl rfl rfl (Nat.le_of_ble_eq_true rfl) dX6_set_30 ⟨Nat.zero_le _, Nat.zero_le _⟩ (fun H locs hP hD hS => ?_)
      have hP : va_P D vwCl (wX6 cA ad 0 tape taped value weight many block ties lines pastValue pastWeight pastMany undos fresh newValue newWeight newMany newBlock newTies newLines hasBlock hasTies size att place sort number fault faultPlace lastFault lastPlace q6.1 q6.2.1 q6.2.2 often firstOf lastOf unlikes unlikeMany isCandidate modes fewest) H := hP
      have hD : va_D A (wX6 cA ad 0 tape taped value weight many block ties lines pastValue pastWeight pastMany undos fresh newValue newWeight newMany newBlock newTies newLines hasBlock hasTies size att place sort number fault faultPlace lastFault lastPlace q6.1 q6.2.1 q6.2.2 often firstOf lastOf unlikes unlikeMany isCandidate modes fewest) := hD
      refine lv_aload_n hx hb dX6_set_33 rfl (lv_at hl 1 rfl) ?_
      refine va_get (D := D) (ci := 6) (v := .ref (ad 9)) (C := RX6) (T := TX6) (N := 42) hx hb hts iX6 hown hK hP 0 rfl rfl 31 (Nat.le_of_ble_eq_true rfl) f41 (fun _ h9 => h9) rfl dX6_set_34 ?_
      refine lv_iload_n hx hb dX6_set_37 rfl (lv_at hl 2 rfl) ?_
      refine lv_iload_n hx hb dX6_set_38 rfl (lv_at hl 3 rfl) ?_
      obtain ⟨a7, ea7, na7, h⟩ := e_wr h
      refine xa_iast hx hb hK hP hD hS 9 rfl na7 ea7 dX6_set_39 (fun H locs hP hD hS => ?_)
      have hP : va_P D vwCl (wX6 cA ad 0 tape taped value weight many block ties lines pastValue pastWeight pastMany undos fresh newValue newWeight newMany newBlock newTies newLines hasBlock hasTies size att place sort number fault faultPlace lastFault lastPlace a7 q6.2.1 q6.2.2 often firstOf lastOf unlikes unlikeMany isCandidate modes fewest) H := hP
      have hD : va_D A (wX6 cA ad 0 tape taped value weight many block ties lines pastValue pastWeight pastMany undos fresh newValue newWeight newMany newBlock newTies newLines hasBlock hasTies size att place sort number fault faultPlace lastFault lastPlace a7 q6.2.1 q6.2.2 often firstOf lastOf unlikes unlikeMany isCandidate modes fewest) := hD
      refine lv_aload_n hx hb dX6_set_40 rfl (lv_at hl 1 rfl) ?_
      obtain ⟨q8, eq8, h⟩ := e_b h
      refine xv_v0 (As := []) (rest := []) (ci := 6) (b := ad 0) ⟨hx, hb, hml, hown, hts⟩ hl.1 (kX6_edits l D cA ad 0 tape taped value weight many block ties lines pastValue pastWeight pastMany undos fresh newValue newWeight newMany newBlock newTies newLines hasBlock hasTies size att place sort number fault faultPlace lastFault lastPlace a7 q6.2.1 q6.2.2 often firstOf lastOf unlikes unlikeMany isCandidate modes fewest  _ eq8) (cwV 0 hts gX6_set_X6_edits rfl rfl rfl (by decide +kernel) ⟨Nat.le_of_ble_eq_true rfl, Nat.le_of_ble_eq_true rfl⟩) rfl hK hP hD hS hA 0 rfl rfl rfl rfl (Nat.le_of_ble_eq_true rfl) dX6_set_41 ⟨Nat.zero_le _, Nat.zero_le _⟩ (fun H locs hP hD hS => ?_)
      have hP : va_P D vwCl (wX6 cA ad 0 tape taped q8.1 q8.2.1 q8.2.2.1 block ties lines q8.2.2.2.1 q8.2.2.2.2.1 q8.2.2.2.2.2.1 q8.2.2.2.2.2.2.1 q8.2.2.2.2.2.2.2 newValue newWeight newMany newBlock newTies newLines hasBlock hasTies size att place sort number fault faultPlace lastFault lastPlace a7 q6.2.1 q6.2.2 often firstOf lastOf unlikes unlikeMany isCandidate modes fewest) H := hP
      have hD : va_D A (wX6 cA ad 0 tape taped q8.1 q8.2.1 q8.2.2.1 block ties lines q8.2.2.2.1 q8.2.2.2.2.1 q8.2.2.2.2.2.1 q8.2.2.2.2.2.2.1 q8.2.2.2.2.2.2.2 newValue newWeight newMany newBlock newTies newLines hasBlock hasTies size att place sort number fault faultPlace lastFault lastPlace a7 q6.2.1 q6.2.2 often firstOf lastOf unlikes unlikeMany isCandidate modes fewest) := hD
      refine lv_iload_n hx hb dX6_set_44 rfl (lv_at hl 0 rfl) ?_
      obtain rfl := e_s h
      exact hret hP hS rfl dX6_set_45
    · have h := e_f (not_not_intro c4) h
      refine lv_iconst (v := (-1)) hx hb dX6_set_20 (by decide) ?_
      obtain rfl := e_s h
      exact hret hP hS rfl dX6_set_21
set_option maxHeartbeats 4000000 in
set_option maxRecDepth 100000 in
theorem kX6_weigh (l : Launch) (D : va_G) (cA : Nat → ClassId) (ad : Nat → Nat) (thrown : Int32) (tape : Nat → Int32) (taped : Int32) (value : Nat → Int32) (weight : Nat → Int32) (many : Int32) (block : Int32) (ties : Int32) (lines : Int32) (pastValue : Nat → Int32) (pastWeight : Nat → Int32) (pastMany : Nat → Int32) (undos : Int32) (fresh : Int32) (newValue : Nat → Int32) (newWeight : Nat → Int32) (newMany : Int32) (newBlock : Int32) (newTies : Int32) (newLines : Int32) (hasBlock : Int32) (hasTies : Int32) (size : Int32) (att : Int32) (place : Int32) (sort : Int32) (number : Int32) (fault : Int32) (faultPlace : Int32) (lastFault : Int32) (lastPlace : Int32) (toValue : Nat → Int32) (toWeight : Nat → Int32) (toMany : Int32) (often : Nat → Int32) (firstOf : Nat → Int32) (lastOf : Nat → Int32) (unlikes : Nat → Int32) (unlikeMany : Int32) (isCandidate : Nat → Int32) (modes : Nat → Int32) (fewest : Nat → Int32) (x1 : Int32) (x2 : Int32) (q : Int32 × Int32 × (Nat → Int32) × (Nat → Int32) × Int32 × (Nat → Int32) × (Nat → Int32) × (Nat → Int32) × Int32 × Int32 × (Nat → Int32) × (Nat → Int32) × Int32) (h : mX6_weigh thrown value weight many block pastValue pastWeight pastMany undos fresh toValue toWeight toMany x1 x2 = some q) : MI l yX6_weigh wsX6_weigh { frames := 5, cells := 0, slots := 0, locals := 112 } D cA .int [.ref (ad 0), .int x1, .int x2] (wX6 cA ad thrown tape taped value weight many block ties lines pastValue pastWeight pastMany undos fresh newValue newWeight newMany newBlock newTies newLines hasBlock hasTies size att place sort number fault faultPlace lastFault lastPlace toValue toWeight toMany often firstOf lastOf unlikes unlikeMany isCandidate modes fewest) (wX6 cA ad q.2.1 tape taped q.2.2.1 q.2.2.2.1 q.2.2.2.2.1 block ties lines q.2.2.2.2.2.1 q.2.2.2.2.2.2.1 q.2.2.2.2.2.2.2.1 q.2.2.2.2.2.2.2.2.1 q.2.2.2.2.2.2.2.2.2.1 newValue newWeight newMany newBlock newTies newLines hasBlock hasTies size att place sort number fault faultPlace lastFault lastPlace q.2.2.2.2.2.2.2.2.2.2.1 q.2.2.2.2.2.2.2.2.2.2.2.1 q.2.2.2.2.2.2.2.2.2.2.2.2 often firstOf lastOf unlikes unlikeMany isCandidate modes fewest) q.1 := by
  refine MI.of (cc := cX6_weigh) (maxL := 4) (by decide +kernel) rfl rfl rfl (Nat.le_of_ble_eq_true rfl) ?_
  intro p e s m args below meth c A ls Q hx hb hml hts hown hK hP hD hA hS hl hret
  have hl : lv_has ls 4 [(0, .ref (ad 0)), (1, .int x1), (2, .int x2)] := hl
  have f16 := hts (.fieldLink RX6 16 "ModeDeskModel" "weight" "[I") (by decide +kernel)
  have f44 := hts (.fieldLink RX6 44 "ModeDeskModel" "toWeight" "[I") (by decide +kernel)
  have f72 := hts (.fieldLink RX6 72 "ModeDeskModel" "thrown" "I") (by decide +kernel)
  have iX6 : ∀ w ∈ wsX60, w ∈ wsX6_weigh := by decide +kernel
  unfold mX6_weigh at h
  refine lv_aload_n hx hb dX6_weigh_0 rfl (lv_at hl 0 rfl) ?_
  refine lv_iconst (v := 0) hx hb dX6_weigh_1 (by decide) ?_
  refine va_put (D := D) (ci := 6) (v := .int 0) (ty := .int) (C := RX6) (T := TX6) (N := 42) hx hb hts iX6 tyX6 tyX6_ok nmX6 hown hK hP hD hS 0 rfl rfl 0 (Nat.le_of_ble_eq_true rfl) f72 (fun _ h9 => h9) rfl (tyX6_ok 0 (Nat.le_of_ble_eq_true rfl)) rfl rfl (Nat.le_of_ble_eq_true rfl) dX6_weigh_2 (fun H locs hP hD hS => ?_)
  have hP : va_P D vwCl (wX6 cA ad 0 tape taped value weight many block ties lines pastValue pastWeight pastMany undos fresh newValue newWeight newMany newBlock newTies newLines hasBlock hasTies size att place sort number fault faultPlace lastFault lastPlace toValue toWeight toMany often firstOf lastOf unlikes unlikeMany isCandidate modes fewest) H := hP
  have hD : va_D A (wX6 cA ad 0 tape taped value weight many block ties lines pastValue pastWeight pastMany undos fresh newValue newWeight newMany newBlock newTies newLines hasBlock hasTies size att place sort number fault faultPlace lastFault lastPlace toValue toWeight toMany often firstOf lastOf unlikes unlikeMany isCandidate modes fewest) := hD
  refine lv_aload_n hx hb dX6_weigh_5 rfl (lv_at hl 0 rfl) ?_
  refine lv_iload_n hx hb dX6_weigh_6 rfl (lv_at hl 1 rfl) ?_
  obtain ⟨q1, eq1, h⟩ := e_b h
  refine xv_i0 (As := [.int x1]) (rest := []) (ci := 6) (b := ad 0) ⟨hx, hb, hml, hown, hts⟩ hl.1 (kX6_isPlace l D cA ad 0 tape taped value weight many block ties lines pastValue pastWeight pastMany undos fresh newValue newWeight newMany newBlock newTies newLines hasBlock hasTies size att place sort number fault faultPlace lastFault lastPlace toValue toWeight toMany often firstOf lastOf unlikes unlikeMany isCandidate modes fewest x1 _ eq1) (cwV 1 hts gX6_weigh_X6_isPlace rfl rfl rfl (by decide +kernel) ⟨Nat.le_of_ble_eq_true rfl, Nat.le_of_ble_eq_true rfl⟩) rfl hK hP hD hS hA 0 rfl rfl rfl rfl (Nat.le_of_ble_eq_true rfl) dX6_weigh_7 ⟨Nat.zero_le _, Nat.zero_le _⟩ (fun H locs hP hD hS hnq1 => ?_)
  have hP : va_P D vwCl (wX6 cA ad 0 tape taped value weight many block ties lines pastValue pastWeight pastMany undos fresh newValue newWeight newMany newBlock newTies newLines hasBlock hasTies size att place sort number fault faultPlace lastFault lastPlace toValue toWeight toMany often firstOf lastOf unlikes unlikeMany isCandidate modes fewest) H := hP
  have hD : va_D A (wX6 cA ad 0 tape taped value weight many block ties lines pastValue pastWeight pastMany undos fresh newValue newWeight newMany newBlock newTies newLines hasBlock hasTies size att place sort number fault faultPlace lastFault lastPlace toValue toWeight toMany often firstOf lastOf unlikes unlikeMany isCandidate modes fewest) := hD
  refine lv_if_eq (tgt := 24) hx hb dX6_weigh_10 (by decide) (fun c2 => ?_) (fun c2 => ?_)
  · have h := e_t c2 h
    refine lv_iconst (v := (-1)) hx hb dX6_weigh_24 (by decide) ?_
    obtain rfl := e_s h
    exact hret hP hS rfl dX6_weigh_25
  · have h := e_f c2 h
    refine lv_iload_n hx hb dX6_weigh_13 rfl (lv_at hl 2 rfl) ?_
    refine lv_iconst (v := 1) hx hb dX6_weigh_14 (by decide) ?_
    refine lv_icmp_lt (tgt := 24) hx hb dX6_weigh_15 (by decide) (fun c3 => ?_) (fun c3 => ?_)
    · have h := e_t c3 h
      refine lv_iconst (v := (-1)) hx hb dX6_weigh_24 (by decide) ?_
      obtain rfl := e_s h
      exact hret hP hS rfl dX6_weigh_25
    · have h := e_f c3 h
      refine lv_iload_n hx hb dX6_weigh_18 rfl (lv_at hl 2 rfl) ?_
      refine lv_bipush (v := 9) hx hb dX6_weigh_19 (by decide) ?_
      refine lv_icmp_le (tgt := 26) hx hb dX6_weigh_21 (by decide) (fun c4 => ?_) (fun c4 => ?_)
      · have h := e_t c4 h
        refine lv_aload_n hx hb dX6_weigh_26 rfl (lv_at hl 0 rfl) ?_
        refine va_get (D := D) (ci := 6) (v := .ref (ad 3)) (C := RX6) (T := TX6) (N := 42) hx hb hts iX6 hown hK hP 0 rfl rfl 4 (Nat.le_of_ble_eq_true rfl) f16 (fun _ h9 => h9) rfl dX6_weigh_27 ?_
        refine lv_iload_n hx hb dX6_weigh_30 rfl (lv_at hl 1 rfl) ?_
        obtain ⟨v5, ev5, nv5, h⟩ := e_rd h
        refine xa_iald hx hb hK hP 3 rfl nv5 ev5 dX6_weigh_31 ?_
        refine lv_istore_n (lv' := [(3, .int v5), (0, .ref (ad 0)), (1, .int x1), (2, .int x2)]) hx hb dX6_weigh_32 rfl hl (by decide) rfl (fun ls hl => ?_)
        refine lv_aload_n hx hb dX6_weigh_33 rfl (lv_at hl 1 rfl) ?_
        obtain ⟨q6, eq6, h⟩ := e_b h
        refine xv_v0 (As := []) (rest := []) (ci := 6) (b := ad 0) ⟨hx, hb, hml, hown, hts⟩ hl.1 (kX6_begins l D cA ad 0 tape taped value weight many block ties lines pastValue pastWeight pastMany undos fresh newValue newWeight newMany newBlock newTies newLines hasBlock hasTies size att place sort number fault faultPlace lastFault lastPlace toValue toWeight toMany often firstOf lastOf unlikes unlikeMany isCandidate modes fewest  _ eq6) (cwV 0 hts gX6_weigh_X6_begins rfl rfl rfl (by decide +kernel) ⟨Nat.le_of_ble_eq_true rfl, Nat.le_of_ble_eq_true rfl⟩) rfl hK hP hD hS hA 0 rfl rfl rfl rfl (Nat.le_of_ble_eq_true rfl) dX6_weigh_34 ⟨Nat.zero_le _, Nat.zero_le _⟩ (fun H locs hP hD hS => ?_)
        have hP : va_P D vwCl (wX6 cA ad 0 tape taped value weight many block ties lines pastValue pastWeight pastMany undos fresh newValue newWeight newMany newBlock newTies newLines hasBlock hasTies size att place sort number fault faultPlace lastFault lastPlace q6.1 q6.2.1 q6.2.2 often firstOf lastOf unlikes unlikeMany isCandidate modes fewest) H := hP
        have hD : va_D A (wX6 cA ad 0 tape taped value weight many block ties lines pastValue pastWeight pastMany undos fresh newValue newWeight newMany newBlock newTies newLines hasBlock hasTies size att place sort number fault faultPlace lastFault lastPlace q6.1 q6.2.1 q6.2.2 often firstOf lastOf unlikes unlikeMany isCandidate modes fewest) := hD
        refine lv_aload_n hx hb dX6_weigh_37 rfl (lv_at hl 1 rfl) ?_
        refine va_get (D := D) (ci := 6) (v := .ref (ad 10)) (C := RX6) (T := TX6) (N := 42) hx hb hts iX6 hown hK hP 0 rfl rfl 32 (Nat.le_of_ble_eq_true rfl) f44 (fun _ h9 => h9) rfl dX6_weigh_38 ?_
        refine lv_iload_n hx hb dX6_weigh_41 rfl (lv_at hl 2 rfl) ?_
        refine lv_iload_n hx hb dX6_weigh_42 rfl (lv_at hl 3 rfl) ?_
        obtain ⟨a7, ea7, na7, h⟩ := e_wr h
        refine xa_iast hx hb hK hP hD hS 10 rfl na7 ea7 dX6_weigh_43 (fun H locs hP hD hS => ?_)
        have hP : va_P D vwCl (wX6 cA ad 0 tape taped value weight many block ties lines pastValue pastWeight pastMany undos fresh newValue newWeight newMany newBlock newTies newLines hasBlock hasTies size att place sort number fault faultPlace lastFault lastPlace q6.1 a7 q6.2.2 often firstOf lastOf unlikes unlikeMany isCandidate modes fewest) H := hP
        have hD : va_D A (wX6 cA ad 0 tape taped value weight many block ties lines pastValue pastWeight pastMany undos fresh newValue newWeight newMany newBlock newTies newLines hasBlock hasTies size att place sort number fault faultPlace lastFault lastPlace q6.1 a7 q6.2.2 often firstOf lastOf unlikes unlikeMany isCandidate modes fewest) := hD
        refine lv_aload_n hx hb dX6_weigh_44 rfl (lv_at hl 1 rfl) ?_
        obtain ⟨q8, eq8, h⟩ := e_b h
        refine xv_v0 (As := []) (rest := []) (ci := 6) (b := ad 0) ⟨hx, hb, hml, hown, hts⟩ hl.1 (kX6_edits l D cA ad 0 tape taped value weight many block ties lines pastValue pastWeight pastMany undos fresh newValue newWeight newMany newBlock newTies newLines hasBlock hasTies size att place sort number fault faultPlace lastFault lastPlace q6.1 a7 q6.2.2 often firstOf lastOf unlikes unlikeMany isCandidate modes fewest  _ eq8) (cwV 0 hts gX6_weigh_X6_edits rfl rfl rfl (by decide +kernel) ⟨Nat.le_of_ble_eq_true rfl, Nat.le_of_ble_eq_true rfl⟩) rfl hK hP hD hS hA 0 rfl rfl rfl rfl (Nat.le_of_ble_eq_true rfl) dX6_weigh_45 ⟨Nat.zero_le _, Nat.zero_le _⟩ (fun H locs hP hD hS => ?_)
        have hP : va_P D vwCl (wX6 cA ad 0 tape taped q8.1 q8.2.1 q8.2.2.1 block ties lines q8.2.2.2.1 q8.2.2.2.2.1 q8.2.2.2.2.2.1 q8.2.2.2.2.2.2.1 q8.2.2.2.2.2.2.2 newValue newWeight newMany newBlock newTies newLines hasBlock hasTies size att place sort number fault faultPlace lastFault lastPlace q6.1 a7 q6.2.2 often firstOf lastOf unlikes unlikeMany isCandidate modes fewest) H := hP
        have hD : va_D A (wX6 cA ad 0 tape taped q8.1 q8.2.1 q8.2.2.1 block ties lines q8.2.2.2.1 q8.2.2.2.2.1 q8.2.2.2.2.2.1 q8.2.2.2.2.2.2.1 q8.2.2.2.2.2.2.2 newValue newWeight newMany newBlock newTies newLines hasBlock hasTies size att place sort number fault faultPlace lastFault lastPlace q6.1 a7 q6.2.2 often firstOf lastOf unlikes unlikeMany isCandidate modes fewest) := hD
        refine lv_iload_n hx hb dX6_weigh_48 rfl (lv_at hl 0 rfl) ?_
        obtain rfl := e_s h
        exact hret hP hS rfl dX6_weigh_49
      · have h := e_f c4 h
        refine lv_iconst (v := (-1)) hx hb dX6_weigh_24 (by decide) ?_
        obtain rfl := e_s h
        exact hret hP hS rfl dX6_weigh_25
set_option maxHeartbeats 4000000 in
set_option maxRecDepth 100000 in
theorem kX6_insert (l : Launch) (D : va_G) (cA : Nat → ClassId) (ad : Nat → Nat) (thrown : Int32) (tape : Nat → Int32) (taped : Int32) (value : Nat → Int32) (weight : Nat → Int32) (many : Int32) (block : Int32) (ties : Int32) (lines : Int32) (pastValue : Nat → Int32) (pastWeight : Nat → Int32) (pastMany : Nat → Int32) (undos : Int32) (fresh : Int32) (newValue : Nat → Int32) (newWeight : Nat → Int32) (newMany : Int32) (newBlock : Int32) (newTies : Int32) (newLines : Int32) (hasBlock : Int32) (hasTies : Int32) (size : Int32) (att : Int32) (place : Int32) (sort : Int32) (number : Int32) (fault : Int32) (faultPlace : Int32) (lastFault : Int32) (lastPlace : Int32) (toValue : Nat → Int32) (toWeight : Nat → Int32) (toMany : Int32) (often : Nat → Int32) (firstOf : Nat → Int32) (lastOf : Nat → Int32) (unlikes : Nat → Int32) (unlikeMany : Int32) (isCandidate : Nat → Int32) (modes : Nat → Int32) (fewest : Nat → Int32) (x1 : Int32) (x2 : Int32) (q : Int32 × Int32 × (Nat → Int32) × (Nat → Int32) × Int32 × (Nat → Int32) × (Nat → Int32) × (Nat → Int32) × Int32 × Int32 × (Nat → Int32) × (Nat → Int32) × Int32) (h : mX6_insert thrown value weight many block pastValue pastWeight pastMany undos fresh toValue toWeight toMany x1 x2 = some q) : MI l yX6_insert wsX6_insert { frames := 5, cells := 0, slots := 0, locals := 112 } D cA .int [.ref (ad 0), .int x1, .int x2] (wX6 cA ad thrown tape taped value weight many block ties lines pastValue pastWeight pastMany undos fresh newValue newWeight newMany newBlock newTies newLines hasBlock hasTies size att place sort number fault faultPlace lastFault lastPlace toValue toWeight toMany often firstOf lastOf unlikes unlikeMany isCandidate modes fewest) (wX6 cA ad q.2.1 tape taped q.2.2.1 q.2.2.2.1 q.2.2.2.2.1 block ties lines q.2.2.2.2.2.1 q.2.2.2.2.2.2.1 q.2.2.2.2.2.2.2.1 q.2.2.2.2.2.2.2.2.1 q.2.2.2.2.2.2.2.2.2.1 newValue newWeight newMany newBlock newTies newLines hasBlock hasTies size att place sort number fault faultPlace lastFault lastPlace q.2.2.2.2.2.2.2.2.2.2.1 q.2.2.2.2.2.2.2.2.2.2.2.1 q.2.2.2.2.2.2.2.2.2.2.2.2 often firstOf lastOf unlikes unlikeMany isCandidate modes fewest) q.1 := by
  refine MI.of (cc := cX6_insert) (maxL := 4) (by decide +kernel) rfl rfl rfl (Nat.le_of_ble_eq_true rfl) ?_
  intro p e s m args below meth c A ls Q hx hb hml hts hown hK hP hD hA hS hl hret
  have hl : lv_has ls 4 [(0, .ref (ad 0)), (1, .int x1), (2, .int x2)] := hl
  have f175 := hts (.fieldLink RX6 175 "ModeDeskModel" "many" "I") (by decide +kernel)
  have f197 := hts (.fieldLink RX6 197 "ModeDeskModel" "toMany" "I") (by decide +kernel)
  have f41 := hts (.fieldLink RX6 41 "ModeDeskModel" "toValue" "[I") (by decide +kernel)
  have f44 := hts (.fieldLink RX6 44 "ModeDeskModel" "toWeight" "[I") (by decide +kernel)
  have f72 := hts (.fieldLink RX6 72 "ModeDeskModel" "thrown" "I") (by decide +kernel)
  have iX6 : ∀ w ∈ wsX60, w ∈ wsX6_insert := by decide +kernel
  unfold mX6_insert at h
  refine lv_aload_n hx hb dX6_insert_0 rfl (lv_at hl 0 rfl) ?_
  refine lv_iconst (v := 0) hx hb dX6_insert_1 (by decide) ?_
  refine va_put (D := D) (ci := 6) (v := .int 0) (ty := .int) (C := RX6) (T := TX6) (N := 42) hx hb hts iX6 tyX6 tyX6_ok nmX6 hown hK hP hD hS 0 rfl rfl 0 (Nat.le_of_ble_eq_true rfl) f72 (fun _ h9 => h9) rfl (tyX6_ok 0 (Nat.le_of_ble_eq_true rfl)) rfl rfl (Nat.le_of_ble_eq_true rfl) dX6_insert_2 (fun H locs hP hD hS => ?_)
  have hP : va_P D vwCl (wX6 cA ad 0 tape taped value weight many block ties lines pastValue pastWeight pastMany undos fresh newValue newWeight newMany newBlock newTies newLines hasBlock hasTies size att place sort number fault faultPlace lastFault lastPlace toValue toWeight toMany often firstOf lastOf unlikes unlikeMany isCandidate modes fewest) H := hP
  have hD : va_D A (wX6 cA ad 0 tape taped value weight many block ties lines pastValue pastWeight pastMany undos fresh newValue newWeight newMany newBlock newTies newLines hasBlock hasTies size att place sort number fault faultPlace lastFault lastPlace toValue toWeight toMany often firstOf lastOf unlikes unlikeMany isCandidate modes fewest) := hD
  refine lv_iload_n hx hb dX6_insert_5 rfl (lv_at hl 1 rfl) ?_
  refine lv_if_lt (tgt := 33) hx hb dX6_insert_6 (by decide) (fun c1 => ?_) (fun c1 => ?_)
  · have h := e_t c1 h
    refine lv_iconst (v := (-1)) hx hb dX6_insert_33 (by decide) ?_
    obtain rfl := e_s h
    exact hret hP hS rfl dX6_insert_34
  · have h := e_f c1 h
    refine lv_iload_n hx hb dX6_insert_9 rfl (lv_at hl 1 rfl) ?_
    refine lv_aload_n hx hb dX6_insert_10 rfl (lv_at hl 0 rfl) ?_
    refine va_get (D := D) (ci := 6) (v := .int many) (C := RX6) (T := TX6) (N := 42) hx hb hts iX6 hown hK hP 0 rfl rfl 5 (Nat.le_of_ble_eq_true rfl) f175 (fun _ h9 => h9) rfl dX6_insert_11 ?_
    refine lv_icmp_gt (tgt := 33) hx hb dX6_insert_14 (by decide) (fun c2 => ?_) (fun c2 => ?_)
    · have h := e_t c2 h
      refine lv_iconst (v := (-1)) hx hb dX6_insert_33 (by decide) ?_
      obtain rfl := e_s h
      exact hret hP hS rfl dX6_insert_34
    · have h := e_f c2 h
      refine lv_iload_n hx hb dX6_insert_17 rfl (lv_at hl 2 rfl) ?_
      obtain ⟨q3, eq3, h⟩ := e_b h
      refine xs_i (As := [.int x2]) (rest := []) ⟨hx, hb, hml, hown, hts⟩ hl.1 (kX6_isValue l D cA   x2 _ eq3) (va_cwS 1 hts gX6_insert_X6_isValue rfl rfl rfl (by decide +kernel) ⟨Nat.le_of_ble_eq_true rfl, Nat.le_of_ble_eq_true rfl⟩) rfl hK hP hD hS hA [] rfl (by decide +kernel) rfl (Nat.le_of_ble_eq_true rfl) dX6_insert_18 ⟨Nat.zero_le _, Nat.zero_le _⟩ (fun H locs hP hD hS hnq3 => ?_)
      have hP : va_P D vwCl (wX6 cA ad 0 tape taped value weight many block ties lines pastValue pastWeight pastMany undos fresh newValue newWeight newMany newBlock newTies newLines hasBlock hasTies size att place sort number fault faultPlace lastFault lastPlace toValue toWeight toMany often firstOf lastOf unlikes unlikeMany isCandidate modes fewest) H := hP
      have hD : va_D A (wX6 cA ad 0 tape taped value weight many block ties lines pastValue pastWeight pastMany undos fresh newValue newWeight newMany newBlock newTies newLines hasBlock hasTies size att place sort number fault faultPlace lastFault lastPlace toValue toWeight toMany often firstOf lastOf unlikes unlikeMany isCandidate modes fewest) := hD
      refine lv_if_eq (tgt := 33) hx hb dX6_insert_21 (by decide) (fun c4 => ?_) (fun c4 => ?_)
      · have h := e_t c4 h
        refine lv_iconst (v := (-1)) hx hb dX6_insert_33 (by decide) ?_
        obtain rfl := e_s h
        exact hret hP hS rfl dX6_insert_34
      · have h := e_f c4 h
        refine lv_aload_n hx hb dX6_insert_24 rfl (lv_at hl 0 rfl) ?_
        refine va_get (D := D) (ci := 6) (v := .int many) (C := RX6) (T := TX6) (N := 42) hx hb hts iX6 hown hK hP 0 rfl rfl 5 (Nat.le_of_ble_eq_true rfl) f175 (fun _ h9 => h9) rfl dX6_insert_25 ?_
        refine lv_bipush (v := 120) hx hb dX6_insert_28 (by decide) ?_
        refine lv_icmp_ne (tgt := 35) hx hb dX6_insert_30 (by decide) (fun c5 => ?_) (fun c5 => ?_)
        · have h := e_t c5 h
          refine lv_aload_n hx hb dX6_insert_35 rfl (lv_at hl 0 rfl) ?_
          obtain ⟨q6, eq6, h⟩ := e_b h
          refine xv_v0 (As := []) (rest := []) (ci := 6) (b := ad 0) ⟨hx, hb, hml, hown, hts⟩ hl.1 (kX6_begins l D cA ad 0 tape taped value weight many block ties lines pastValue pastWeight pastMany undos fresh newValue newWeight newMany newBlock newTies newLines hasBlock hasTies size att place sort number fault faultPlace lastFault lastPlace toValue toWeight toMany often firstOf lastOf unlikes unlikeMany isCandidate modes fewest  _ eq6) (cwV 0 hts gX6_insert_X6_begins rfl rfl rfl (by decide +kernel) ⟨Nat.le_of_ble_eq_true rfl, Nat.le_of_ble_eq_true rfl⟩) rfl hK hP hD hS hA 0 rfl rfl rfl rfl (Nat.le_of_ble_eq_true rfl) dX6_insert_36 ⟨Nat.zero_le _, Nat.zero_le _⟩ (fun H locs hP hD hS => ?_)
          have hP : va_P D vwCl (wX6 cA ad 0 tape taped value weight many block ties lines pastValue pastWeight pastMany undos fresh newValue newWeight newMany newBlock newTies newLines hasBlock hasTies size att place sort number fault faultPlace lastFault lastPlace q6.1 q6.2.1 q6.2.2 often firstOf lastOf unlikes unlikeMany isCandidate modes fewest) H := hP
          have hD : va_D A (wX6 cA ad 0 tape taped value weight many block ties lines pastValue pastWeight pastMany undos fresh newValue newWeight newMany newBlock newTies newLines hasBlock hasTies size att place sort number fault faultPlace lastFault lastPlace q6.1 q6.2.1 q6.2.2 often firstOf lastOf unlikes unlikeMany isCandidate modes fewest) := hD
          refine lv_aload_n hx hb dX6_insert_39 rfl (lv_at hl 0 rfl) ?_
          refine va_get (D := D) (ci := 6) (v := .int many) (C := RX6) (T := TX6) (N := 42) hx hb hts iX6 hown hK hP 0 rfl rfl 5 (Nat.le_of_ble_eq_true rfl) f175 (fun _ h9 => h9) rfl dX6_insert_40 ?_
          refine lv_istore_n (lv' := [(3, .int many), (0, .ref (ad 0)), (1, .int x1), (2, .int x2)]) hx hb dX6_insert_43 rfl hl (by decide) rfl (fun ls hl => ?_)
          have hL44 : ∀ (n : Nat) (x1 : Int32) (x2 : Int32) (x3 : Int32) (thrown : Int32) (tape : Nat → Int32) (taped : Int32) (value : Nat → Int32) (weight : Nat → Int32) (many : Int32) (block : Int32) (ties : Int32) (lines : Int32) (pastValue : Nat → Int32) (pastWeight : Nat → Int32) (pastMany : Nat → Int32) (undos : Int32) (fresh : Int32) (newValue : Nat → Int32) (newWeight : Nat → Int32) (newMany : Int32) (newBlock : Int32) (newTies : Int32) (newLines : Int32) (hasBlock : Int32) (hasTies : Int32) (size : Int32) (att : Int32) (place : Int32) (sort : Int32) (number : Int32) (fault : Int32) (faultPlace : Int32) (lastFault : Int32) (lastPlace : Int32) (toValue : Nat → Int32) (toWeight : Nat → Int32) (toMany : Int32) (often : Nat → Int32) (firstOf : Nat → Int32) (lastOf : Nat → Int32) (unlikes : Nat → Int32) (unlikeMany : Int32) (isCandidate : Nat → Int32) (modes : Nat → Int32) (fewest : Nat → Int32) (z7 : (Nat → Int32) × (Nat → Int32)) (ls : Array Slot) (H : Heap) (locs : List Loc), lv_has ls 4 [(0, .ref (ad 0)), (1, .int x1), (2, .int x2), (3, .int x3)] → va_P D vwCl (wX6 cA ad thrown tape taped value weight many block ties lines pastValue pastWeight pastMany undos fresh newValue newWeight newMany newBlock newTies newLines hasBlock hasTies size att place sort number fault faultPlace lastFault lastPlace toValue toWeight toMany often firstOf lastOf unlikes unlikeMany isCandidate modes fewest) H → va_D A (wX6 cA ad thrown tape taped value weight many block ties lines pastValue pastWeight pastMany undos fresh newValue newWeight newMany newBlock newTies newLines hasBlock hasTies size att place sort number fault faultPlace lastFault lastPlace toValue toWeight toMany often firstOf lastOf unlikes unlikeMany isCandidate modes fewest) → va_S A s.heap H locs → mX6_insert_L44 x1 n x3 toValue toWeight = some z7 → (∀ (ls : Array Slot) (H : Heap) (locs : List Loc), lv_has ls 4 [(0, .ref (ad 0)), (1, .int x1), (2, .int x2)] → va_P D vwCl (wX6 cA ad thrown tape taped value weight many block ties lines pastValue pastWeight pastMany undos fresh newValue newWeight newMany newBlock newTies newLines hasBlock hasTies size att place sort number fault faultPlace lastFault lastPlace z7.1 z7.2 toMany often firstOf lastOf unlikes unlikeMany isCandidate modes fewest) H → va_D A (wX6 cA ad thrown tape taped value weight many block ties lines pastValue pastWeight pastMany undos fresh newValue newWeight newMany newBlock newTies newLines hasBlock hasTies size att place sort number fault faultPlace lastFault lastPlace z7.1 z7.2 toMany often firstOf lastOf unlikes unlikeMany isCandidate modes fewest) → va_S A s.heap H locs → W p l e (headSpec wsX6_insert { frames := 5, cells := 0, slots := 0, locals := 112 }).room s m args below meth c H locs 0 0 Q (F0 m 83 ls [])) → W p l e (headSpec wsX6_insert { frames := 5, cells := 0, slots := 0, locals := 112 }).room s m args below meth c H locs 0 0 Q (F0 m 44 ls []) := by
            intro n
            induction n with
            | zero => intro x1 x2 x3 thrown tape taped value weight many block ties lines pastValue pastWeight pastMany undos fresh newValue newWeight newMany newBlock newTies newLines hasBlock hasTies size att place sort number fault faultPlace lastFault lastPlace toValue toWeight toMany often firstOf lastOf unlikes unlikeMany isCandidate modes fewest z7 ls H locs hl hP hD hS h hk44; exact e_n h
            | succ n ih44 =>
              intro x1 x2 x3 thrown tape taped value weight many block ties lines pastValue pastWeight pastMany undos fresh newValue newWeight newMany newBlock newTies newLines hasBlock hasTies size att place sort number fault faultPlace lastFault lastPlace toValue toWeight toMany often firstOf lastOf unlikes unlikeMany isCandidate modes fewest z7 ls H locs hl hP hD hS h hk44
              rw [mX6_insert_L44.eq_2] at h
              refine lv_iload_n hx hb dX6_insert_44 rfl (lv_at hl 3 rfl) ?_
              refine lv_iload_n hx hb dX6_insert_45 rfl (lv_at hl 1 rfl) ?_
              refine lv_icmp_le (tgt := 83) hx hb dX6_insert_46 (by decide) (fun c8 => ?_) (fun c8 => ?_)
              · have h := e_t c8 h
                obtain rfl := e_s h
                exact hk44 _ _ _ (lv_sub hl [0, 1, 2] rfl) hP hD hS
              · have h := e_f c8 h
                refine lv_aload_n hx hb dX6_insert_49 rfl (lv_at hl 0 rfl) ?_
                refine va_get (D := D) (ci := 6) (v := .ref (ad 9)) (C := RX6) (T := TX6) (N := 42) hx hb hts iX6 hown hK hP 0 rfl rfl 31 (Nat.le_of_ble_eq_true rfl) f41 (fun _ h9 => h9) rfl dX6_insert_50 ?_
                refine lv_iload_n hx hb dX6_insert_53 rfl (lv_at hl 3 rfl) ?_
                refine lv_aload_n hx hb dX6_insert_54 rfl (lv_at hl 0 rfl) ?_
                refine va_get (D := D) (ci := 6) (v := .ref (ad 9)) (C := RX6) (T := TX6) (N := 42) hx hb hts iX6 hown hK hP 0 rfl rfl 31 (Nat.le_of_ble_eq_true rfl) f41 (fun _ h9 => h9) rfl dX6_insert_55 ?_
                refine lv_iload_n hx hb dX6_insert_58 rfl (lv_at hl 3 rfl) ?_
                refine lv_iconst (v := 1) hx hb dX6_insert_59 (by decide) ?_
                refine lv_isub hx hb dX6_insert_60 ?_
                obtain ⟨v9, ev9, nv9, h⟩ := e_rd h
                refine xa_iald hx hb hK hP 9 rfl nv9 ev9 dX6_insert_61 ?_
                obtain ⟨a10, ea10, na10, h⟩ := e_wr h
                refine xa_iast hx hb hK hP hD hS 9 rfl na10 ea10 dX6_insert_62 (fun H locs hP hD hS => ?_)
                have hP : va_P D vwCl (wX6 cA ad thrown tape taped value weight many block ties lines pastValue pastWeight pastMany undos fresh newValue newWeight newMany newBlock newTies newLines hasBlock hasTies size att place sort number fault faultPlace lastFault lastPlace a10 toWeight toMany often firstOf lastOf unlikes unlikeMany isCandidate modes fewest) H := hP
                have hD : va_D A (wX6 cA ad thrown tape taped value weight many block ties lines pastValue pastWeight pastMany undos fresh newValue newWeight newMany newBlock newTies newLines hasBlock hasTies size att place sort number fault faultPlace lastFault lastPlace a10 toWeight toMany often firstOf lastOf unlikes unlikeMany isCandidate modes fewest) := hD
                refine lv_aload_n hx hb dX6_insert_63 rfl (lv_at hl 0 rfl) ?_
                refine va_get (D := D) (ci := 6) (v := .ref (ad 10)) (C := RX6) (T := TX6) (N := 42) hx hb hts iX6 hown hK hP 0 rfl rfl 32 (Nat.le_of_ble_eq_true rfl) f44 (fun _ h9 => h9) rfl dX6_insert_64 ?_
                refine lv_iload_n hx hb dX6_insert_67 rfl (lv_at hl 3 rfl) ?_
                refine lv_aload_n hx hb dX6_insert_68 rfl (lv_at hl 0 rfl) ?_
                refine va_get (D := D) (ci := 6) (v := .ref (ad 10)) (C := RX6) (T := TX6) (N := 42) hx hb hts iX6 hown hK hP 0 rfl rfl 32 (Nat.le_of_ble_eq_true rfl) f44 (fun _ h9 => h9) rfl dX6_insert_69 ?_
                refine lv_iload_n hx hb dX6_insert_72 rfl (lv_at hl 3 rfl) ?_
                refine lv_iconst (v := 1) hx hb dX6_insert_73 (by decide) ?_
                refine lv_isub hx hb dX6_insert_74 ?_
                obtain ⟨v11, ev11, nv11, h⟩ := e_rd h
                refine xa_iald hx hb hK hP 10 rfl nv11 ev11 dX6_insert_75 ?_
                obtain ⟨a12, ea12, na12, h⟩ := e_wr h
                refine xa_iast hx hb hK hP hD hS 10 rfl na12 ea12 dX6_insert_76 (fun H locs hP hD hS => ?_)
                have hP : va_P D vwCl (wX6 cA ad thrown tape taped value weight many block ties lines pastValue pastWeight pastMany undos fresh newValue newWeight newMany newBlock newTies newLines hasBlock hasTies size att place sort number fault faultPlace lastFault lastPlace a10 a12 toMany often firstOf lastOf unlikes unlikeMany isCandidate modes fewest) H := hP
                have hD : va_D A (wX6 cA ad thrown tape taped value weight many block ties lines pastValue pastWeight pastMany undos fresh newValue newWeight newMany newBlock newTies newLines hasBlock hasTies size att place sort number fault faultPlace lastFault lastPlace a10 a12 toMany often firstOf lastOf unlikes unlikeMany isCandidate modes fewest) := hD
                refine lv_iinc (v := (x3 + (-1))) (lv' := [(3, .int (x3 + (-1))), (0, .ref (ad 0)), (1, .int x1), (2, .int x2)]) hx hb dX6_insert_77 hl (k := 3) rfl rfl (by decide) rfl (fun ls hl => ?_)
                refine lv_goto (tgt := 44) hx hb dX6_insert_80 (by decide) ?_
                exact ih44 x1 x2 (x3 + (-1)) thrown tape taped value weight many block ties lines pastValue pastWeight pastMany undos fresh newValue newWeight newMany newBlock newTies newLines hasBlock hasTies size att place sort number fault faultPlace lastFault lastPlace a10 a12 toMany often firstOf lastOf unlikes unlikeMany isCandidate modes fewest z7 _ _ _ (lv_sub hl [1, 2, 3, 0] rfl) hP hD hS h hk44
          obtain ⟨z13, ez13, h⟩ := e_b h
          refine hL44 FU x1 x2 many 0 tape taped value weight many block ties lines pastValue pastWeight pastMany undos fresh newValue newWeight newMany newBlock newTies newLines hasBlock hasTies size att place sort number fault faultPlace lastFault lastPlace q6.1 q6.2.1 q6.2.2 often firstOf lastOf unlikes unlikeMany isCandidate modes fewest z13 _ _ _ (lv_sub hl [1, 2, 3, 0] rfl) hP hD hS ez13 (fun ls H locs hl hP hD hS => ?_)
          refine lv_aload_n hx hb dX6_insert_83 rfl (lv_at hl 0 rfl) ?_
          refine va_get (D := D) (ci := 6) (v := .ref (ad 9)) (C := RX6) (T := TX6) (N := 42) hx hb hts iX6 hown hK hP 0 rfl rfl 31 (Nat.le_of_ble_eq_true rfl) f41 (fun _ h9 => h9) rfl dX6_insert_84 ?_
          refine lv_iload_n hx hb dX6_insert_87 rfl (lv_at hl 1 rfl) ?_
          refine lv_iload_n hx hb dX6_insert_88 rfl (lv_at hl 2 rfl) ?_
          obtain ⟨a14, ea14, na14, h⟩ := e_wr h
          refine xa_iast hx hb hK hP hD hS 9 rfl na14 ea14 dX6_insert_89 (fun H locs hP hD hS => ?_)
          have hP : va_P D vwCl (wX6 cA ad 0 tape taped value weight many block ties lines pastValue pastWeight pastMany undos fresh newValue newWeight newMany newBlock newTies newLines hasBlock hasTies size att place sort number fault faultPlace lastFault lastPlace a14 z13.2 q6.2.2 often firstOf lastOf unlikes unlikeMany isCandidate modes fewest) H := hP
          have hD : va_D A (wX6 cA ad 0 tape taped value weight many block ties lines pastValue pastWeight pastMany undos fresh newValue newWeight newMany newBlock newTies newLines hasBlock hasTies size att place sort number fault faultPlace lastFault lastPlace a14 z13.2 q6.2.2 often firstOf lastOf unlikes unlikeMany isCandidate modes fewest) := hD
          refine lv_aload_n hx hb dX6_insert_90 rfl (lv_at hl 0 rfl) ?_
          refine va_get (D := D) (ci := 6) (v := .ref (ad 10)) (C := RX6) (T := TX6) (N := 42) hx hb hts iX6 hown hK hP 0 rfl rfl 32 (Nat.le_of_ble_eq_true rfl) f44 (fun _ h9 => h9) rfl dX6_insert_91 ?_
          refine lv_iload_n hx hb dX6_insert_94 rfl (lv_at hl 1 rfl) ?_
          refine lv_iconst (v := 1) hx hb dX6_insert_95 (by decide) ?_
          obtain ⟨a15, ea15, na15, h⟩ := e_wr h
          refine xa_iast hx hb hK hP hD hS 10 rfl na15 ea15 dX6_insert_96 (fun H locs hP hD hS => ?_)
          have hP : va_P D vwCl (wX6 cA ad 0 tape taped value weight many block ties lines pastValue pastWeight pastMany undos fresh newValue newWeight newMany newBlock newTies newLines hasBlock hasTies size att place sort number fault faultPlace lastFault lastPlace a14 a15 q6.2.2 often firstOf lastOf unlikes unlikeMany isCandidate modes fewest) H := hP
          have hD : va_D A (wX6 cA ad 0 tape taped value weight many block ties lines pastValue pastWeight pastMany undos fresh newValue newWeight newMany newBlock newTies newLines hasBlock hasTies size att place sort number fault faultPlace lastFault lastPlace a14 a15 q6.2.2 often firstOf lastOf unlikes unlikeMany isCandidate modes fewest) := hD
          refine lv_aload_n hx hb dX6_insert_97 rfl (lv_at hl 0 rfl) ?_
          refine lv_dup hx hb dX6_insert_98 rfl ?_
          refine va_get (D := D) (ci := 6) (v := .int q6.2.2) (C := RX6) (T := TX6) (N := 42) hx hb hts iX6 hown hK hP 0 rfl rfl 33 (Nat.le_of_ble_eq_true rfl) f197 (fun _ h9 => h9) rfl dX6_insert_99 ?_
          refine lv_iconst (v := 1) hx hb dX6_insert_102 (by decide) ?_
          refine lv_iadd hx hb dX6_insert_103 ?_
          refine va_put (D := D) (ci := 6) (v := .int (q6.2.2 + 1)) (ty := .int) (C := RX6) (T := TX6) (N := 42) hx hb hts iX6 tyX6 tyX6_ok nmX6 hown hK hP hD hS 0 rfl rfl 33 (Nat.le_of_ble_eq_true rfl) f197 (fun _ h9 => h9) rfl (tyX6_ok 33 (Nat.le_of_ble_eq_true rfl)) rfl rfl (Nat.le_of_ble_eq_true rfl) dX6_insert_104 (fun H locs hP hD hS => ?_)
          have hP : va_P D vwCl (wX6 cA ad 0 tape taped value weight many block ties lines pastValue pastWeight pastMany undos fresh newValue newWeight newMany newBlock newTies newLines hasBlock hasTies size att place sort number fault faultPlace lastFault lastPlace a14 a15 (q6.2.2 + 1) often firstOf lastOf unlikes unlikeMany isCandidate modes fewest) H := hP
          have hD : va_D A (wX6 cA ad 0 tape taped value weight many block ties lines pastValue pastWeight pastMany undos fresh newValue newWeight newMany newBlock newTies newLines hasBlock hasTies size att place sort number fault faultPlace lastFault lastPlace a14 a15 (q6.2.2 + 1) often firstOf lastOf unlikes unlikeMany isCandidate modes fewest) := hD
          refine lv_aload_n hx hb dX6_insert_107 rfl (lv_at hl 0 rfl) ?_
          obtain ⟨q16, eq16, h⟩ := e_b h
          refine xv_v0 (As := []) (rest := []) (ci := 6) (b := ad 0) ⟨hx, hb, hml, hown, hts⟩ hl.1 (kX6_edits l D cA ad 0 tape taped value weight many block ties lines pastValue pastWeight pastMany undos fresh newValue newWeight newMany newBlock newTies newLines hasBlock hasTies size att place sort number fault faultPlace lastFault lastPlace a14 a15 (q6.2.2 + 1) often firstOf lastOf unlikes unlikeMany isCandidate modes fewest  _ eq16) (cwV 0 hts gX6_insert_X6_edits rfl rfl rfl (by decide +kernel) ⟨Nat.le_of_ble_eq_true rfl, Nat.le_of_ble_eq_true rfl⟩) rfl hK hP hD hS hA 0 rfl rfl rfl rfl (Nat.le_of_ble_eq_true rfl) dX6_insert_108 ⟨Nat.zero_le _, Nat.zero_le _⟩ (fun H locs hP hD hS => ?_)
          have hP : va_P D vwCl (wX6 cA ad 0 tape taped q16.1 q16.2.1 q16.2.2.1 block ties lines q16.2.2.2.1 q16.2.2.2.2.1 q16.2.2.2.2.2.1 q16.2.2.2.2.2.2.1 q16.2.2.2.2.2.2.2 newValue newWeight newMany newBlock newTies newLines hasBlock hasTies size att place sort number fault faultPlace lastFault lastPlace a14 a15 (q6.2.2 + 1) often firstOf lastOf unlikes unlikeMany isCandidate modes fewest) H := hP
          have hD : va_D A (wX6 cA ad 0 tape taped q16.1 q16.2.1 q16.2.2.1 block ties lines q16.2.2.2.1 q16.2.2.2.2.1 q16.2.2.2.2.2.1 q16.2.2.2.2.2.2.1 q16.2.2.2.2.2.2.2 newValue newWeight newMany newBlock newTies newLines hasBlock hasTies size att place sort number fault faultPlace lastFault lastPlace a14 a15 (q6.2.2 + 1) often firstOf lastOf unlikes unlikeMany isCandidate modes fewest) := hD
          refine lv_aload_n hx hb dX6_insert_111 rfl (lv_at hl 0 rfl) ?_
          refine va_get (D := D) (ci := 6) (v := .int q16.2.2.1) (C := RX6) (T := TX6) (N := 42) hx hb hts iX6 hown hK hP 0 rfl rfl 5 (Nat.le_of_ble_eq_true rfl) f175 (fun _ h9 => h9) rfl dX6_insert_112 ?_
          obtain rfl := e_s h
          exact hret hP hS rfl dX6_insert_115
        · have h := e_f (not_not_intro c5) h
          refine lv_iconst (v := (-1)) hx hb dX6_insert_33 (by decide) ?_
          obtain rfl := e_s h
          exact hret hP hS rfl dX6_insert_34
set_option maxHeartbeats 4000000 in
set_option maxRecDepth 100000 in
theorem kX6_remove (l : Launch) (D : va_G) (cA : Nat → ClassId) (ad : Nat → Nat) (thrown : Int32) (tape : Nat → Int32) (taped : Int32) (value : Nat → Int32) (weight : Nat → Int32) (many : Int32) (block : Int32) (ties : Int32) (lines : Int32) (pastValue : Nat → Int32) (pastWeight : Nat → Int32) (pastMany : Nat → Int32) (undos : Int32) (fresh : Int32) (newValue : Nat → Int32) (newWeight : Nat → Int32) (newMany : Int32) (newBlock : Int32) (newTies : Int32) (newLines : Int32) (hasBlock : Int32) (hasTies : Int32) (size : Int32) (att : Int32) (place : Int32) (sort : Int32) (number : Int32) (fault : Int32) (faultPlace : Int32) (lastFault : Int32) (lastPlace : Int32) (toValue : Nat → Int32) (toWeight : Nat → Int32) (toMany : Int32) (often : Nat → Int32) (firstOf : Nat → Int32) (lastOf : Nat → Int32) (unlikes : Nat → Int32) (unlikeMany : Int32) (isCandidate : Nat → Int32) (modes : Nat → Int32) (fewest : Nat → Int32) (x1 : Int32) (q : Int32 × Int32 × (Nat → Int32) × (Nat → Int32) × Int32 × (Nat → Int32) × (Nat → Int32) × (Nat → Int32) × Int32 × Int32 × (Nat → Int32) × (Nat → Int32) × Int32) (h : mX6_remove thrown value weight many block pastValue pastWeight pastMany undos fresh toValue toWeight toMany x1 = some q) : MI l yX6_remove wsX6_remove { frames := 5, cells := 0, slots := 0, locals := 112 } D cA .int [.ref (ad 0), .int x1] (wX6 cA ad thrown tape taped value weight many block ties lines pastValue pastWeight pastMany undos fresh newValue newWeight newMany newBlock newTies newLines hasBlock hasTies size att place sort number fault faultPlace lastFault lastPlace toValue toWeight toMany often firstOf lastOf unlikes unlikeMany isCandidate modes fewest) (wX6 cA ad q.2.1 tape taped q.2.2.1 q.2.2.2.1 q.2.2.2.2.1 block ties lines q.2.2.2.2.2.1 q.2.2.2.2.2.2.1 q.2.2.2.2.2.2.2.1 q.2.2.2.2.2.2.2.2.1 q.2.2.2.2.2.2.2.2.2.1 newValue newWeight newMany newBlock newTies newLines hasBlock hasTies size att place sort number fault faultPlace lastFault lastPlace q.2.2.2.2.2.2.2.2.2.2.1 q.2.2.2.2.2.2.2.2.2.2.2.1 q.2.2.2.2.2.2.2.2.2.2.2.2 often firstOf lastOf unlikes unlikeMany isCandidate modes fewest) q.1 := by
  refine MI.of (cc := cX6_remove) (maxL := 4) (by decide +kernel) rfl rfl rfl (Nat.le_of_ble_eq_true rfl) ?_
  intro p e s m args below meth c A ls Q hx hb hml hts hown hK hP hD hA hS hl hret
  have hl : lv_has ls 4 [(0, .ref (ad 0)), (1, .int x1)] := hl
  have f13 := hts (.fieldLink RX6 13 "ModeDeskModel" "value" "[I") (by decide +kernel)
  have f175 := hts (.fieldLink RX6 175 "ModeDeskModel" "many" "I") (by decide +kernel)
  have f197 := hts (.fieldLink RX6 197 "ModeDeskModel" "toMany" "I") (by decide +kernel)
  have f41 := hts (.fieldLink RX6 41 "ModeDeskModel" "toValue" "[I") (by decide +kernel)
  have f44 := hts (.fieldLink RX6 44 "ModeDeskModel" "toWeight" "[I") (by decide +kernel)
  have f72 := hts (.fieldLink RX6 72 "ModeDeskModel" "thrown" "I") (by decide +kernel)
  have iX6 : ∀ w ∈ wsX60, w ∈ wsX6_remove := by decide +kernel
  unfold mX6_remove at h
  refine lv_aload_n hx hb dX6_remove_0 rfl (lv_at hl 0 rfl) ?_
  refine lv_iconst (v := 0) hx hb dX6_remove_1 (by decide) ?_
  refine va_put (D := D) (ci := 6) (v := .int 0) (ty := .int) (C := RX6) (T := TX6) (N := 42) hx hb hts iX6 tyX6 tyX6_ok nmX6 hown hK hP hD hS 0 rfl rfl 0 (Nat.le_of_ble_eq_true rfl) f72 (fun _ h9 => h9) rfl (tyX6_ok 0 (Nat.le_of_ble_eq_true rfl)) rfl rfl (Nat.le_of_ble_eq_true rfl) dX6_remove_2 (fun H locs hP hD hS => ?_)
  have hP : va_P D vwCl (wX6 cA ad 0 tape taped value weight many block ties lines pastValue pastWeight pastMany undos fresh newValue newWeight newMany newBlock newTies newLines hasBlock hasTies size att place sort number fault faultPlace lastFault lastPlace toValue toWeight toMany often firstOf lastOf unlikes unlikeMany isCandidate modes fewest) H := hP
  have hD : va_D A (wX6 cA ad 0 tape taped value weight many block ties lines pastValue pastWeight pastMany undos fresh newValue newWeight newMany newBlock newTies newLines hasBlock hasTies size att place sort number fault faultPlace lastFault lastPlace toValue toWeight toMany often firstOf lastOf unlikes unlikeMany isCandidate modes fewest) := hD
  refine lv_aload_n hx hb dX6_remove_5 rfl (lv_at hl 0 rfl) ?_
  refine lv_iload_n hx hb dX6_remove_6 rfl (lv_at hl 1 rfl) ?_
  obtain ⟨q1, eq1, h⟩ := e_b h
  refine xv_i0 (As := [.int x1]) (rest := []) (ci := 6) (b := ad 0) ⟨hx, hb, hml, hown, hts⟩ hl.1 (kX6_isPlace l D cA ad 0 tape taped value weight many block ties lines pastValue pastWeight pastMany undos fresh newValue newWeight newMany newBlock newTies newLines hasBlock hasTies size att place sort number fault faultPlace lastFault lastPlace toValue toWeight toMany often firstOf lastOf unlikes unlikeMany isCandidate modes fewest x1 _ eq1) (cwV 1 hts gX6_remove_X6_isPlace rfl rfl rfl (by decide +kernel) ⟨Nat.le_of_ble_eq_true rfl, Nat.le_of_ble_eq_true rfl⟩) rfl hK hP hD hS hA 0 rfl rfl rfl rfl (Nat.le_of_ble_eq_true rfl) dX6_remove_7 ⟨Nat.zero_le _, Nat.zero_le _⟩ (fun H locs hP hD hS hnq1 => ?_)
  have hP : va_P D vwCl (wX6 cA ad 0 tape taped value weight many block ties lines pastValue pastWeight pastMany undos fresh newValue newWeight newMany newBlock newTies newLines hasBlock hasTies size att place sort number fault faultPlace lastFault lastPlace toValue toWeight toMany often firstOf lastOf unlikes unlikeMany isCandidate modes fewest) H := hP
  have hD : va_D A (wX6 cA ad 0 tape taped value weight many block ties lines pastValue pastWeight pastMany undos fresh newValue newWeight newMany newBlock newTies newLines hasBlock hasTies size att place sort number fault faultPlace lastFault lastPlace toValue toWeight toMany often firstOf lastOf unlikes unlikeMany isCandidate modes fewest) := hD
  refine lv_if_ne (tgt := 15) hx hb dX6_remove_10 (by decide) (fun c2 => ?_) (fun c2 => ?_)
  · have h := e_t c2 h
    refine lv_aload_n hx hb dX6_remove_15 rfl (lv_at hl 0 rfl) ?_
    refine va_get (D := D) (ci := 6) (v := .ref (ad 2)) (C := RX6) (T := TX6) (N := 42) hx hb hts iX6 hown hK hP 0 rfl rfl 3 (Nat.le_of_ble_eq_true rfl) f13 (fun _ h9 => h9) rfl dX6_remove_16 ?_
    refine lv_iload_n hx hb dX6_remove_19 rfl (lv_at hl 1 rfl) ?_
    obtain ⟨v3, ev3, nv3, h⟩ := e_rd h
    refine xa_iald hx hb hK hP 2 rfl nv3 ev3 dX6_remove_20 ?_
    refine lv_istore_n (lv' := [(2, .int v3), (0, .ref (ad 0)), (1, .int x1)]) hx hb dX6_remove_21 rfl hl (by decide) rfl (fun ls hl => ?_)
    refine lv_aload_n hx hb dX6_remove_22 rfl (lv_at hl 1 rfl) ?_
    obtain ⟨q4, eq4, h⟩ := e_b h
    refine xv_v0 (As := []) (rest := []) (ci := 6) (b := ad 0) ⟨hx, hb, hml, hown, hts⟩ hl.1 (kX6_begins l D cA ad 0 tape taped value weight many block ties lines pastValue pastWeight pastMany undos fresh newValue newWeight newMany newBlock newTies newLines hasBlock hasTies size att place sort number fault faultPlace lastFault lastPlace toValue toWeight toMany often firstOf lastOf unlikes unlikeMany isCandidate modes fewest  _ eq4) (cwV 0 hts gX6_remove_X6_begins rfl rfl rfl (by decide +kernel) ⟨Nat.le_of_ble_eq_true rfl, Nat.le_of_ble_eq_true rfl⟩) rfl hK hP hD hS hA 0 rfl rfl rfl rfl (Nat.le_of_ble_eq_true rfl) dX6_remove_23 ⟨Nat.zero_le _, Nat.zero_le _⟩ (fun H locs hP hD hS => ?_)
    have hP : va_P D vwCl (wX6 cA ad 0 tape taped value weight many block ties lines pastValue pastWeight pastMany undos fresh newValue newWeight newMany newBlock newTies newLines hasBlock hasTies size att place sort number fault faultPlace lastFault lastPlace q4.1 q4.2.1 q4.2.2 often firstOf lastOf unlikes unlikeMany isCandidate modes fewest) H := hP
    have hD : va_D A (wX6 cA ad 0 tape taped value weight many block ties lines pastValue pastWeight pastMany undos fresh newValue newWeight newMany newBlock newTies newLines hasBlock hasTies size att place sort number fault faultPlace lastFault lastPlace q4.1 q4.2.1 q4.2.2 often firstOf lastOf unlikes unlikeMany isCandidate modes fewest) := hD
    refine lv_iload_n hx hb dX6_remove_26 rfl (lv_at hl 2 rfl) ?_
    refine lv_istore_n (lv' := [(3, .int x1), (2, .int v3), (0, .ref (ad 0)), (1, .int x1)]) hx hb dX6_remove_27 rfl hl (by decide) rfl (fun ls hl => ?_)
    have hL28 : ∀ (n : Nat) (x2 : Int32) (x3 : Int32) (thrown : Int32) (tape : Nat → Int32) (taped : Int32) (value : Nat → Int32) (weight : Nat → Int32) (many : Int32) (block : Int32) (ties : Int32) (lines : Int32) (pastValue : Nat → Int32) (pastWeight : Nat → Int32) (pastMany : Nat → Int32) (undos : Int32) (fresh : Int32) (newValue : Nat → Int32) (newWeight : Nat → Int32) (newMany : Int32) (newBlock : Int32) (newTies : Int32) (newLines : Int32) (hasBlock : Int32) (hasTies : Int32) (size : Int32) (att : Int32) (place : Int32) (sort : Int32) (number : Int32) (fault : Int32) (faultPlace : Int32) (lastFault : Int32) (lastPlace : Int32) (toValue : Nat → Int32) (toWeight : Nat → Int32) (toMany : Int32) (often : Nat → Int32) (firstOf : Nat → Int32) (lastOf : Nat → Int32) (unlikes : Nat → Int32) (unlikeMany : Int32) (isCandidate : Nat → Int32) (modes : Nat → Int32) (fewest : Nat → Int32) (z5 : (Nat → Int32) × (Nat → Int32)) (ls : Array Slot) (H : Heap) (locs : List Loc), lv_has ls 4 [(0, .ref (ad 0)), (2, .int x2), (3, .int x3)] → va_P D vwCl (wX6 cA ad thrown tape taped value weight many block ties lines pastValue pastWeight pastMany undos fresh newValue newWeight newMany newBlock newTies newLines hasBlock hasTies size att place sort number fault faultPlace lastFault lastPlace toValue toWeight toMany often firstOf lastOf unlikes unlikeMany isCandidate modes fewest) H → va_D A (wX6 cA ad thrown tape taped value weight many block ties lines pastValue pastWeight pastMany undos fresh newValue newWeight newMany newBlock newTies newLines hasBlock hasTies size att place sort number fault faultPlace lastFault lastPlace toValue toWeight toMany often firstOf lastOf unlikes unlikeMany isCandidate modes fewest) → va_S A s.heap H locs → mX6_remove_L28 many n x3 toValue toWeight = some z5 → (∀ (ls : Array Slot) (H : Heap) (locs : List Loc), lv_has ls 4 [(0, .ref (ad 0)), (2, .int x2)] → va_P D vwCl (wX6 cA ad thrown tape taped value weight many block ties lines pastValue pastWeight pastMany undos fresh newValue newWeight newMany newBlock newTies newLines hasBlock hasTies size att place sort number fault faultPlace lastFault lastPlace z5.1 z5.2 toMany often firstOf lastOf unlikes unlikeMany isCandidate modes fewest) H → va_D A (wX6 cA ad thrown tape taped value weight many block ties lines pastValue pastWeight pastMany undos fresh newValue newWeight newMany newBlock newTies newLines hasBlock hasTies size att place sort number fault faultPlace lastFault lastPlace z5.1 z5.2 toMany often firstOf lastOf unlikes unlikeMany isCandidate modes fewest) → va_S A s.heap H locs → W p l e (headSpec wsX6_remove { frames := 5, cells := 0, slots := 0, locals := 112 }).room s m args below meth c H locs 0 0 Q (F0 m 72 ls [])) → W p l e (headSpec wsX6_remove { frames := 5, cells := 0, slots := 0, locals := 112 }).room s m args below meth c H locs 0 0 Q (F0 m 28 ls []) := by
      intro n
      induction n with
      | zero => intro x2 x3 thrown tape taped value weight many block ties lines pastValue pastWeight pastMany undos fresh newValue newWeight newMany newBlock newTies newLines hasBlock hasTies size att place sort number fault faultPlace lastFault lastPlace toValue toWeight toMany often firstOf lastOf unlikes unlikeMany isCandidate modes fewest z5 ls H locs hl hP hD hS h hk28; exact e_n h
      | succ n ih28 =>
        intro x2 x3 thrown tape taped value weight many block ties lines pastValue pastWeight pastMany undos fresh newValue newWeight newMany newBlock newTies newLines hasBlock hasTies size att place sort number fault faultPlace lastFault lastPlace toValue toWeight toMany often firstOf lastOf unlikes unlikeMany isCandidate modes fewest z5 ls H locs hl hP hD hS h hk28
        rw [mX6_remove_L28.eq_2] at h
        refine lv_iload_n hx hb dX6_remove_28 rfl (lv_at hl 2 rfl) ?_
        refine lv_iconst (v := 1) hx hb dX6_remove_29 (by decide) ?_
        refine lv_iadd hx hb dX6_remove_30 ?_
        refine lv_aload_n hx hb dX6_remove_31 rfl (lv_at hl 0 rfl) ?_
        refine va_get (D := D) (ci := 6) (v := .int many) (C := RX6) (T := TX6) (N := 42) hx hb hts iX6 hown hK hP 0 rfl rfl 5 (Nat.le_of_ble_eq_true rfl) f175 (fun _ h9 => h9) rfl dX6_remove_32 ?_
        refine lv_icmp_ge (tgt := 72) hx hb dX6_remove_35 (by decide) (fun c6 => ?_) (fun c6 => ?_)
        · have h := e_t c6 h
          obtain rfl := e_s h
          exact hk28 _ _ _ (lv_sub hl [0, 1] rfl) hP hD hS
        · have h := e_f c6 h
          refine lv_aload_n hx hb dX6_remove_38 rfl (lv_at hl 0 rfl) ?_
          refine va_get (D := D) (ci := 6) (v := .ref (ad 9)) (C := RX6) (T := TX6) (N := 42) hx hb hts iX6 hown hK hP 0 rfl rfl 31 (Nat.le_of_ble_eq_true rfl) f41 (fun _ h9 => h9) rfl dX6_remove_39 ?_
          refine lv_iload_n hx hb dX6_remove_42 rfl (lv_at hl 2 rfl) ?_
          refine lv_aload_n hx hb dX6_remove_43 rfl (lv_at hl 0 rfl) ?_
          refine va_get (D := D) (ci := 6) (v := .ref (ad 9)) (C := RX6) (T := TX6) (N := 42) hx hb hts iX6 hown hK hP 0 rfl rfl 31 (Nat.le_of_ble_eq_true rfl) f41 (fun _ h9 => h9) rfl dX6_remove_44 ?_
          refine lv_iload_n hx hb dX6_remove_47 rfl (lv_at hl 2 rfl) ?_
          refine lv_iconst (v := 1) hx hb dX6_remove_48 (by decide) ?_
          refine lv_iadd hx hb dX6_remove_49 ?_
          obtain ⟨v7, ev7, nv7, h⟩ := e_rd h
          refine xa_iald hx hb hK hP 9 rfl nv7 ev7 dX6_remove_50 ?_
          obtain ⟨a8, ea8, na8, h⟩ := e_wr h
          refine xa_iast hx hb hK hP hD hS 9 rfl na8 ea8 dX6_remove_51 (fun H locs hP hD hS => ?_)
          have hP : va_P D vwCl (wX6 cA ad thrown tape taped value weight many block ties lines pastValue pastWeight pastMany undos fresh newValue newWeight newMany newBlock newTies newLines hasBlock hasTies size att place sort number fault faultPlace lastFault lastPlace a8 toWeight toMany often firstOf lastOf unlikes unlikeMany isCandidate modes fewest) H := hP
          have hD : va_D A (wX6 cA ad thrown tape taped value weight many block ties lines pastValue pastWeight pastMany undos fresh newValue newWeight newMany newBlock newTies newLines hasBlock hasTies size att place sort number fault faultPlace lastFault lastPlace a8 toWeight toMany often firstOf lastOf unlikes unlikeMany isCandidate modes fewest) := hD
          refine lv_aload_n hx hb dX6_remove_52 rfl (lv_at hl 0 rfl) ?_
          refine va_get (D := D) (ci := 6) (v := .ref (ad 10)) (C := RX6) (T := TX6) (N := 42) hx hb hts iX6 hown hK hP 0 rfl rfl 32 (Nat.le_of_ble_eq_true rfl) f44 (fun _ h9 => h9) rfl dX6_remove_53 ?_
          refine lv_iload_n hx hb dX6_remove_56 rfl (lv_at hl 2 rfl) ?_
          refine lv_aload_n hx hb dX6_remove_57 rfl (lv_at hl 0 rfl) ?_
          refine va_get (D := D) (ci := 6) (v := .ref (ad 10)) (C := RX6) (T := TX6) (N := 42) hx hb hts iX6 hown hK hP 0 rfl rfl 32 (Nat.le_of_ble_eq_true rfl) f44 (fun _ h9 => h9) rfl dX6_remove_58 ?_
          refine lv_iload_n hx hb dX6_remove_61 rfl (lv_at hl 2 rfl) ?_
          refine lv_iconst (v := 1) hx hb dX6_remove_62 (by decide) ?_
          refine lv_iadd hx hb dX6_remove_63 ?_
          obtain ⟨v9, ev9, nv9, h⟩ := e_rd h
          refine xa_iald hx hb hK hP 10 rfl nv9 ev9 dX6_remove_64 ?_
          obtain ⟨a10, ea10, na10, h⟩ := e_wr h
          refine xa_iast hx hb hK hP hD hS 10 rfl na10 ea10 dX6_remove_65 (fun H locs hP hD hS => ?_)
          have hP : va_P D vwCl (wX6 cA ad thrown tape taped value weight many block ties lines pastValue pastWeight pastMany undos fresh newValue newWeight newMany newBlock newTies newLines hasBlock hasTies size att place sort number fault faultPlace lastFault lastPlace a8 a10 toMany often firstOf lastOf unlikes unlikeMany isCandidate modes fewest) H := hP
          have hD : va_D A (wX6 cA ad thrown tape taped value weight many block ties lines pastValue pastWeight pastMany undos fresh newValue newWeight newMany newBlock newTies newLines hasBlock hasTies size att place sort number fault faultPlace lastFault lastPlace a8 a10 toMany often firstOf lastOf unlikes unlikeMany isCandidate modes fewest) := hD
          refine lv_iinc (v := (x3 + 1)) (lv' := [(3, .int (x3 + 1)), (0, .ref (ad 0)), (2, .int x2)]) hx hb dX6_remove_66 hl (k := 2) rfl rfl (by decide) rfl (fun ls hl => ?_)
          refine lv_goto (tgt := 28) hx hb dX6_remove_69 (by decide) ?_
          exact ih28 x2 (x3 + 1) thrown tape taped value weight many block ties lines pastValue pastWeight pastMany undos fresh newValue newWeight newMany newBlock newTies newLines hasBlock hasTies size att place sort number fault faultPlace lastFault lastPlace a8 a10 toMany often firstOf lastOf unlikes unlikeMany isCandidate modes fewest z5 _ _ _ (lv_sub hl [1, 2, 0] rfl) hP hD hS h hk28
    obtain ⟨z11, ez11, h⟩ := e_b h
    refine hL28 FU v3 x1 0 tape taped value weight many block ties lines pastValue pastWeight pastMany undos fresh newValue newWeight newMany newBlock newTies newLines hasBlock hasTies size att place sort number fault faultPlace lastFault lastPlace q4.1 q4.2.1 q4.2.2 often firstOf lastOf unlikes unlikeMany isCandidate modes fewest z11 _ _ _ (lv_sub hl [2, 1, 0] rfl) hP hD hS ez11 (fun ls H locs hl hP hD hS => ?_)
    refine lv_aload_n hx hb dX6_remove_72 rfl (lv_at hl 0 rfl) ?_
    refine lv_dup hx hb dX6_remove_73 rfl ?_
    refine va_get (D := D) (ci := 6) (v := .int q4.2.2) (C := RX6) (T := TX6) (N := 42) hx hb hts iX6 hown hK hP 0 rfl rfl 33 (Nat.le_of_ble_eq_true rfl) f197 (fun _ h9 => h9) rfl dX6_remove_74 ?_
    refine lv_iconst (v := 1) hx hb dX6_remove_77 (by decide) ?_
    refine lv_isub hx hb dX6_remove_78 ?_
    refine va_put (D := D) (ci := 6) (v := .int (q4.2.2 - 1)) (ty := .int) (C := RX6) (T := TX6) (N := 42) hx hb hts iX6 tyX6 tyX6_ok nmX6 hown hK hP hD hS 0 rfl rfl 33 (Nat.le_of_ble_eq_true rfl) f197 (fun _ h9 => h9) rfl (tyX6_ok 33 (Nat.le_of_ble_eq_true rfl)) rfl rfl (Nat.le_of_ble_eq_true rfl) dX6_remove_79 (fun H locs hP hD hS => ?_)
    have hP : va_P D vwCl (wX6 cA ad 0 tape taped value weight many block ties lines pastValue pastWeight pastMany undos fresh newValue newWeight newMany newBlock newTies newLines hasBlock hasTies size att place sort number fault faultPlace lastFault lastPlace z11.1 z11.2 (q4.2.2 - 1) often firstOf lastOf unlikes unlikeMany isCandidate modes fewest) H := hP
    have hD : va_D A (wX6 cA ad 0 tape taped value weight many block ties lines pastValue pastWeight pastMany undos fresh newValue newWeight newMany newBlock newTies newLines hasBlock hasTies size att place sort number fault faultPlace lastFault lastPlace z11.1 z11.2 (q4.2.2 - 1) often firstOf lastOf unlikes unlikeMany isCandidate modes fewest) := hD
    refine lv_aload_n hx hb dX6_remove_82 rfl (lv_at hl 0 rfl) ?_
    obtain ⟨q12, eq12, h⟩ := e_b h
    refine xv_v0 (As := []) (rest := []) (ci := 6) (b := ad 0) ⟨hx, hb, hml, hown, hts⟩ hl.1 (kX6_edits l D cA ad 0 tape taped value weight many block ties lines pastValue pastWeight pastMany undos fresh newValue newWeight newMany newBlock newTies newLines hasBlock hasTies size att place sort number fault faultPlace lastFault lastPlace z11.1 z11.2 (q4.2.2 - 1) often firstOf lastOf unlikes unlikeMany isCandidate modes fewest  _ eq12) (cwV 0 hts gX6_remove_X6_edits rfl rfl rfl (by decide +kernel) ⟨Nat.le_of_ble_eq_true rfl, Nat.le_of_ble_eq_true rfl⟩) rfl hK hP hD hS hA 0 rfl rfl rfl rfl (Nat.le_of_ble_eq_true rfl) dX6_remove_83 ⟨Nat.zero_le _, Nat.zero_le _⟩ (fun H locs hP hD hS => ?_)
    have hP : va_P D vwCl (wX6 cA ad 0 tape taped q12.1 q12.2.1 q12.2.2.1 block ties lines q12.2.2.2.1 q12.2.2.2.2.1 q12.2.2.2.2.2.1 q12.2.2.2.2.2.2.1 q12.2.2.2.2.2.2.2 newValue newWeight newMany newBlock newTies newLines hasBlock hasTies size att place sort number fault faultPlace lastFault lastPlace z11.1 z11.2 (q4.2.2 - 1) often firstOf lastOf unlikes unlikeMany isCandidate modes fewest) H := hP
    have hD : va_D A (wX6 cA ad 0 tape taped q12.1 q12.2.1 q12.2.2.1 block ties lines q12.2.2.2.1 q12.2.2.2.2.1 q12.2.2.2.2.2.1 q12.2.2.2.2.2.2.1 q12.2.2.2.2.2.2.2 newValue newWeight newMany newBlock newTies newLines hasBlock hasTies size att place sort number fault faultPlace lastFault lastPlace z11.1 z11.2 (q4.2.2 - 1) often firstOf lastOf unlikes unlikeMany isCandidate modes fewest) := hD
    refine lv_iload_n hx hb dX6_remove_86 rfl (lv_at hl 1 rfl) ?_
    obtain rfl := e_s h
    exact hret hP hS rfl dX6_remove_87
  · have h := e_f (not_not_intro c2) h
    refine lv_iconst (v := (-1)) hx hb dX6_remove_13 (by decide) ?_
    obtain rfl := e_s h
    exact hret hP hS rfl dX6_remove_14
set_option maxHeartbeats 4000000 in
set_option maxRecDepth 100000 in
theorem kX6_done (l : Launch) (D : va_G) (cA : Nat → ClassId) (ad : Nat → Nat) (thrown : Int32) (tape : Nat → Int32) (taped : Int32) (value : Nat → Int32) (weight : Nat → Int32) (many : Int32) (block : Int32) (ties : Int32) (lines : Int32) (pastValue : Nat → Int32) (pastWeight : Nat → Int32) (pastMany : Nat → Int32) (undos : Int32) (fresh : Int32) (newValue : Nat → Int32) (newWeight : Nat → Int32) (newMany : Int32) (newBlock : Int32) (newTies : Int32) (newLines : Int32) (hasBlock : Int32) (hasTies : Int32) (size : Int32) (att : Int32) (place : Int32) (sort : Int32) (number : Int32) (fault : Int32) (faultPlace : Int32) (lastFault : Int32) (lastPlace : Int32) (toValue : Nat → Int32) (toWeight : Nat → Int32) (toMany : Int32) (often : Nat → Int32) (firstOf : Nat → Int32) (lastOf : Nat → Int32) (unlikes : Nat → Int32) (unlikeMany : Int32) (isCandidate : Nat → Int32) (modes : Nat → Int32) (fewest : Nat → Int32)  (q : Int32 × (Nat → Int32) × (Nat → Int32) × Int32 × (Nat → Int32) × (Nat → Int32) × (Nat → Int32) × Int32 × Int32) (h : mX6_done value weight many block pastValue pastWeight pastMany undos fresh toValue toWeight toMany  = some q) : MI l yX6_done wsX6_done { frames := 5, cells := 0, slots := 0, locals := 112 } D cA .int [.ref (ad 0)] (wX6 cA ad thrown tape taped value weight many block ties lines pastValue pastWeight pastMany undos fresh newValue newWeight newMany newBlock newTies newLines hasBlock hasTies size att place sort number fault faultPlace lastFault lastPlace toValue toWeight toMany often firstOf lastOf unlikes unlikeMany isCandidate modes fewest) (wX6 cA ad thrown tape taped q.2.1 q.2.2.1 q.2.2.2.1 block ties lines q.2.2.2.2.1 q.2.2.2.2.2.1 q.2.2.2.2.2.2.1 q.2.2.2.2.2.2.2.1 q.2.2.2.2.2.2.2.2 newValue newWeight newMany newBlock newTies newLines hasBlock hasTies size att place sort number fault faultPlace lastFault lastPlace toValue toWeight toMany often firstOf lastOf unlikes unlikeMany isCandidate modes fewest) q.1 := by
  refine MI.of (cc := cX6_done) (maxL := 2) (by decide +kernel) rfl rfl rfl (Nat.le_of_ble_eq_true rfl) ?_
  intro p e s m args below meth c A ls Q hx hb hml hts hown hK hP hD hA hS hl hret
  have hl : lv_has ls 2 [(0, .ref (ad 0))] := hl
  unfold mX6_done at h
  refine lv_aload_n hx hb dX6_done_0 rfl (lv_at hl 0 rfl) ?_
  obtain ⟨q1, eq1, h⟩ := e_b h
  refine xv_i0 (As := []) (rest := []) (ci := 6) (b := ad 0) ⟨hx, hb, hml, hown, hts⟩ hl.1 (kX6_others l D cA ad thrown tape taped value weight many block ties lines pastValue pastWeight pastMany undos fresh newValue newWeight newMany newBlock newTies newLines hasBlock hasTies size att place sort number fault faultPlace lastFault lastPlace toValue toWeight toMany often firstOf lastOf unlikes unlikeMany isCandidate modes fewest  _ eq1) (cwV 0 hts gX6_done_X6_others rfl rfl rfl (by decide +kernel) ⟨Nat.le_of_ble_eq_true rfl, Nat.le_of_ble_eq_true rfl⟩) rfl hK hP hD hS hA 0 rfl rfl rfl rfl (Nat.le_of_ble_eq_true rfl) dX6_done_1 ⟨Nat.zero_le _, Nat.zero_le _⟩ (fun H locs hP hD hS hnq1 => ?_)
  have hP : va_P D vwCl (wX6 cA ad thrown tape taped value weight many block ties lines pastValue pastWeight pastMany undos fresh newValue newWeight newMany newBlock newTies newLines hasBlock hasTies size att place sort number fault faultPlace lastFault lastPlace toValue toWeight toMany often firstOf lastOf unlikes unlikeMany isCandidate modes fewest) H := hP
  have hD : va_D A (wX6 cA ad thrown tape taped value weight many block ties lines pastValue pastWeight pastMany undos fresh newValue newWeight newMany newBlock newTies newLines hasBlock hasTies size att place sort number fault faultPlace lastFault lastPlace toValue toWeight toMany often firstOf lastOf unlikes unlikeMany isCandidate modes fewest) := hD
  refine lv_istore_n (lv' := [(1, .int q1), (0, .ref (ad 0))]) hx hb dX6_done_4 rfl hl (by decide) rfl (fun ls hl => ?_)
  refine lv_aload_n hx hb dX6_done_5 rfl (lv_at hl 1 rfl) ?_
  obtain ⟨q2, eq2, h⟩ := e_b h
  refine xv_v0 (As := []) (rest := []) (ci := 6) (b := ad 0) ⟨hx, hb, hml, hown, hts⟩ hl.1 (kX6_edits l D cA ad thrown tape taped value weight many block ties lines pastValue pastWeight pastMany undos fresh newValue newWeight newMany newBlock newTies newLines hasBlock hasTies size att place sort number fault faultPlace lastFault lastPlace toValue toWeight toMany often firstOf lastOf unlikes unlikeMany isCandidate modes fewest  _ eq2) (cwV 0 hts gX6_done_X6_edits rfl rfl rfl (by decide +kernel) ⟨Nat.le_of_ble_eq_true rfl, Nat.le_of_ble_eq_true rfl⟩) rfl hK hP hD hS hA 0 rfl rfl rfl rfl (Nat.le_of_ble_eq_true rfl) dX6_done_6 ⟨Nat.zero_le _, Nat.zero_le _⟩ (fun H locs hP hD hS => ?_)
  have hP : va_P D vwCl (wX6 cA ad thrown tape taped q2.1 q2.2.1 q2.2.2.1 block ties lines q2.2.2.2.1 q2.2.2.2.2.1 q2.2.2.2.2.2.1 q2.2.2.2.2.2.2.1 q2.2.2.2.2.2.2.2 newValue newWeight newMany newBlock newTies newLines hasBlock hasTies size att place sort number fault faultPlace lastFault lastPlace toValue toWeight toMany often firstOf lastOf unlikes unlikeMany isCandidate modes fewest) H := hP
  have hD : va_D A (wX6 cA ad thrown tape taped q2.1 q2.2.1 q2.2.2.1 block ties lines q2.2.2.2.1 q2.2.2.2.2.1 q2.2.2.2.2.2.1 q2.2.2.2.2.2.2.1 q2.2.2.2.2.2.2.2 newValue newWeight newMany newBlock newTies newLines hasBlock hasTies size att place sort number fault faultPlace lastFault lastPlace toValue toWeight toMany often firstOf lastOf unlikes unlikeMany isCandidate modes fewest) := hD
  refine lv_iload_n hx hb dX6_done_9 rfl (lv_at hl 0 rfl) ?_
  obtain rfl := e_s h
  exact hret hP hS rfl dX6_done_10
set_option maxHeartbeats 4000000 in
set_option maxRecDepth 100000 in
theorem kX6_fill (l : Launch) (D : va_G) (cA : Nat → ClassId) (ad : Nat → Nat) (thrown : Int32) (tape : Nat → Int32) (taped : Int32) (value : Nat → Int32) (weight : Nat → Int32) (many : Int32) (block : Int32) (ties : Int32) (lines : Int32) (pastValue : Nat → Int32) (pastWeight : Nat → Int32) (pastMany : Nat → Int32) (undos : Int32) (fresh : Int32) (newValue : Nat → Int32) (newWeight : Nat → Int32) (newMany : Int32) (newBlock : Int32) (newTies : Int32) (newLines : Int32) (hasBlock : Int32) (hasTies : Int32) (size : Int32) (att : Int32) (place : Int32) (sort : Int32) (number : Int32) (fault : Int32) (faultPlace : Int32) (lastFault : Int32) (lastPlace : Int32) (toValue : Nat → Int32) (toWeight : Nat → Int32) (toMany : Int32) (often : Nat → Int32) (firstOf : Nat → Int32) (lastOf : Nat → Int32) (unlikes : Nat → Int32) (unlikeMany : Int32) (isCandidate : Nat → Int32) (modes : Nat → Int32) (fewest : Nat → Int32) (x1 : Int32) (x2 : Int32) (x3 : Int32) (q : Int32 × Int32 × (Nat → Int32) × (Nat → Int32) × Int32 × (Nat → Int32) × (Nat → Int32) × (Nat → Int32) × Int32 × Int32 × (Nat → Int32) × (Nat → Int32) × Int32) (h : mX6_fill thrown value weight many block pastValue pastWeight pastMany undos fresh toValue toWeight toMany x1 x2 x3 = some q) : MI l yX6_fill wsX6_fill { frames := 6, cells := 0, slots := 0, locals := 133 } D cA .int [.ref (ad 0), .int x1, .int x2, .int x3] (wX6 cA ad thrown tape taped value weight many block ties lines pastValue pastWeight pastMany undos fresh newValue newWeight newMany newBlock newTies newLines hasBlock hasTies size att place sort number fault faultPlace lastFault lastPlace toValue toWeight toMany often firstOf lastOf unlikes unlikeMany isCandidate modes fewest) (wX6 cA ad q.2.1 tape taped q.2.2.1 q.2.2.2.1 q.2.2.2.2.1 block ties lines q.2.2.2.2.2.1 q.2.2.2.2.2.2.1 q.2.2.2.2.2.2.2.1 q.2.2.2.2.2.2.2.2.1 q.2.2.2.2.2.2.2.2.2.1 newValue newWeight newMany newBlock newTies newLines hasBlock hasTies size att place sort number fault faultPlace lastFault lastPlace q.2.2.2.2.2.2.2.2.2.2.1 q.2.2.2.2.2.2.2.2.2.2.2.1 q.2.2.2.2.2.2.2.2.2.2.2.2 often firstOf lastOf unlikes unlikeMany isCandidate modes fewest) q.1 := by
  refine MI.of (cc := cX6_fill) (maxL := 5) (by decide +kernel) rfl rfl rfl (Nat.le_of_ble_eq_true rfl) ?_
  intro p e s m args below meth c A ls Q hx hb hml hts hown hK hP hD hA hS hl hret
  have hl : lv_has ls 5 [(0, .ref (ad 0)), (1, .int x1), (2, .int x2), (3, .int x3)] := hl
  have f41 := hts (.fieldLink RX6 41 "ModeDeskModel" "toValue" "[I") (by decide +kernel)
  have f72 := hts (.fieldLink RX6 72 "ModeDeskModel" "thrown" "I") (by decide +kernel)
  have iX6 : ∀ w ∈ wsX60, w ∈ wsX6_fill := by decide +kernel
  unfold mX6_fill at h
  refine lv_aload_n hx hb dX6_fill_0 rfl (lv_at hl 0 rfl) ?_
  refine lv_iconst (v := 0) hx hb dX6_fill_1 (by decide) ?_
  refine va_put (D := D) (ci := 6) (v := .int 0) (ty := .int) (C := RX6) (T := TX6) (N := 42) hx hb hts iX6 tyX6 tyX6_ok nmX6 hown hK hP hD hS 0 rfl rfl 0 (Nat.le_of_ble_eq_true rfl) f72 (fun _ h9 => h9) rfl (tyX6_ok 0 (Nat.le_of_ble_eq_true rfl)) rfl rfl (Nat.le_of_ble_eq_true rfl) dX6_fill_2 (fun H locs hP hD hS => ?_)
  have hP : va_P D vwCl (wX6 cA ad 0 tape taped value weight many block ties lines pastValue pastWeight pastMany undos fresh newValue newWeight newMany newBlock newTies newLines hasBlock hasTies size att place sort number fault faultPlace lastFault lastPlace toValue toWeight toMany often firstOf lastOf unlikes unlikeMany isCandidate modes fewest) H := hP
  have hD : va_D A (wX6 cA ad 0 tape taped value weight many block ties lines pastValue pastWeight pastMany undos fresh newValue newWeight newMany newBlock newTies newLines hasBlock hasTies size att place sort number fault faultPlace lastFault lastPlace toValue toWeight toMany often firstOf lastOf unlikes unlikeMany isCandidate modes fewest) := hD
  refine lv_aload_n hx hb dX6_fill_5 rfl (lv_at hl 0 rfl) ?_
  refine lv_iload_n hx hb dX6_fill_6 rfl (lv_at hl 1 rfl) ?_
  refine lv_iload_n hx hb dX6_fill_7 rfl (lv_at hl 2 rfl) ?_
  obtain ⟨q1, eq1, h⟩ := e_b h
  refine xv_i0 (As := [.int x1, .int x2]) (rest := []) (ci := 6) (b := ad 0) ⟨hx, hb, hml, hown, hts⟩ hl.1 (kX6_isSpan l D cA ad 0 tape taped value weight many block ties lines pastValue pastWeight pastMany undos fresh newValue newWeight newMany newBlock newTies newLines hasBlock hasTies size att place sort number fault faultPlace lastFault lastPlace toValue toWeight toMany often firstOf lastOf unlikes unlikeMany isCandidate modes fewest x1 x2 _ eq1) (cwV 2 hts gX6_fill_X6_isSpan rfl rfl rfl (by decide +kernel) ⟨Nat.le_of_ble_eq_true rfl, Nat.le_of_ble_eq_true rfl⟩) rfl hK hP hD hS hA 0 rfl rfl rfl rfl (Nat.le_of_ble_eq_true rfl) dX6_fill_8 ⟨Nat.zero_le _, Nat.zero_le _⟩ (fun H locs hP hD hS hnq1 => ?_)
  have hP : va_P D vwCl (wX6 cA ad 0 tape taped value weight many block ties lines pastValue pastWeight pastMany undos fresh newValue newWeight newMany newBlock newTies newLines hasBlock hasTies size att place sort number fault faultPlace lastFault lastPlace toValue toWeight toMany often firstOf lastOf unlikes unlikeMany isCandidate modes fewest) H := hP
  have hD : va_D A (wX6 cA ad 0 tape taped value weight many block ties lines pastValue pastWeight pastMany undos fresh newValue newWeight newMany newBlock newTies newLines hasBlock hasTies size att place sort number fault faultPlace lastFault lastPlace toValue toWeight toMany often firstOf lastOf unlikes unlikeMany isCandidate modes fewest) := hD
  refine lv_if_eq (tgt := 21) hx hb dX6_fill_11 (by decide) (fun c2 => ?_) (fun c2 => ?_)
  · have h := e_t c2 h
    refine lv_iconst (v := (-1)) hx hb dX6_fill_21 (by decide) ?_
    obtain rfl := e_s h
    exact hret hP hS rfl dX6_fill_22
  · have h := e_f c2 h
    refine lv_iload_n hx hb dX6_fill_14 rfl (lv_at hl 3 rfl) ?_
    obtain ⟨q3, eq3, h⟩ := e_b h
    refine xs_i (As := [.int x3]) (rest := []) ⟨hx, hb, hml, hown, hts⟩ hl.1 (kX6_isValue l D cA   x3 _ eq3) (va_cwS 1 hts gX6_fill_X6_isValue rfl rfl rfl (by decide +kernel) ⟨Nat.le_of_ble_eq_true rfl, Nat.le_of_ble_eq_true rfl⟩) rfl hK hP hD hS hA [] rfl (by decide +kernel) rfl (Nat.le_of_ble_eq_true rfl) dX6_fill_15 ⟨Nat.zero_le _, Nat.zero_le _⟩ (fun H locs hP hD hS hnq3 => ?_)
    have hP : va_P D vwCl (wX6 cA ad 0 tape taped value weight many block ties lines pastValue pastWeight pastMany undos fresh newValue newWeight newMany newBlock newTies newLines hasBlock hasTies size att place sort number fault faultPlace lastFault lastPlace toValue toWeight toMany often firstOf lastOf unlikes unlikeMany isCandidate modes fewest) H := hP
    have hD : va_D A (wX6 cA ad 0 tape taped value weight many block ties lines pastValue pastWeight pastMany undos fresh newValue newWeight newMany newBlock newTies newLines hasBlock hasTies size att place sort number fault faultPlace lastFault lastPlace toValue toWeight toMany often firstOf lastOf unlikes unlikeMany isCandidate modes fewest) := hD
    refine lv_if_ne (tgt := 23) hx hb dX6_fill_18 (by decide) (fun c4 => ?_) (fun c4 => ?_)
    · have h := e_t c4 h
      refine lv_aload_n hx hb dX6_fill_23 rfl (lv_at hl 0 rfl) ?_
      obtain ⟨q5, eq5, h⟩ := e_b h
      refine xv_v0 (As := []) (rest := []) (ci := 6) (b := ad 0) ⟨hx, hb, hml, hown, hts⟩ hl.1 (kX6_begins l D cA ad 0 tape taped value weight many block ties lines pastValue pastWeight pastMany undos fresh newValue newWeight newMany newBlock newTies newLines hasBlock hasTies size att place sort number fault faultPlace lastFault lastPlace toValue toWeight toMany often firstOf lastOf unlikes unlikeMany isCandidate modes fewest  _ eq5) (cwV 0 hts gX6_fill_X6_begins rfl rfl rfl (by decide +kernel) ⟨Nat.le_of_ble_eq_true rfl, Nat.le_of_ble_eq_true rfl⟩) rfl hK hP hD hS hA 0 rfl rfl rfl rfl (Nat.le_of_ble_eq_true rfl) dX6_fill_24 ⟨Nat.zero_le _, Nat.zero_le _⟩ (fun H locs hP hD hS => ?_)
      have hP : va_P D vwCl (wX6 cA ad 0 tape taped value weight many block ties lines pastValue pastWeight pastMany undos fresh newValue newWeight newMany newBlock newTies newLines hasBlock hasTies size att place sort number fault faultPlace lastFault lastPlace q5.1 q5.2.1 q5.2.2 often firstOf lastOf unlikes unlikeMany isCandidate modes fewest) H := hP
      have hD : va_D A (wX6 cA ad 0 tape taped value weight many block ties lines pastValue pastWeight pastMany undos fresh newValue newWeight newMany newBlock newTies newLines hasBlock hasTies size att place sort number fault faultPlace lastFault lastPlace q5.1 q5.2.1 q5.2.2 often firstOf lastOf unlikes unlikeMany isCandidate modes fewest) := hD
      refine lv_iload_n hx hb dX6_fill_27 rfl (lv_at hl 1 rfl) ?_
      refine lv_istore (lv' := [(4, .int x1), (0, .ref (ad 0)), (1, .int x1), (2, .int x2), (3, .int x3)]) hx hb dX6_fill_28 hl (by decide) rfl (fun ls hl => ?_)
      have hL30 : ∀ (n : Nat) (x2 : Int32) (x3 : Int32) (x4 : Int32) (thrown : Int32) (tape : Nat → Int32) (taped : Int32) (value : Nat → Int32) (weight : Nat → Int32) (many : Int32) (block : Int32) (ties : Int32) (lines : Int32) (pastValue : Nat → Int32) (pastWeight : Nat → Int32) (pastMany : Nat → Int32) (undos : Int32) (fresh : Int32) (newValue : Nat → Int32) (newWeight : Nat → Int32) (newMany : Int32) (newBlock : Int32) (newTies : Int32) (newLines : Int32) (hasBlock : Int32) (hasTies : Int32) (size : Int32) (att : Int32) (place : Int32) (sort : Int32) (number : Int32) (fault : Int32) (faultPlace : Int32) (lastFault : Int32) (lastPlace : Int32) (toValue : Nat → Int32) (toWeight : Nat → Int32) (toMany : Int32) (often : Nat → Int32) (firstOf : Nat → Int32) (lastOf : Nat → Int32) (unlikes : Nat → Int32) (unlikeMany : Int32) (isCandidate : Nat → Int32) (modes : Nat → Int32) (fewest : Nat → Int32) (z6 : (Nat → Int32)) (ls : Array Slot) (H : Heap) (locs : List Loc), lv_has ls 5 [(0, .ref (ad 0)), (2, .int x2), (3, .int x3), (4, .int x4)] → va_P D vwCl (wX6 cA ad thrown tape taped value weight many block ties lines pastValue pastWeight pastMany undos fresh newValue newWeight newMany newBlock newTies newLines hasBlock hasTies size att place sort number fault faultPlace lastFault lastPlace toValue toWeight toMany often firstOf lastOf unlikes unlikeMany isCandidate modes fewest) H → va_D A (wX6 cA ad thrown tape taped value weight many block ties lines pastValue pastWeight pastMany undos fresh newValue newWeight newMany newBlock newTies newLines hasBlock hasTies size att place sort number fault faultPlace lastFault lastPlace toValue toWeight toMany often firstOf lastOf unlikes unlikeMany isCandidate modes fewest) → va_S A s.heap H locs → mX6_fill_L30 x2 x3 n x4 toValue = some z6 → (∀ (ls : Array Slot) (H : Heap) (locs : List Loc), lv_has ls 5 [(0, .ref (ad 0))] → va_P D vwCl (wX6 cA ad thrown tape taped value weight many block ties lines pastValue pastWeight pastMany undos fresh newValue newWeight newMany newBlock newTies newLines hasBlock hasTies size att place sort number fault faultPlace lastFault lastPlace z6 toWeight toMany often firstOf lastOf unlikes unlikeMany isCandidate modes fewest) H → va_D A (wX6 cA ad thrown tape taped value weight many block ties lines pastValue pastWeight pastMany undos fresh newValue newWeight newMany newBlock newTies newLines hasBlock hasTies size att place sort number fault faultPlace lastFault lastPlace z6 toWeight toMany often firstOf lastOf unlikes unlikeMany isCandidate modes fewest) → va_S A s.heap H locs → W p l e (headSpec wsX6_fill { frames := 6, cells := 0, slots := 0, locals := 133 }).room s m args below meth c H locs 0 0 Q (F0 m 50 ls [])) → W p l e (headSpec wsX6_fill { frames := 6, cells := 0, slots := 0, locals := 133 }).room s m args below meth c H locs 0 0 Q (F0 m 30 ls []) := by
        intro n
        induction n with
        | zero => intro x2 x3 x4 thrown tape taped value weight many block ties lines pastValue pastWeight pastMany undos fresh newValue newWeight newMany newBlock newTies newLines hasBlock hasTies size att place sort number fault faultPlace lastFault lastPlace toValue toWeight toMany often firstOf lastOf unlikes unlikeMany isCandidate modes fewest z6 ls H locs hl hP hD hS h hk30; exact e_n h
        | succ n ih30 =>
          intro x2 x3 x4 thrown tape taped value weight many block ties lines pastValue pastWeight pastMany undos fresh newValue newWeight newMany newBlock newTies newLines hasBlock hasTies size att place sort number fault faultPlace lastFault lastPlace toValue toWeight toMany often firstOf lastOf unlikes unlikeMany isCandidate modes fewest z6 ls H locs hl hP hD hS h hk30
          rw [mX6_fill_L30.eq_2] at h
          refine lv_iload hx hb dX6_fill_30 (lv_at hl 3 rfl) ?_
          refine lv_iload_n hx hb dX6_fill_32 rfl (lv_at hl 1 rfl) ?_
          refine lv_icmp_gt (tgt := 50) hx hb dX6_fill_33 (by decide) (fun c7 => ?_) (fun c7 => ?_)
          · have h := e_t c7 h
            obtain rfl := e_s h
            exact hk30 _ _ _ (lv_sub hl [0] rfl) hP hD hS
          · have h := e_f c7 h
            refine lv_aload_n hx hb dX6_fill_36 rfl (lv_at hl 0 rfl) ?_
            refine va_get (D := D) (ci := 6) (v := .ref (ad 9)) (C := RX6) (T := TX6) (N := 42) hx hb hts iX6 hown hK hP 0 rfl rfl 31 (Nat.le_of_ble_eq_true rfl) f41 (fun _ h9 => h9) rfl dX6_fill_37 ?_
            refine lv_iload hx hb dX6_fill_40 (lv_at hl 3 rfl) ?_
            refine lv_iload_n hx hb dX6_fill_42 rfl (lv_at hl 2 rfl) ?_
            obtain ⟨a8, ea8, na8, h⟩ := e_wr h
            refine xa_iast hx hb hK hP hD hS 9 rfl na8 ea8 dX6_fill_43 (fun H locs hP hD hS => ?_)
            have hP : va_P D vwCl (wX6 cA ad thrown tape taped value weight many block ties lines pastValue pastWeight pastMany undos fresh newValue newWeight newMany newBlock newTies newLines hasBlock hasTies size att place sort number fault faultPlace lastFault lastPlace a8 toWeight toMany often firstOf lastOf unlikes unlikeMany isCandidate modes fewest) H := hP
            have hD : va_D A (wX6 cA ad thrown tape taped value weight many block ties lines pastValue pastWeight pastMany undos fresh newValue newWeight newMany newBlock newTies newLines hasBlock hasTies size att place sort number fault faultPlace lastFault lastPlace a8 toWeight toMany often firstOf lastOf unlikes unlikeMany isCandidate modes fewest) := hD
            refine lv_iinc (v := (x4 + 1)) (lv' := [(4, .int (x4 + 1)), (0, .ref (ad 0)), (2, .int x2), (3, .int x3)]) hx hb dX6_fill_44 hl (k := 3) rfl rfl (by decide) rfl (fun ls hl => ?_)
            refine lv_goto (tgt := 30) hx hb dX6_fill_47 (by decide) ?_
            exact ih30 x2 x3 (x4 + 1) thrown tape taped value weight many block ties lines pastValue pastWeight pastMany undos fresh newValue newWeight newMany newBlock newTies newLines hasBlock hasTies size att place sort number fault faultPlace lastFault lastPlace a8 toWeight toMany often firstOf lastOf unlikes unlikeMany isCandidate modes fewest z6 _ _ _ (lv_sub hl [1, 2, 3, 0] rfl) hP hD hS h hk30
      obtain ⟨z9, ez9, h⟩ := e_b h
      refine hL30 FU x2 x3 x1 0 tape taped value weight many block ties lines pastValue pastWeight pastMany undos fresh newValue newWeight newMany newBlock newTies newLines hasBlock hasTies size att place sort number fault faultPlace lastFault lastPlace q5.1 q5.2.1 q5.2.2 often firstOf lastOf unlikes unlikeMany isCandidate modes fewest z9 _ _ _ (lv_sub hl [1, 3, 4, 0] rfl) hP hD hS ez9 (fun ls H locs hl hP hD hS => ?_)
      refine lv_aload_n hx hb dX6_fill_50 rfl (lv_at hl 0 rfl) ?_
      obtain ⟨q10, eq10, h⟩ := e_b h
      refine xv_i0 (As := []) (rest := []) (ci := 6) (b := ad 0) ⟨hx, hb, hml, hown, hts⟩ hl.1 (kX6_done l D cA ad 0 tape taped value weight many block ties lines pastValue pastWeight pastMany undos fresh newValue newWeight newMany newBlock newTies newLines hasBlock hasTies size att place sort number fault faultPlace lastFault lastPlace z9 q5.2.1 q5.2.2 often firstOf lastOf unlikes unlikeMany isCandidate modes fewest  _ eq10) (cwV 0 hts gX6_fill_X6_done rfl rfl rfl (by decide +kernel) ⟨Nat.le_of_ble_eq_true rfl, Nat.le_of_ble_eq_true rfl⟩) rfl hK hP hD hS hA 0 rfl rfl rfl rfl (Nat.le_of_ble_eq_true rfl) dX6_fill_51 ⟨Nat.zero_le _, Nat.zero_le _⟩ (fun H locs hP hD hS hnq10 => ?_)
      have hP : va_P D vwCl (wX6 cA ad 0 tape taped q10.2.1 q10.2.2.1 q10.2.2.2.1 block ties lines q10.2.2.2.2.1 q10.2.2.2.2.2.1 q10.2.2.2.2.2.2.1 q10.2.2.2.2.2.2.2.1 q10.2.2.2.2.2.2.2.2 newValue newWeight newMany newBlock newTies newLines hasBlock hasTies size att place sort number fault faultPlace lastFault lastPlace z9 q5.2.1 q5.2.2 often firstOf lastOf unlikes unlikeMany isCandidate modes fewest) H := hP
      have hD : va_D A (wX6 cA ad 0 tape taped q10.2.1 q10.2.2.1 q10.2.2.2.1 block ties lines q10.2.2.2.2.1 q10.2.2.2.2.2.1 q10.2.2.2.2.2.2.1 q10.2.2.2.2.2.2.2.1 q10.2.2.2.2.2.2.2.2 newValue newWeight newMany newBlock newTies newLines hasBlock hasTies size att place sort number fault faultPlace lastFault lastPlace z9 q5.2.1 q5.2.2 often firstOf lastOf unlikes unlikeMany isCandidate modes fewest) := hD
      obtain rfl := e_s h
      exact hret hP hS rfl dX6_fill_54
    · have h := e_f (not_not_intro c4) h
      refine lv_iconst (v := (-1)) hx hb dX6_fill_21 (by decide) ?_
      obtain rfl := e_s h
      exact hret hP hS rfl dX6_fill_22

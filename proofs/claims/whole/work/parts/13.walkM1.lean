set_option maxHeartbeats 4000000 in
set_option maxRecDepth 100000 in
theorem kX6_thrown (l : Launch) (D : va_G) (cA : Nat → ClassId) (ad : Nat → Nat) (thrown : Int32) (tape : Nat → Int32) (taped : Int32) (value : Nat → Int32) (weight : Nat → Int32) (many : Int32) (block : Int32) (ties : Int32) (lines : Int32) (pastValue : Nat → Int32) (pastWeight : Nat → Int32) (pastMany : Nat → Int32) (undos : Int32) (fresh : Int32) (newValue : Nat → Int32) (newWeight : Nat → Int32) (newMany : Int32) (newBlock : Int32) (newTies : Int32) (newLines : Int32) (hasBlock : Int32) (hasTies : Int32) (size : Int32) (att : Int32) (place : Int32) (sort : Int32) (number : Int32) (fault : Int32) (faultPlace : Int32) (lastFault : Int32) (lastPlace : Int32) (toValue : Nat → Int32) (toWeight : Nat → Int32) (toMany : Int32) (often : Nat → Int32) (firstOf : Nat → Int32) (lastOf : Nat → Int32) (unlikes : Nat → Int32) (unlikeMany : Int32) (isCandidate : Nat → Int32) (modes : Nat → Int32) (fewest : Nat → Int32)  (q : Int32) (h : mX6_thrown thrown  = some q) : MI l yX6_thrown wsX6_thrown { frames := 0, cells := 0, slots := 0, locals := 0 } D cA .int [.ref (ad 0)] (wX6 cA ad thrown tape taped value weight many block ties lines pastValue pastWeight pastMany undos fresh newValue newWeight newMany newBlock newTies newLines hasBlock hasTies size att place sort number fault faultPlace lastFault lastPlace toValue toWeight toMany often firstOf lastOf unlikes unlikeMany isCandidate modes fewest) (wX6 cA ad thrown tape taped value weight many block ties lines pastValue pastWeight pastMany undos fresh newValue newWeight newMany newBlock newTies newLines hasBlock hasTies size att place sort number fault faultPlace lastFault lastPlace toValue toWeight toMany often firstOf lastOf unlikes unlikeMany isCandidate modes fewest) q := by
  refine MI.of (cc := cX6_thrown) (maxL := 1) (by decide +kernel) rfl rfl rfl (Nat.le_of_ble_eq_true rfl) ?_
  intro p e s m args below meth c A ls Q hx hb hml hts hown hK hP hD hA hS hl hret
  have hl : lv_has ls 1 [(0, .ref (ad 0))] := hl
  have f72 := hts (.fieldLink RX6 72 "ModeDeskModel" "thrown" "I") (by decide +kernel)
  have iX6 : ∀ w ∈ wsX60, w ∈ wsX6_thrown := by decide +kernel
  unfold mX6_thrown at h
  refine lv_aload_n hx hb dX6_thrown_0 rfl (lv_at hl 0 rfl) ?_
  refine va_get (D := D) (ci := 6) (v := .int thrown) (C := RX6) (T := TX6) (N := 42) hx hb hts iX6 hown hK hP 0 rfl rfl 0 (Nat.le_of_ble_eq_true rfl) f72 (fun _ h9 => h9) rfl dX6_thrown_1 ?_
  obtain rfl := e_s h
  exact hret hP hS rfl dX6_thrown_4
set_option maxHeartbeats 4000000 in
set_option maxRecDepth 100000 in
theorem kX6_feed (l : Launch) (D : va_G) (cA : Nat → ClassId) (ad : Nat → Nat) (thrown : Int32) (tape : Nat → Int32) (taped : Int32) (value : Nat → Int32) (weight : Nat → Int32) (many : Int32) (block : Int32) (ties : Int32) (lines : Int32) (pastValue : Nat → Int32) (pastWeight : Nat → Int32) (pastMany : Nat → Int32) (undos : Int32) (fresh : Int32) (newValue : Nat → Int32) (newWeight : Nat → Int32) (newMany : Int32) (newBlock : Int32) (newTies : Int32) (newLines : Int32) (hasBlock : Int32) (hasTies : Int32) (size : Int32) (att : Int32) (place : Int32) (sort : Int32) (number : Int32) (fault : Int32) (faultPlace : Int32) (lastFault : Int32) (lastPlace : Int32) (toValue : Nat → Int32) (toWeight : Nat → Int32) (toMany : Int32) (often : Nat → Int32) (firstOf : Nat → Int32) (lastOf : Nat → Int32) (unlikes : Nat → Int32) (unlikeMany : Int32) (isCandidate : Nat → Int32) (modes : Nat → Int32) (fewest : Nat → Int32) (x1 : Int32) (x2 : Int32) (x3 : Int32) (x4 : Int32) (x5 : Int32) (q : Int32 × Int32 × (Nat → Int32) × Int32) (h : mX6_feed thrown tape taped x1 x2 x3 x4 x5 = some q) : MI l yX6_feed wsX6_feed { frames := 0, cells := 0, slots := 0, locals := 0 } D cA .int [.ref (ad 0), .int x1, .int x2, .int x3, .int x4, .int x5] (wX6 cA ad thrown tape taped value weight many block ties lines pastValue pastWeight pastMany undos fresh newValue newWeight newMany newBlock newTies newLines hasBlock hasTies size att place sort number fault faultPlace lastFault lastPlace toValue toWeight toMany often firstOf lastOf unlikes unlikeMany isCandidate modes fewest) (wX6 cA ad q.2.1 q.2.2.1 q.2.2.2 value weight many block ties lines pastValue pastWeight pastMany undos fresh newValue newWeight newMany newBlock newTies newLines hasBlock hasTies size att place sort number fault faultPlace lastFault lastPlace toValue toWeight toMany often firstOf lastOf unlikes unlikeMany isCandidate modes fewest) q.1 := by
  refine MI.of (cc := cX6_feed) (maxL := 8) (by decide +kernel) rfl rfl rfl (Nat.le_of_ble_eq_true rfl) ?_
  intro p e s m args below meth c A ls Q hx hb hml hts hown hK hP hD hA hS hl hret
  have hl : lv_has ls 8 [(0, .ref (ad 0)), (1, .int x1), (2, .int x2), (3, .int x3), (4, .int x4), (5, .int x5)] := hl
  have f7 := hts (.fieldLink RX6 7 "ModeDeskModel" "tape" "[I") (by decide +kernel)
  have f72 := hts (.fieldLink RX6 72 "ModeDeskModel" "thrown" "I") (by decide +kernel)
  have f75 := hts (.fieldLink RX6 75 "ModeDeskModel" "taped" "I") (by decide +kernel)
  have iX6 : ∀ w ∈ wsX60, w ∈ wsX6_feed := by decide +kernel
  unfold mX6_feed at h
  refine lv_aload_n hx hb dX6_feed_0 rfl (lv_at hl 0 rfl) ?_
  refine lv_iconst (v := 0) hx hb dX6_feed_1 (by decide) ?_
  refine va_put (D := D) (ci := 6) (v := .int 0) (ty := .int) (C := RX6) (T := TX6) (N := 42) hx hb hts iX6 tyX6 tyX6_ok nmX6 hown hK hP hD hS 0 rfl rfl 0 (Nat.le_of_ble_eq_true rfl) f72 (fun _ h9 => h9) rfl (tyX6_ok 0 (Nat.le_of_ble_eq_true rfl)) rfl rfl (Nat.le_of_ble_eq_true rfl) dX6_feed_2 (fun H locs hP hD hS => ?_)
  have hP : va_P D vwCl (wX6 cA ad 0 tape taped value weight many block ties lines pastValue pastWeight pastMany undos fresh newValue newWeight newMany newBlock newTies newLines hasBlock hasTies size att place sort number fault faultPlace lastFault lastPlace toValue toWeight toMany often firstOf lastOf unlikes unlikeMany isCandidate modes fewest) H := hP
  have hD : va_D A (wX6 cA ad 0 tape taped value weight many block ties lines pastValue pastWeight pastMany undos fresh newValue newWeight newMany newBlock newTies newLines hasBlock hasTies size att place sort number fault faultPlace lastFault lastPlace toValue toWeight toMany often firstOf lastOf unlikes unlikeMany isCandidate modes fewest) := hD
  refine lv_aload_n hx hb dX6_feed_5 rfl (lv_at hl 0 rfl) ?_
  refine va_get (D := D) (ci := 6) (v := .int taped) (C := RX6) (T := TX6) (N := 42) hx hb hts iX6 hown hK hP 0 rfl rfl 2 (Nat.le_of_ble_eq_true rfl) f75 (fun _ h9 => h9) rfl dX6_feed_6 ?_
  refine lv_sipush (v := 880) hx hb dX6_feed_9 (by decide) ?_
  refine lv_icmp_le (tgt := 17) hx hb dX6_feed_12 (by decide) (fun c1 => ?_) (fun c1 => ?_)
  · have h := e_t c1 h
    refine lv_iconst (v := 0) hx hb dX6_feed_17 (by decide) ?_
    refine lv_istore (lv' := [(6, .int 0), (0, .ref (ad 0)), (1, .int x1), (2, .int x2), (3, .int x3), (4, .int x4), (5, .int x5)]) hx hb dX6_feed_18 hl (by decide) rfl (fun ls hl => ?_)
    have hL20 : ∀ (n : Nat) (x1 : Int32) (x2 : Int32) (x3 : Int32) (x4 : Int32) (x5 : Int32) (x6 : Int32) (thrown : Int32) (tape : Nat → Int32) (taped : Int32) (value : Nat → Int32) (weight : Nat → Int32) (many : Int32) (block : Int32) (ties : Int32) (lines : Int32) (pastValue : Nat → Int32) (pastWeight : Nat → Int32) (pastMany : Nat → Int32) (undos : Int32) (fresh : Int32) (newValue : Nat → Int32) (newWeight : Nat → Int32) (newMany : Int32) (newBlock : Int32) (newTies : Int32) (newLines : Int32) (hasBlock : Int32) (hasTies : Int32) (size : Int32) (att : Int32) (place : Int32) (sort : Int32) (number : Int32) (fault : Int32) (faultPlace : Int32) (lastFault : Int32) (lastPlace : Int32) (toValue : Nat → Int32) (toWeight : Nat → Int32) (toMany : Int32) (often : Nat → Int32) (firstOf : Nat → Int32) (lastOf : Nat → Int32) (unlikes : Nat → Int32) (unlikeMany : Int32) (isCandidate : Nat → Int32) (modes : Nat → Int32) (fewest : Nat → Int32) (z2 : (Nat → Int32)) (ls : Array Slot) (H : Heap) (locs : List Loc), lv_has ls 8 [(0, .ref (ad 0)), (1, .int x1), (2, .int x2), (3, .int x3), (4, .int x4), (5, .int x5), (6, .int x6)] → va_P D vwCl (wX6 cA ad thrown tape taped value weight many block ties lines pastValue pastWeight pastMany undos fresh newValue newWeight newMany newBlock newTies newLines hasBlock hasTies size att place sort number fault faultPlace lastFault lastPlace toValue toWeight toMany often firstOf lastOf unlikes unlikeMany isCandidate modes fewest) H → va_D A (wX6 cA ad thrown tape taped value weight many block ties lines pastValue pastWeight pastMany undos fresh newValue newWeight newMany newBlock newTies newLines hasBlock hasTies size att place sort number fault faultPlace lastFault lastPlace toValue toWeight toMany often firstOf lastOf unlikes unlikeMany isCandidate modes fewest) → va_S A s.heap H locs → mX6_feed_L20 taped x1 x2 x3 x4 x5 n x6 tape = some z2 → (∀ (ls : Array Slot) (H : Heap) (locs : List Loc), lv_has ls 8 [(0, .ref (ad 0))] → va_P D vwCl (wX6 cA ad thrown z2 taped value weight many block ties lines pastValue pastWeight pastMany undos fresh newValue newWeight newMany newBlock newTies newLines hasBlock hasTies size att place sort number fault faultPlace lastFault lastPlace toValue toWeight toMany often firstOf lastOf unlikes unlikeMany isCandidate modes fewest) H → va_D A (wX6 cA ad thrown z2 taped value weight many block ties lines pastValue pastWeight pastMany undos fresh newValue newWeight newMany newBlock newTies newLines hasBlock hasTies size att place sort number fault faultPlace lastFault lastPlace toValue toWeight toMany often firstOf lastOf unlikes unlikeMany isCandidate modes fewest) → va_S A s.heap H locs → W p l e (headSpec wsX6_feed { frames := 0, cells := 0, slots := 0, locals := 0 }).room s m args below meth c H locs 0 0 Q (F0 m 110 ls [])) → W p l e (headSpec wsX6_feed { frames := 0, cells := 0, slots := 0, locals := 0 }).room s m args below meth c H locs 0 0 Q (F0 m 20 ls []) := by
      intro n
      induction n with
      | zero => intro x1 x2 x3 x4 x5 x6 thrown tape taped value weight many block ties lines pastValue pastWeight pastMany undos fresh newValue newWeight newMany newBlock newTies newLines hasBlock hasTies size att place sort number fault faultPlace lastFault lastPlace toValue toWeight toMany often firstOf lastOf unlikes unlikeMany isCandidate modes fewest z2 ls H locs hl hP hD hS h hk20; exact e_n h
      | succ n ih20 =>
        intro x1 x2 x3 x4 x5 x6 thrown tape taped value weight many block ties lines pastValue pastWeight pastMany undos fresh newValue newWeight newMany newBlock newTies newLines hasBlock hasTies size att place sort number fault faultPlace lastFault lastPlace toValue toWeight toMany often firstOf lastOf unlikes unlikeMany isCandidate modes fewest z2 ls H locs hl hP hD hS h hk20
        rw [mX6_feed_L20.eq_2] at h
        refine lv_iload hx hb dX6_feed_20 (lv_at hl 6 rfl) ?_
        refine lv_bipush (v := 20) hx hb dX6_feed_22 (by decide) ?_
        refine lv_icmp_ge (tgt := 110) hx hb dX6_feed_24 (by decide) (fun c3 => ?_) (fun c3 => ?_)
        · have h := e_t c3 h
          obtain rfl := e_s h
          exact hk20 _ _ _ (lv_sub hl [0] rfl) hP hD hS
        · have h := e_f c3 h
          refine lv_iload hx hb dX6_feed_27 (lv_at hl 6 rfl) ?_
          refine lv_iconst (v := 4) hx hb dX6_feed_29 (by decide) ?_
          obtain ⟨z4, ez4, h⟩ := e_b h
          have hJ5 : ∀ (ls : Array Slot) (H : Heap) (locs : List Loc), lv_has ls 8 [(0, .ref (ad 0)), (1, .int x1), (2, .int x2), (3, .int x3), (4, .int x4), (5, .int x5), (6, .int x6)] → va_P D vwCl (wX6 cA ad thrown tape taped value weight many block ties lines pastValue pastWeight pastMany undos fresh newValue newWeight newMany newBlock newTies newLines hasBlock hasTies size att place sort number fault faultPlace lastFault lastPlace toValue toWeight toMany often firstOf lastOf unlikes unlikeMany isCandidate modes fewest) H → va_D A (wX6 cA ad thrown tape taped value weight many block ties lines pastValue pastWeight pastMany undos fresh newValue newWeight newMany newBlock newTies newLines hasBlock hasTies size att place sort number fault faultPlace lastFault lastPlace toValue toWeight toMany often firstOf lastOf unlikes unlikeMany isCandidate modes fewest) → va_S A s.heap H locs → W p l e (headSpec wsX6_feed { frames := 0, cells := 0, slots := 0, locals := 0 }).room s m args below meth c H locs 0 0 Q (F0 m 73 ls [.int z4]) := by
            intro ls H locs hl hP hD hS
            refine lv_istore (lv' := [(7, .int z4), (0, .ref (ad 0)), (1, .int x1), (2, .int x2), (3, .int x3), (4, .int x4), (5, .int x5), (6, .int x6)]) hx hb dX6_feed_73 hl (by decide) rfl (fun ls hl => ?_)
            refine lv_aload_n hx hb dX6_feed_75 rfl (lv_at hl 1 rfl) ?_
            refine va_get (D := D) (ci := 6) (v := .ref (ad 1)) (C := RX6) (T := TX6) (N := 42) hx hb hts iX6 hown hK hP 0 rfl rfl 1 (Nat.le_of_ble_eq_true rfl) f7 (fun _ h9 => h9) rfl dX6_feed_76 ?_
            refine lv_aload_n hx hb dX6_feed_79 rfl (lv_at hl 1 rfl) ?_
            refine va_get (D := D) (ci := 6) (v := .int taped) (C := RX6) (T := TX6) (N := 42) hx hb hts iX6 hown hK hP 0 rfl rfl 2 (Nat.le_of_ble_eq_true rfl) f75 (fun _ h9 => h9) rfl dX6_feed_80 ?_
            refine lv_iload hx hb dX6_feed_83 (lv_at hl 7 rfl) ?_
            refine lv_iadd hx hb dX6_feed_85 ?_
            refine lv_iload hx hb dX6_feed_86 (lv_at hl 0 rfl) ?_
            refine lv_bipush (v := 24) hx hb dX6_feed_88 (by decide) ?_
            refine lv_bipush (v := 8) hx hb dX6_feed_90 (by decide) ?_
            refine lv_iload hx hb dX6_feed_92 (lv_at hl 7 rfl) ?_
            refine lv_iconst (v := 4) hx hb dX6_feed_94 (by decide) ?_
            obtain ⟨v6, ev6, nv6, h⟩ := e_rm h
            refine xa_irem hx hb dX6_feed_95 nv6 ev6 ?_
            refine lv_imul hx hb dX6_feed_96 ?_
            refine lv_isub hx hb dX6_feed_97 ?_
            refine lv_ishr hx hb dX6_feed_98 ?_
            refine lv_sipush (v := 255) hx hb dX6_feed_99 (by decide) ?_
            refine lv_iand hx hb dX6_feed_102 ?_
            obtain ⟨a7, ea7, na7, h⟩ := e_wr h
            refine xa_iast hx hb hK hP hD hS 1 rfl na7 ea7 dX6_feed_103 (fun H locs hP hD hS => ?_)
            have hP : va_P D vwCl (wX6 cA ad thrown a7 taped value weight many block ties lines pastValue pastWeight pastMany undos fresh newValue newWeight newMany newBlock newTies newLines hasBlock hasTies size att place sort number fault faultPlace lastFault lastPlace toValue toWeight toMany often firstOf lastOf unlikes unlikeMany isCandidate modes fewest) H := hP
            have hD : va_D A (wX6 cA ad thrown a7 taped value weight many block ties lines pastValue pastWeight pastMany undos fresh newValue newWeight newMany newBlock newTies newLines hasBlock hasTies size att place sort number fault faultPlace lastFault lastPlace toValue toWeight toMany often firstOf lastOf unlikes unlikeMany isCandidate modes fewest) := hD
            refine lv_iinc (v := (x6 + 1)) (lv' := [(6, .int (x6 + 1)), (7, .int z4), (0, .ref (ad 0)), (1, .int x1), (2, .int x2), (3, .int x3), (4, .int x4), (5, .int x5)]) hx hb dX6_feed_104 hl (k := 7) rfl rfl (by decide) rfl (fun ls hl => ?_)
            refine lv_goto (tgt := 20) hx hb dX6_feed_107 (by decide) ?_
            exact ih20 x1 x2 x3 x4 x5 (x6 + 1) thrown a7 taped value weight many block ties lines pastValue pastWeight pastMany undos fresh newValue newWeight newMany newBlock newTies newLines hasBlock hasTies size att place sort number fault faultPlace lastFault lastPlace toValue toWeight toMany often firstOf lastOf unlikes unlikeMany isCandidate modes fewest z2 _ _ _ (lv_sub hl [2, 3, 4, 5, 6, 7, 0] rfl) hP hD hS h hk20
          have h := ez4
          refine lv_icmp_ge (tgt := 37) hx hb dX6_feed_30 (by decide) (fun c8 => ?_) (fun c8 => ?_)
          · have h := e_t c8 h
            refine lv_iload hx hb dX6_feed_37 (lv_at hl 6 rfl) ?_
            refine lv_bipush (v := 8) hx hb dX6_feed_39 (by decide) ?_
            refine lv_icmp_ge (tgt := 48) hx hb dX6_feed_41 (by decide) (fun c9 => ?_) (fun c9 => ?_)
            · have h := e_t c9 h
              refine lv_iload hx hb dX6_feed_48 (lv_at hl 6 rfl) ?_
              refine lv_bipush (v := 12) hx hb dX6_feed_50 (by decide) ?_
              refine lv_icmp_ge (tgt := 59) hx hb dX6_feed_52 (by decide) (fun c10 => ?_) (fun c10 => ?_)
              · have h := e_t c10 h
                refine lv_iload hx hb dX6_feed_59 (lv_at hl 6 rfl) ?_
                refine lv_bipush (v := 16) hx hb dX6_feed_61 (by decide) ?_
                refine lv_icmp_ge (tgt := 71) hx hb dX6_feed_63 (by decide) (fun c11 => ?_) (fun c11 => ?_)
                · have h := e_t c11 h
                  refine lv_iload hx hb dX6_feed_71 (lv_at hl 5 rfl) ?_
                  obtain rfl := e_s h
                  exact hJ5 _ _ _ (lv_sub hl [0, 1, 2, 3, 4, 5, 6] rfl) hP hD hS
                · have h := e_f c11 h
                  refine lv_iload hx hb dX6_feed_66 (lv_at hl 4 rfl) ?_
                  refine lv_goto (tgt := 73) hx hb dX6_feed_68 (by decide) ?_
                  obtain rfl := e_s h
                  exact hJ5 _ _ _ (lv_sub hl [0, 1, 2, 3, 4, 5, 6] rfl) hP hD hS
              · have h := e_f c10 h
                refine lv_iload_n hx hb dX6_feed_55 rfl (lv_at hl 3 rfl) ?_
                refine lv_goto (tgt := 73) hx hb dX6_feed_56 (by decide) ?_
                obtain rfl := e_s h
                exact hJ5 _ _ _ (lv_sub hl [0, 1, 2, 3, 4, 5, 6] rfl) hP hD hS
            · have h := e_f c9 h
              refine lv_iload_n hx hb dX6_feed_44 rfl (lv_at hl 2 rfl) ?_
              refine lv_goto (tgt := 73) hx hb dX6_feed_45 (by decide) ?_
              obtain rfl := e_s h
              exact hJ5 _ _ _ (lv_sub hl [0, 1, 2, 3, 4, 5, 6] rfl) hP hD hS
          · have h := e_f c8 h
            refine lv_iload_n hx hb dX6_feed_33 rfl (lv_at hl 1 rfl) ?_
            refine lv_goto (tgt := 73) hx hb dX6_feed_34 (by decide) ?_
            obtain rfl := e_s h
            exact hJ5 _ _ _ (lv_sub hl [0, 1, 2, 3, 4, 5, 6] rfl) hP hD hS
    obtain ⟨z12, ez12, h⟩ := e_b h
    refine hL20 FU x1 x2 x3 x4 x5 0 0 tape taped value weight many block ties lines pastValue pastWeight pastMany undos fresh newValue newWeight newMany newBlock newTies newLines hasBlock hasTies size att place sort number fault faultPlace lastFault lastPlace toValue toWeight toMany often firstOf lastOf unlikes unlikeMany isCandidate modes fewest z12 _ _ _ (lv_sub hl [1, 2, 3, 4, 5, 6, 0] rfl) hP hD hS ez12 (fun ls H locs hl hP hD hS => ?_)
    refine lv_aload_n hx hb dX6_feed_110 rfl (lv_at hl 0 rfl) ?_
    refine lv_dup hx hb dX6_feed_111 rfl ?_
    refine va_get (D := D) (ci := 6) (v := .int taped) (C := RX6) (T := TX6) (N := 42) hx hb hts iX6 hown hK hP 0 rfl rfl 2 (Nat.le_of_ble_eq_true rfl) f75 (fun _ h9 => h9) rfl dX6_feed_112 ?_
    refine lv_bipush (v := 20) hx hb dX6_feed_115 (by decide) ?_
    refine lv_iadd hx hb dX6_feed_117 ?_
    refine va_put (D := D) (ci := 6) (v := .int (taped + 20)) (ty := .int) (C := RX6) (T := TX6) (N := 42) hx hb hts iX6 tyX6 tyX6_ok nmX6 hown hK hP hD hS 0 rfl rfl 2 (Nat.le_of_ble_eq_true rfl) f75 (fun _ h9 => h9) rfl (tyX6_ok 2 (Nat.le_of_ble_eq_true rfl)) rfl rfl (Nat.le_of_ble_eq_true rfl) dX6_feed_118 (fun H locs hP hD hS => ?_)
    have hP : va_P D vwCl (wX6 cA ad 0 z12 (taped + 20) value weight many block ties lines pastValue pastWeight pastMany undos fresh newValue newWeight newMany newBlock newTies newLines hasBlock hasTies size att place sort number fault faultPlace lastFault lastPlace toValue toWeight toMany often firstOf lastOf unlikes unlikeMany isCandidate modes fewest) H := hP
    have hD : va_D A (wX6 cA ad 0 z12 (taped + 20) value weight many block ties lines pastValue pastWeight pastMany undos fresh newValue newWeight newMany newBlock newTies newLines hasBlock hasTies size att place sort number fault faultPlace lastFault lastPlace toValue toWeight toMany often firstOf lastOf unlikes unlikeMany isCandidate modes fewest) := hD
    refine lv_aload_n hx hb dX6_feed_121 rfl (lv_at hl 0 rfl) ?_
    refine va_get (D := D) (ci := 6) (v := .int (taped + 20)) (C := RX6) (T := TX6) (N := 42) hx hb hts iX6 hown hK hP 0 rfl rfl 2 (Nat.le_of_ble_eq_true rfl) f75 (fun _ h9 => h9) rfl dX6_feed_122 ?_
    obtain rfl := e_s h
    exact hret hP hS rfl dX6_feed_125
  · have h := e_f c1 h
    refine lv_iconst (v := (-1)) hx hb dX6_feed_15 (by decide) ?_
    obtain rfl := e_s h
    exact hret hP hS rfl dX6_feed_16
set_option maxHeartbeats 4000000 in
set_option maxRecDepth 100000 in
theorem kX6_here (l : Launch) (D : va_G) (cA : Nat → ClassId) (ad : Nat → Nat) (thrown : Int32) (tape : Nat → Int32) (taped : Int32) (value : Nat → Int32) (weight : Nat → Int32) (many : Int32) (block : Int32) (ties : Int32) (lines : Int32) (pastValue : Nat → Int32) (pastWeight : Nat → Int32) (pastMany : Nat → Int32) (undos : Int32) (fresh : Int32) (newValue : Nat → Int32) (newWeight : Nat → Int32) (newMany : Int32) (newBlock : Int32) (newTies : Int32) (newLines : Int32) (hasBlock : Int32) (hasTies : Int32) (size : Int32) (att : Int32) (place : Int32) (sort : Int32) (number : Int32) (fault : Int32) (faultPlace : Int32) (lastFault : Int32) (lastPlace : Int32) (toValue : Nat → Int32) (toWeight : Nat → Int32) (toMany : Int32) (often : Nat → Int32) (firstOf : Nat → Int32) (lastOf : Nat → Int32) (unlikes : Nat → Int32) (unlikeMany : Int32) (isCandidate : Nat → Int32) (modes : Nat → Int32) (fewest : Nat → Int32)  (q : Int32) (h : mX6_here tape size att  = some q) : MI l yX6_here wsX6_here { frames := 0, cells := 0, slots := 0, locals := 0 } D cA .int [.ref (ad 0)] (wX6 cA ad thrown tape taped value weight many block ties lines pastValue pastWeight pastMany undos fresh newValue newWeight newMany newBlock newTies newLines hasBlock hasTies size att place sort number fault faultPlace lastFault lastPlace toValue toWeight toMany often firstOf lastOf unlikes unlikeMany isCandidate modes fewest) (wX6 cA ad thrown tape taped value weight many block ties lines pastValue pastWeight pastMany undos fresh newValue newWeight newMany newBlock newTies newLines hasBlock hasTies size att place sort number fault faultPlace lastFault lastPlace toValue toWeight toMany often firstOf lastOf unlikes unlikeMany isCandidate modes fewest) q := by
  refine MI.of (cc := cX6_here) (maxL := 1) (by decide +kernel) rfl rfl rfl (Nat.le_of_ble_eq_true rfl) ?_
  intro p e s m args below meth c A ls Q hx hb hml hts hown hK hP hD hA hS hl hret
  have hl : lv_has ls 1 [(0, .ref (ad 0))] := hl
  have f7 := hts (.fieldLink RX6 7 "ModeDeskModel" "tape" "[I") (by decide +kernel)
  have f78 := hts (.fieldLink RX6 78 "ModeDeskModel" "at" "I") (by decide +kernel)
  have f81 := hts (.fieldLink RX6 81 "ModeDeskModel" "size" "I") (by decide +kernel)
  have iX6 : ∀ w ∈ wsX60, w ∈ wsX6_here := by decide +kernel
  unfold mX6_here at h
  refine lv_aload_n hx hb dX6_here_0 rfl (lv_at hl 0 rfl) ?_
  refine va_get (D := D) (ci := 6) (v := .int att) (C := RX6) (T := TX6) (N := 42) hx hb hts iX6 hown hK hP 0 rfl rfl 23 (Nat.le_of_ble_eq_true rfl) f78 (fun _ h9 => h9) rfl dX6_here_1 ?_
  refine lv_aload_n hx hb dX6_here_4 rfl (lv_at hl 0 rfl) ?_
  refine va_get (D := D) (ci := 6) (v := .int size) (C := RX6) (T := TX6) (N := 42) hx hb hts iX6 hown hK hP 0 rfl rfl 22 (Nat.le_of_ble_eq_true rfl) f81 (fun _ h9 => h9) rfl dX6_here_5 ?_
  refine lv_icmp_ge (tgt := 23) hx hb dX6_here_8 (by decide) (fun c1 => ?_) (fun c1 => ?_)
  · have h := e_t c1 h
    refine lv_iconst (v := (-1)) hx hb dX6_here_23 (by decide) ?_
    obtain rfl := e_s h
    exact hret hP hS rfl dX6_here_24
  · have h := e_f c1 h
    refine lv_aload_n hx hb dX6_here_11 rfl (lv_at hl 0 rfl) ?_
    refine va_get (D := D) (ci := 6) (v := .ref (ad 1)) (C := RX6) (T := TX6) (N := 42) hx hb hts iX6 hown hK hP 0 rfl rfl 1 (Nat.le_of_ble_eq_true rfl) f7 (fun _ h9 => h9) rfl dX6_here_12 ?_
    refine lv_aload_n hx hb dX6_here_15 rfl (lv_at hl 0 rfl) ?_
    refine va_get (D := D) (ci := 6) (v := .int att) (C := RX6) (T := TX6) (N := 42) hx hb hts iX6 hown hK hP 0 rfl rfl 23 (Nat.le_of_ble_eq_true rfl) f78 (fun _ h9 => h9) rfl dX6_here_16 ?_
    obtain ⟨v2, ev2, nv2, h⟩ := e_rd h
    refine xa_iald hx hb hK hP 1 rfl nv2 ev2 dX6_here_19 ?_
    refine lv_goto (tgt := 24) hx hb dX6_here_20 (by decide) ?_
    obtain rfl := e_s h
    exact hret hP hS rfl dX6_here_24
set_option maxHeartbeats 4000000 in
set_option maxRecDepth 100000 in
theorem kX6_isSmall (l : Launch) (D : va_G) (cA : Nat → ClassId)   (x0 : Int32) (q : Int32) (h : mX6_isSmall  x0 = some q) : MI l yX6_isSmall wsX6_isSmall { frames := 0, cells := 0, slots := 0, locals := 0 } D cA .boolean [.int x0] [] [] q := by
  refine MI.of (cc := cX6_isSmall) (maxL := 1) (by decide +kernel) rfl rfl rfl (Nat.le_of_ble_eq_true rfl) ?_
  intro p e s m args below meth c A ls Q hx hb hml hts hown hK hP hD hA hS hl hret
  have hl : lv_has ls 1 [(0, .int x0)] := hl
  unfold mX6_isSmall at h
  refine lv_iload_n hx hb dX6_isSmall_0 rfl (lv_at hl 0 rfl) ?_
  refine lv_bipush (v := 97) hx hb dX6_isSmall_1 (by decide) ?_
  refine lv_icmp_lt (tgt := 16) hx hb dX6_isSmall_3 (by decide) (fun c1 => ?_) (fun c1 => ?_)
  · have h := e_t c1 h
    refine lv_iconst (v := 0) hx hb dX6_isSmall_16 (by decide) ?_
    obtain rfl := e_s h
    exact hret hP hS (show narrow .boolean (.int 0) = .int 0 from rfl) dX6_isSmall_17
  · have h := e_f c1 h
    refine lv_iload_n hx hb dX6_isSmall_6 rfl (lv_at hl 0 rfl) ?_
    refine lv_bipush (v := 122) hx hb dX6_isSmall_7 (by decide) ?_
    refine lv_icmp_gt (tgt := 16) hx hb dX6_isSmall_9 (by decide) (fun c2 => ?_) (fun c2 => ?_)
    · have h := e_t c2 h
      refine lv_iconst (v := 0) hx hb dX6_isSmall_16 (by decide) ?_
      obtain rfl := e_s h
      exact hret hP hS (show narrow .boolean (.int 0) = .int 0 from rfl) dX6_isSmall_17
    · have h := e_f c2 h
      refine lv_iconst (v := 1) hx hb dX6_isSmall_12 (by decide) ?_
      refine lv_goto (tgt := 17) hx hb dX6_isSmall_13 (by decide) ?_
      obtain rfl := e_s h
      exact hret hP hS (show narrow .boolean (.int 1) = .int 1 from rfl) dX6_isSmall_17
set_option maxHeartbeats 4000000 in
set_option maxRecDepth 100000 in
theorem kX6_isDigit (l : Launch) (D : va_G) (cA : Nat → ClassId)   (x0 : Int32) (q : Int32) (h : mX6_isDigit  x0 = some q) : MI l yX6_isDigit wsX6_isDigit { frames := 0, cells := 0, slots := 0, locals := 0 } D cA .boolean [.int x0] [] [] q := by
  refine MI.of (cc := cX6_isDigit) (maxL := 1) (by decide +kernel) rfl rfl rfl (Nat.le_of_ble_eq_true rfl) ?_
  intro p e s m args below meth c A ls Q hx hb hml hts hown hK hP hD hA hS hl hret
  have hl : lv_has ls 1 [(0, .int x0)] := hl
  unfold mX6_isDigit at h
  refine lv_iload_n hx hb dX6_isDigit_0 rfl (lv_at hl 0 rfl) ?_
  refine lv_bipush (v := 48) hx hb dX6_isDigit_1 (by decide) ?_
  refine lv_icmp_lt (tgt := 16) hx hb dX6_isDigit_3 (by decide) (fun c1 => ?_) (fun c1 => ?_)
  · have h := e_t c1 h
    refine lv_iconst (v := 0) hx hb dX6_isDigit_16 (by decide) ?_
    obtain rfl := e_s h
    exact hret hP hS (show narrow .boolean (.int 0) = .int 0 from rfl) dX6_isDigit_17
  · have h := e_f c1 h
    refine lv_iload_n hx hb dX6_isDigit_6 rfl (lv_at hl 0 rfl) ?_
    refine lv_bipush (v := 57) hx hb dX6_isDigit_7 (by decide) ?_
    refine lv_icmp_gt (tgt := 16) hx hb dX6_isDigit_9 (by decide) (fun c2 => ?_) (fun c2 => ?_)
    · have h := e_t c2 h
      refine lv_iconst (v := 0) hx hb dX6_isDigit_16 (by decide) ?_
      obtain rfl := e_s h
      exact hret hP hS (show narrow .boolean (.int 0) = .int 0 from rfl) dX6_isDigit_17
    · have h := e_f c2 h
      refine lv_iconst (v := 1) hx hb dX6_isDigit_12 (by decide) ?_
      refine lv_goto (tgt := 17) hx hb dX6_isDigit_13 (by decide) ?_
      obtain rfl := e_s h
      exact hret hP hS (show narrow .boolean (.int 1) = .int 1 from rfl) dX6_isDigit_17
set_option maxHeartbeats 4000000 in
set_option maxRecDepth 100000 in
theorem kX6_wordHere (l : Launch) (D : va_G) (cA : Nat → ClassId) (adK adV : Nat → Nat) (ad : Nat → Nat) (thrown : Int32) (tape : Nat → Int32) (taped : Int32) (value : Nat → Int32) (weight : Nat → Int32) (many : Int32) (block : Int32) (ties : Int32) (lines : Int32) (pastValue : Nat → Int32) (pastWeight : Nat → Int32) (pastMany : Nat → Int32) (undos : Int32) (fresh : Int32) (newValue : Nat → Int32) (newWeight : Nat → Int32) (newMany : Int32) (newBlock : Int32) (newTies : Int32) (newLines : Int32) (hasBlock : Int32) (hasTies : Int32) (size : Int32) (att : Int32) (place : Int32) (sort : Int32) (number : Int32) (fault : Int32) (faultPlace : Int32) (lastFault : Int32) (lastPlace : Int32) (toValue : Nat → Int32) (toWeight : Nat → Int32) (toMany : Int32) (often : Nat → Int32) (firstOf : Nat → Int32) (lastOf : Nat → Int32) (unlikes : Nat → Int32) (unlikeMany : Int32) (isCandidate : Nat → Int32) (modes : Nat → Int32) (fewest : Nat → Int32)  (q : Int32) (h : mX6_wordHere tape att place  = some q) : MIe l yX6_wordHere wsX6_wordHere { frames := 5, cells := 0, slots := 0, locals := 85 } D cA adK adV .int [.ref (ad 0)] (wX6 cA ad thrown tape taped value weight many block ties lines pastValue pastWeight pastMany undos fresh newValue newWeight newMany newBlock newTies newLines hasBlock hasTies size att place sort number fault faultPlace lastFault lastPlace toValue toWeight toMany often firstOf lastOf unlikes unlikeMany isCandidate modes fewest) (wX6 cA ad thrown tape taped value weight many block ties lines pastValue pastWeight pastMany undos fresh newValue newWeight newMany newBlock newTies newLines hasBlock hasTies size att place sort number fault faultPlace lastFault lastPlace toValue toWeight toMany often firstOf lastOf unlikes unlikeMany isCandidate modes fewest) q := by
  refine MIe.of (cc := cX6_wordHere) (maxL := 4) (by decide +kernel) rfl rfl rfl (Nat.le_of_ble_eq_true rfl) ?_
  intro p e s m args below meth c A ls Q hx hb hml hts hown hK hP hD hA hS hE hR hl hret
  have hl : lv_has ls 4 [(0, .ref (ad 0))] := hl
  have f7 := hts (.fieldLink RX6 7 "ModeDeskModel" "tape" "[I") (by decide +kernel)
  have f78 := hts (.fieldLink RX6 78 "ModeDeskModel" "at" "I") (by decide +kernel)
  have f88 := hts (.fieldLink RX6 88 "ModeDeskModel" "place" "I") (by decide +kernel)
  have iX6 : ∀ w ∈ wsX60, w ∈ wsX6_wordHere := by decide +kernel
  unfold mX6_wordHere at h
  refine lv_iconst (v := 0) hx hb dX6_wordHere_0 (by decide) ?_
  refine lv_istore_n (lv' := [(1, .int 0), (0, .ref (ad 0))]) hx hb dX6_wordHere_1 rfl hl (by decide) rfl (fun ls hl => ?_)
  refine lv_iconst (v := 0) hx hb dX6_wordHere_2 (by decide) ?_
  refine lv_istore_n (lv' := [(2, .int 0), (1, .int 0), (0, .ref (ad 0))]) hx hb dX6_wordHere_3 rfl hl (by decide) rfl (fun ls hl => ?_)
  have hL4 : ∀ (n : Nat) (x1 : Int32) (x2 : Int32) (ls : Array Slot) (H : Heap) (locs : List Loc), lv_has ls 4 [(0, .ref (ad 0)), (1, .int x1), (2, .int x2)] → va_P D vwCl (wX6 cA ad thrown tape taped value weight many block ties lines pastValue pastWeight pastMany undos fresh newValue newWeight newMany newBlock newTies newLines hasBlock hasTies size att place sort number fault faultPlace lastFault lastPlace toValue toWeight toMany often firstOf lastOf unlikes unlikeMany isCandidate modes fewest) H → va_D A (wX6 cA ad thrown tape taped value weight many block ties lines pastValue pastWeight pastMany undos fresh newValue newWeight newMany newBlock newTies newLines hasBlock hasTies size att place sort number fault faultPlace lastFault lastPlace toValue toWeight toMany often firstOf lastOf unlikes unlikeMany isCandidate modes fewest) → va_S A s.heap H locs → mX6_wordHere_L4 tape att place n x1 x2 = some q → W p l e (headSpec wsX6_wordHere { frames := 5, cells := 0, slots := 0, locals := 85 }).room s m args below meth c H locs 0 0 Q (F0 m 4 ls []) := by
    intro n
    induction n with
    | zero => intro x1 x2 ls H locs hl hP hD hS h; exact e_n h
    | succ n ih4 =>
      intro x1 x2 ls H locs hl hP hD hS h
      rw [mX6_wordHere_L4.eq_2] at h
      refine lv_iload_n hx hb dX6_wordHere_4 rfl (lv_at hl 2 rfl) ?_
      refine va_ldcS hx hb hown hR.2.2.2.2.2.2.2.2.2.2.1 dX6_wordHere_5 ?_
      refine xv_ie (As := []) (rest := [.int x2]) (b := adK 10) hE hR ⟨hx, hb, hml, hown, hts⟩ hl.1 (kJ0_length l D cA adK adV 10 (by decide)) (cwV 0 hts gX6_wordHere_J0_length_8abf5 rfl rfl rfl (by decide +kernel) ⟨Nat.le_of_ble_eq_true rfl, Nat.le_of_ble_eq_true rfl⟩) rfl hK hP hD hS hA (w_str hE hS (by decide)) [] rfl (by decide +kernel) rfl (Nat.le_of_ble_eq_true rfl) dX6_wordHere_7 ⟨Nat.zero_le _, Nat.zero_le _⟩ (fun H locs hP hD hS _ => ?_)
      have hP : va_P D vwCl (wX6 cA ad thrown tape taped value weight many block ties lines pastValue pastWeight pastMany undos fresh newValue newWeight newMany newBlock newTies newLines hasBlock hasTies size att place sort number fault faultPlace lastFault lastPlace toValue toWeight toMany often firstOf lastOf unlikes unlikeMany isCandidate modes fewest) H := hP
      have hD : va_D A (wX6 cA ad thrown tape taped value weight many block ties lines pastValue pastWeight pastMany undos fresh newValue newWeight newMany newBlock newTies newLines hasBlock hasTies size att place sort number fault faultPlace lastFault lastPlace toValue toWeight toMany often firstOf lastOf unlikes unlikeMany isCandidate modes fewest) := hD
      refine lv_icmp_ge (tgt := 123) hx hb dX6_wordHere_10 (by decide) (fun c2 => ?_) (fun c2 => ?_)
      · have h := e_t c2 h
        refine lv_iconst (v := (-1)) hx hb dX6_wordHere_123 (by decide) ?_
        obtain rfl := e_s h
        exact hret hP hS rfl dX6_wordHere_124
      · have h := e_f c2 h
        refine lv_iconst (v := 0) hx hb dX6_wordHere_13 (by decide) ?_
        refine lv_istore_n (lv' := [(3, .int 0), (0, .ref (ad 0)), (1, .int x1), (2, .int x2)]) hx hb dX6_wordHere_14 rfl hl (by decide) rfl (fun ls hl => ?_)
        have hL15 : ∀ (n : Nat) (x1 : Int32) (x2 : Int32) (x3 : Int32) (thrown : Int32) (tape : Nat → Int32) (taped : Int32) (value : Nat → Int32) (weight : Nat → Int32) (many : Int32) (block : Int32) (ties : Int32) (lines : Int32) (pastValue : Nat → Int32) (pastWeight : Nat → Int32) (pastMany : Nat → Int32) (undos : Int32) (fresh : Int32) (newValue : Nat → Int32) (newWeight : Nat → Int32) (newMany : Int32) (newBlock : Int32) (newTies : Int32) (newLines : Int32) (hasBlock : Int32) (hasTies : Int32) (size : Int32) (att : Int32) (place : Int32) (sort : Int32) (number : Int32) (fault : Int32) (faultPlace : Int32) (lastFault : Int32) (lastPlace : Int32) (toValue : Nat → Int32) (toWeight : Nat → Int32) (toMany : Int32) (often : Nat → Int32) (firstOf : Nat → Int32) (lastOf : Nat → Int32) (unlikes : Nat → Int32) (unlikeMany : Int32) (isCandidate : Nat → Int32) (modes : Nat → Int32) (fewest : Nat → Int32) (z3 : Int32) (ls : Array Slot) (H : Heap) (locs : List Loc), lv_has ls 4 [(0, .ref (ad 0)), (1, .int x1), (2, .int x2), (3, .int x3)] → va_P D vwCl (wX6 cA ad thrown tape taped value weight many block ties lines pastValue pastWeight pastMany undos fresh newValue newWeight newMany newBlock newTies newLines hasBlock hasTies size att place sort number fault faultPlace lastFault lastPlace toValue toWeight toMany often firstOf lastOf unlikes unlikeMany isCandidate modes fewest) H → va_D A (wX6 cA ad thrown tape taped value weight many block ties lines pastValue pastWeight pastMany undos fresh newValue newWeight newMany newBlock newTies newLines hasBlock hasTies size att place sort number fault faultPlace lastFault lastPlace toValue toWeight toMany often firstOf lastOf unlikes unlikeMany isCandidate modes fewest) → va_S A s.heap H locs → mX6_wordHere_L15 tape att place x2 n x3 = some z3 → (∀ (ls : Array Slot) (H : Heap) (locs : List Loc), lv_has ls 4 [(0, .ref (ad 0)), (1, .int x1), (2, .int x2), (3, .int z3)] → va_P D vwCl (wX6 cA ad thrown tape taped value weight many block ties lines pastValue pastWeight pastMany undos fresh newValue newWeight newMany newBlock newTies newLines hasBlock hasTies size att place sort number fault faultPlace lastFault lastPlace toValue toWeight toMany often firstOf lastOf unlikes unlikeMany isCandidate modes fewest) H → va_D A (wX6 cA ad thrown tape taped value weight many block ties lines pastValue pastWeight pastMany undos fresh newValue newWeight newMany newBlock newTies newLines hasBlock hasTies size att place sort number fault faultPlace lastFault lastPlace toValue toWeight toMany often firstOf lastOf unlikes unlikeMany isCandidate modes fewest) → va_S A s.heap H locs → W p l e (headSpec wsX6_wordHere { frames := 5, cells := 0, slots := 0, locals := 85 }).room s m args below meth c H locs 0 0 Q (F0 m 69 ls [])) → W p l e (headSpec wsX6_wordHere { frames := 5, cells := 0, slots := 0, locals := 85 }).room s m args below meth c H locs 0 0 Q (F0 m 15 ls []) := by
          intro n
          induction n with
          | zero => intro x1 x2 x3 thrown tape taped value weight many block ties lines pastValue pastWeight pastMany undos fresh newValue newWeight newMany newBlock newTies newLines hasBlock hasTies size att place sort number fault faultPlace lastFault lastPlace toValue toWeight toMany often firstOf lastOf unlikes unlikeMany isCandidate modes fewest z3 ls H locs hl hP hD hS h hk15; exact e_n h
          | succ n ih15 =>
            intro x1 x2 x3 thrown tape taped value weight many block ties lines pastValue pastWeight pastMany undos fresh newValue newWeight newMany newBlock newTies newLines hasBlock hasTies size att place sort number fault faultPlace lastFault lastPlace toValue toWeight toMany often firstOf lastOf unlikes unlikeMany isCandidate modes fewest z3 ls H locs hl hP hD hS h hk15
            rw [mX6_wordHere_L15.eq_2] at h
            refine va_ldcS hx hb hown hR.2.2.2.2.2.2.2.2.2.2.1 dX6_wordHere_15 ?_
            refine lv_iload_n hx hb dX6_wordHere_17 rfl (lv_at hl 2 rfl) ?_
            refine lv_iload_n hx hb dX6_wordHere_18 rfl (lv_at hl 3 rfl) ?_
            refine lv_iadd hx hb dX6_wordHere_19 ?_
            obtain ⟨v4, ev4, h⟩ := e_b h
            refine xv_ie (As := [.int (x2 + x3)]) (rest := []) (b := adK 10) hE hR ⟨hx, hb, hml, hown, hts⟩ hl.1 (kJ0_charAt l D cA adK adV 10 (by decide) (x2 + x3) v4 ev4) (cwV 1 hts gX6_wordHere_J0_charAt_5068e rfl rfl rfl (by decide +kernel) ⟨Nat.le_of_ble_eq_true rfl, Nat.le_of_ble_eq_true rfl⟩) rfl hK hP hD hS hA (w_str hE hS (by decide)) [] rfl (by decide +kernel) rfl (Nat.le_of_ble_eq_true rfl) dX6_wordHere_20 ⟨Nat.zero_le _, Nat.zero_le _⟩ (fun H locs hP hD hS _ => ?_)
            have hP : va_P D vwCl (wX6 cA ad thrown tape taped value weight many block ties lines pastValue pastWeight pastMany undos fresh newValue newWeight newMany newBlock newTies newLines hasBlock hasTies size att place sort number fault faultPlace lastFault lastPlace toValue toWeight toMany often firstOf lastOf unlikes unlikeMany isCandidate modes fewest) H := hP
            have hD : va_D A (wX6 cA ad thrown tape taped value weight many block ties lines pastValue pastWeight pastMany undos fresh newValue newWeight newMany newBlock newTies newLines hasBlock hasTies size att place sort number fault faultPlace lastFault lastPlace toValue toWeight toMany often firstOf lastOf unlikes unlikeMany isCandidate modes fewest) := hD
            refine lv_bipush (v := 32) hx hb dX6_wordHere_23 (by decide) ?_
            refine lv_icmp_eq (tgt := 69) hx hb dX6_wordHere_25 (by decide) (fun c5 => ?_) (fun c5 => ?_)
            · have h := e_t c5 h
              obtain rfl := e_s h
              exact hk15 _ _ _ (lv_sub hl [0, 1, 2, 3] rfl) hP hD hS
            · have h := e_f c5 h
              refine lv_aload_n hx hb dX6_wordHere_28 rfl (lv_at hl 0 rfl) ?_
              refine va_get (D := D) (ci := 6) (v := .int place) (C := RX6) (T := TX6) (N := 42) hx hb hts iX6 hown hK hP 0 rfl rfl 24 (Nat.le_of_ble_eq_true rfl) f88 (fun _ h9 => h9) rfl dX6_wordHere_29 ?_
              refine lv_iload_n hx hb dX6_wordHere_32 rfl (lv_at hl 3 rfl) ?_
              refine lv_iadd hx hb dX6_wordHere_33 ?_
              refine lv_aload_n hx hb dX6_wordHere_34 rfl (lv_at hl 0 rfl) ?_
              refine va_get (D := D) (ci := 6) (v := .int att) (C := RX6) (T := TX6) (N := 42) hx hb hts iX6 hown hK hP 0 rfl rfl 23 (Nat.le_of_ble_eq_true rfl) f78 (fun _ h9 => h9) rfl dX6_wordHere_35 ?_
              refine lv_icmp_ge (tgt := 69) hx hb dX6_wordHere_38 (by decide) (fun c6 => ?_) (fun c6 => ?_)
              · have h := e_t c6 h
                obtain rfl := e_s h
                exact hk15 _ _ _ (lv_sub hl [0, 1, 2, 3] rfl) hP hD hS
              · have h := e_f c6 h
                refine lv_aload_n hx hb dX6_wordHere_41 rfl (lv_at hl 0 rfl) ?_
                refine va_get (D := D) (ci := 6) (v := .ref (ad 1)) (C := RX6) (T := TX6) (N := 42) hx hb hts iX6 hown hK hP 0 rfl rfl 1 (Nat.le_of_ble_eq_true rfl) f7 (fun _ h9 => h9) rfl dX6_wordHere_42 ?_
                refine lv_aload_n hx hb dX6_wordHere_45 rfl (lv_at hl 0 rfl) ?_
                refine va_get (D := D) (ci := 6) (v := .int place) (C := RX6) (T := TX6) (N := 42) hx hb hts iX6 hown hK hP 0 rfl rfl 24 (Nat.le_of_ble_eq_true rfl) f88 (fun _ h9 => h9) rfl dX6_wordHere_46 ?_
                refine lv_iload_n hx hb dX6_wordHere_49 rfl (lv_at hl 3 rfl) ?_
                refine lv_iadd hx hb dX6_wordHere_50 ?_
                obtain ⟨v7, ev7, nv7, h⟩ := e_rd h
                refine xa_iald hx hb hK hP 1 rfl nv7 ev7 dX6_wordHere_51 ?_
                refine va_ldcS hx hb hown hR.2.2.2.2.2.2.2.2.2.2.1 dX6_wordHere_52 ?_
                refine lv_iload_n hx hb dX6_wordHere_54 rfl (lv_at hl 2 rfl) ?_
                refine lv_iload_n hx hb dX6_wordHere_55 rfl (lv_at hl 3 rfl) ?_
                refine lv_iadd hx hb dX6_wordHere_56 ?_
                obtain ⟨v8, ev8, h⟩ := e_b h
                refine xv_ie (As := [.int (x2 + x3)]) (rest := [.int v7]) (b := adK 10) hE hR ⟨hx, hb, hml, hown, hts⟩ hl.1 (kJ0_charAt l D cA adK adV 10 (by decide) (x2 + x3) v8 ev8) (cwV 1 hts gX6_wordHere_J0_charAt_5068e rfl rfl rfl (by decide +kernel) ⟨Nat.le_of_ble_eq_true rfl, Nat.le_of_ble_eq_true rfl⟩) rfl hK hP hD hS hA (w_str hE hS (by decide)) [] rfl (by decide +kernel) rfl (Nat.le_of_ble_eq_true rfl) dX6_wordHere_57 ⟨Nat.zero_le _, Nat.zero_le _⟩ (fun H locs hP hD hS _ => ?_)
                have hP : va_P D vwCl (wX6 cA ad thrown tape taped value weight many block ties lines pastValue pastWeight pastMany undos fresh newValue newWeight newMany newBlock newTies newLines hasBlock hasTies size att place sort number fault faultPlace lastFault lastPlace toValue toWeight toMany often firstOf lastOf unlikes unlikeMany isCandidate modes fewest) H := hP
                have hD : va_D A (wX6 cA ad thrown tape taped value weight many block ties lines pastValue pastWeight pastMany undos fresh newValue newWeight newMany newBlock newTies newLines hasBlock hasTies size att place sort number fault faultPlace lastFault lastPlace toValue toWeight toMany often firstOf lastOf unlikes unlikeMany isCandidate modes fewest) := hD
                refine lv_icmp_ne (tgt := 69) hx hb dX6_wordHere_60 (by decide) (fun c9 => ?_) (fun c9 => ?_)
                · have h := e_t c9 h
                  obtain rfl := e_s h
                  exact hk15 _ _ _ (lv_sub hl [0, 1, 2, 3] rfl) hP hD hS
                · have h := e_f (not_not_intro c9) h
                  refine lv_iinc (v := (x3 + 1)) (lv' := [(3, .int (x3 + 1)), (0, .ref (ad 0)), (1, .int x1), (2, .int x2)]) hx hb dX6_wordHere_63 hl (k := 3) rfl rfl (by decide) rfl (fun ls hl => ?_)
                  refine lv_goto (tgt := 15) hx hb dX6_wordHere_66 (by decide) ?_
                  exact ih15 x1 x2 (x3 + 1) thrown tape taped value weight many block ties lines pastValue pastWeight pastMany undos fresh newValue newWeight newMany newBlock newTies newLines hasBlock hasTies size att place sort number fault faultPlace lastFault lastPlace toValue toWeight toMany often firstOf lastOf unlikes unlikeMany isCandidate modes fewest z3 _ _ _ (lv_sub hl [1, 2, 3, 0] rfl) hP hD hS h hk15
        obtain ⟨z10, ez10, h⟩ := e_b h
        refine hL15 FU x1 x2 0 thrown tape taped value weight many block ties lines pastValue pastWeight pastMany undos fresh newValue newWeight newMany newBlock newTies newLines hasBlock hasTies size att place sort number fault faultPlace lastFault lastPlace toValue toWeight toMany often firstOf lastOf unlikes unlikeMany isCandidate modes fewest z10 _ _ _ (lv_sub hl [1, 2, 3, 0] rfl) hP hD hS ez10 (fun ls H locs hl hP hD hS => ?_)
        refine va_ldcS hx hb hown hR.2.2.2.2.2.2.2.2.2.2.1 dX6_wordHere_69 ?_
        refine lv_iload_n hx hb dX6_wordHere_71 rfl (lv_at hl 2 rfl) ?_
        refine lv_iload_n hx hb dX6_wordHere_72 rfl (lv_at hl 3 rfl) ?_
        refine lv_iadd hx hb dX6_wordHere_73 ?_
        obtain ⟨v11, ev11, h⟩ := e_b h
        refine xv_ie (As := [.int (x2 + z10)]) (rest := []) (b := adK 10) hE hR ⟨hx, hb, hml, hown, hts⟩ hl.1 (kJ0_charAt l D cA adK adV 10 (by decide) (x2 + z10) v11 ev11) (cwV 1 hts gX6_wordHere_J0_charAt_5068e rfl rfl rfl (by decide +kernel) ⟨Nat.le_of_ble_eq_true rfl, Nat.le_of_ble_eq_true rfl⟩) rfl hK hP hD hS hA (w_str hE hS (by decide)) [] rfl (by decide +kernel) rfl (Nat.le_of_ble_eq_true rfl) dX6_wordHere_74 ⟨Nat.zero_le _, Nat.zero_le _⟩ (fun H locs hP hD hS _ => ?_)
        have hP : va_P D vwCl (wX6 cA ad thrown tape taped value weight many block ties lines pastValue pastWeight pastMany undos fresh newValue newWeight newMany newBlock newTies newLines hasBlock hasTies size att place sort number fault faultPlace lastFault lastPlace toValue toWeight toMany often firstOf lastOf unlikes unlikeMany isCandidate modes fewest) H := hP
        have hD : va_D A (wX6 cA ad thrown tape taped value weight many block ties lines pastValue pastWeight pastMany undos fresh newValue newWeight newMany newBlock newTies newLines hasBlock hasTies size att place sort number fault faultPlace lastFault lastPlace toValue toWeight toMany often firstOf lastOf unlikes unlikeMany isCandidate modes fewest) := hD
        refine lv_bipush (v := 32) hx hb dX6_wordHere_77 (by decide) ?_
        refine lv_icmp_ne (tgt := 97) hx hb dX6_wordHere_79 (by decide) (fun c12 => ?_) (fun c12 => ?_)
        · have h := e_t c12 h
          have hL97 : ∀ (n : Nat) (x1 : Int32) (x2 : Int32) (thrown : Int32) (tape : Nat → Int32) (taped : Int32) (value : Nat → Int32) (weight : Nat → Int32) (many : Int32) (block : Int32) (ties : Int32) (lines : Int32) (pastValue : Nat → Int32) (pastWeight : Nat → Int32) (pastMany : Nat → Int32) (undos : Int32) (fresh : Int32) (newValue : Nat → Int32) (newWeight : Nat → Int32) (newMany : Int32) (newBlock : Int32) (newTies : Int32) (newLines : Int32) (hasBlock : Int32) (hasTies : Int32) (size : Int32) (att : Int32) (place : Int32) (sort : Int32) (number : Int32) (fault : Int32) (faultPlace : Int32) (lastFault : Int32) (lastPlace : Int32) (toValue : Nat → Int32) (toWeight : Nat → Int32) (toMany : Int32) (often : Nat → Int32) (firstOf : Nat → Int32) (lastOf : Nat → Int32) (unlikes : Nat → Int32) (unlikeMany : Int32) (isCandidate : Nat → Int32) (modes : Nat → Int32) (fewest : Nat → Int32) (z13 : Int32) (ls : Array Slot) (H : Heap) (locs : List Loc), lv_has ls 4 [(0, .ref (ad 0)), (1, .int x1), (2, .int x2)] → va_P D vwCl (wX6 cA ad thrown tape taped value weight many block ties lines pastValue pastWeight pastMany undos fresh newValue newWeight newMany newBlock newTies newLines hasBlock hasTies size att place sort number fault faultPlace lastFault lastPlace toValue toWeight toMany often firstOf lastOf unlikes unlikeMany isCandidate modes fewest) H → va_D A (wX6 cA ad thrown tape taped value weight many block ties lines pastValue pastWeight pastMany undos fresh newValue newWeight newMany newBlock newTies newLines hasBlock hasTies size att place sort number fault faultPlace lastFault lastPlace toValue toWeight toMany often firstOf lastOf unlikes unlikeMany isCandidate modes fewest) → va_S A s.heap H locs → mX6_wordHere_L97  n x2 = some z13 → (∀ (ls : Array Slot) (H : Heap) (locs : List Loc), lv_has ls 4 [(0, .ref (ad 0)), (1, .int x1), (2, .int z13)] → va_P D vwCl (wX6 cA ad thrown tape taped value weight many block ties lines pastValue pastWeight pastMany undos fresh newValue newWeight newMany newBlock newTies newLines hasBlock hasTies size att place sort number fault faultPlace lastFault lastPlace toValue toWeight toMany often firstOf lastOf unlikes unlikeMany isCandidate modes fewest) H → va_D A (wX6 cA ad thrown tape taped value weight many block ties lines pastValue pastWeight pastMany undos fresh newValue newWeight newMany newBlock newTies newLines hasBlock hasTies size att place sort number fault faultPlace lastFault lastPlace toValue toWeight toMany often firstOf lastOf unlikes unlikeMany isCandidate modes fewest) → va_S A s.heap H locs → W p l e (headSpec wsX6_wordHere { frames := 5, cells := 0, slots := 0, locals := 85 }).room s m args below meth c H locs 0 0 Q (F0 m 114 ls [])) → W p l e (headSpec wsX6_wordHere { frames := 5, cells := 0, slots := 0, locals := 85 }).room s m args below meth c H locs 0 0 Q (F0 m 97 ls []) := by
            intro n
            induction n with
            | zero => intro x1 x2 thrown tape taped value weight many block ties lines pastValue pastWeight pastMany undos fresh newValue newWeight newMany newBlock newTies newLines hasBlock hasTies size att place sort number fault faultPlace lastFault lastPlace toValue toWeight toMany often firstOf lastOf unlikes unlikeMany isCandidate modes fewest z13 ls H locs hl hP hD hS h hk97; exact e_n h
            | succ n ih97 =>
              intro x1 x2 thrown tape taped value weight many block ties lines pastValue pastWeight pastMany undos fresh newValue newWeight newMany newBlock newTies newLines hasBlock hasTies size att place sort number fault faultPlace lastFault lastPlace toValue toWeight toMany often firstOf lastOf unlikes unlikeMany isCandidate modes fewest z13 ls H locs hl hP hD hS h hk97
              rw [mX6_wordHere_L97.eq_2] at h
              refine va_ldcS hx hb hown hR.2.2.2.2.2.2.2.2.2.2.1 dX6_wordHere_97 ?_
              refine lv_iload_n hx hb dX6_wordHere_99 rfl (lv_at hl 2 rfl) ?_
              obtain ⟨v14, ev14, h⟩ := e_b h
              refine xv_ie (As := [.int x2]) (rest := []) (b := adK 10) hE hR ⟨hx, hb, hml, hown, hts⟩ hl.1 (kJ0_charAt l D cA adK adV 10 (by decide) x2 v14 ev14) (cwV 1 hts gX6_wordHere_J0_charAt_5068e rfl rfl rfl (by decide +kernel) ⟨Nat.le_of_ble_eq_true rfl, Nat.le_of_ble_eq_true rfl⟩) rfl hK hP hD hS hA (w_str hE hS (by decide)) [] rfl (by decide +kernel) rfl (Nat.le_of_ble_eq_true rfl) dX6_wordHere_100 ⟨Nat.zero_le _, Nat.zero_le _⟩ (fun H locs hP hD hS _ => ?_)
              have hP : va_P D vwCl (wX6 cA ad thrown tape taped value weight many block ties lines pastValue pastWeight pastMany undos fresh newValue newWeight newMany newBlock newTies newLines hasBlock hasTies size att place sort number fault faultPlace lastFault lastPlace toValue toWeight toMany often firstOf lastOf unlikes unlikeMany isCandidate modes fewest) H := hP
              have hD : va_D A (wX6 cA ad thrown tape taped value weight many block ties lines pastValue pastWeight pastMany undos fresh newValue newWeight newMany newBlock newTies newLines hasBlock hasTies size att place sort number fault faultPlace lastFault lastPlace toValue toWeight toMany often firstOf lastOf unlikes unlikeMany isCandidate modes fewest) := hD
              refine lv_bipush (v := 32) hx hb dX6_wordHere_103 (by decide) ?_
              refine lv_icmp_eq (tgt := 114) hx hb dX6_wordHere_105 (by decide) (fun c15 => ?_) (fun c15 => ?_)
              · have h := e_t c15 h
                obtain rfl := e_s h
                exact hk97 _ _ _ (lv_sub hl [0, 1, 2] rfl) hP hD hS
              · have h := e_f c15 h
                refine lv_iinc (v := (x2 + 1)) (lv' := [(2, .int (x2 + 1)), (0, .ref (ad 0)), (1, .int x1)]) hx hb dX6_wordHere_108 hl (k := 2) rfl rfl (by decide) rfl (fun ls hl => ?_)
                refine lv_goto (tgt := 97) hx hb dX6_wordHere_111 (by decide) ?_
                exact ih97 x1 (x2 + 1) thrown tape taped value weight many block ties lines pastValue pastWeight pastMany undos fresh newValue newWeight newMany newBlock newTies newLines hasBlock hasTies size att place sort number fault faultPlace lastFault lastPlace toValue toWeight toMany often firstOf lastOf unlikes unlikeMany isCandidate modes fewest z13 _ _ _ (lv_sub hl [1, 2, 0] rfl) hP hD hS h hk97
          obtain ⟨z16, ez16, h⟩ := e_b h
          refine hL97 FU x1 x2 thrown tape taped value weight many block ties lines pastValue pastWeight pastMany undos fresh newValue newWeight newMany newBlock newTies newLines hasBlock hasTies size att place sort number fault faultPlace lastFault lastPlace toValue toWeight toMany often firstOf lastOf unlikes unlikeMany isCandidate modes fewest z16 _ _ _ (lv_sub hl [0, 1, 2] rfl) hP hD hS ez16 (fun ls H locs hl hP hD hS => ?_)
          refine lv_iinc (v := (z16 + 1)) (lv' := [(2, .int (z16 + 1)), (0, .ref (ad 0)), (1, .int x1)]) hx hb dX6_wordHere_114 hl (k := 2) rfl rfl (by decide) rfl (fun ls hl => ?_)
          refine lv_iinc (v := (x1 + 1)) (lv' := [(1, .int (x1 + 1)), (2, .int (z16 + 1)), (0, .ref (ad 0))]) hx hb dX6_wordHere_117 hl (k := 2) rfl rfl (by decide) rfl (fun ls hl => ?_)
          refine lv_goto (tgt := 4) hx hb dX6_wordHere_120 (by decide) ?_
          exact ih4 (x1 + 1) (z16 + 1) _ _ _ (lv_sub hl [2, 0, 1] rfl) hP hD hS h
        · have h := e_f (not_not_intro c12) h
          refine lv_aload_n hx hb dX6_wordHere_82 rfl (lv_at hl 0 rfl) ?_
          refine va_get (D := D) (ci := 6) (v := .int place) (C := RX6) (T := TX6) (N := 42) hx hb hts iX6 hown hK hP 0 rfl rfl 24 (Nat.le_of_ble_eq_true rfl) f88 (fun _ h9 => h9) rfl dX6_wordHere_83 ?_
          refine lv_iload_n hx hb dX6_wordHere_86 rfl (lv_at hl 3 rfl) ?_
          refine lv_iadd hx hb dX6_wordHere_87 ?_
          refine lv_aload_n hx hb dX6_wordHere_88 rfl (lv_at hl 0 rfl) ?_
          refine va_get (D := D) (ci := 6) (v := .int att) (C := RX6) (T := TX6) (N := 42) hx hb hts iX6 hown hK hP 0 rfl rfl 23 (Nat.le_of_ble_eq_true rfl) f78 (fun _ h9 => h9) rfl dX6_wordHere_89 ?_
          refine lv_icmp_ne (tgt := 97) hx hb dX6_wordHere_92 (by decide) (fun c17 => ?_) (fun c17 => ?_)
          · have h := e_t c17 h
            have hL97 : ∀ (n : Nat) (x1 : Int32) (x2 : Int32) (thrown : Int32) (tape : Nat → Int32) (taped : Int32) (value : Nat → Int32) (weight : Nat → Int32) (many : Int32) (block : Int32) (ties : Int32) (lines : Int32) (pastValue : Nat → Int32) (pastWeight : Nat → Int32) (pastMany : Nat → Int32) (undos : Int32) (fresh : Int32) (newValue : Nat → Int32) (newWeight : Nat → Int32) (newMany : Int32) (newBlock : Int32) (newTies : Int32) (newLines : Int32) (hasBlock : Int32) (hasTies : Int32) (size : Int32) (att : Int32) (place : Int32) (sort : Int32) (number : Int32) (fault : Int32) (faultPlace : Int32) (lastFault : Int32) (lastPlace : Int32) (toValue : Nat → Int32) (toWeight : Nat → Int32) (toMany : Int32) (often : Nat → Int32) (firstOf : Nat → Int32) (lastOf : Nat → Int32) (unlikes : Nat → Int32) (unlikeMany : Int32) (isCandidate : Nat → Int32) (modes : Nat → Int32) (fewest : Nat → Int32) (z18 : Int32) (ls : Array Slot) (H : Heap) (locs : List Loc), lv_has ls 4 [(0, .ref (ad 0)), (1, .int x1), (2, .int x2)] → va_P D vwCl (wX6 cA ad thrown tape taped value weight many block ties lines pastValue pastWeight pastMany undos fresh newValue newWeight newMany newBlock newTies newLines hasBlock hasTies size att place sort number fault faultPlace lastFault lastPlace toValue toWeight toMany often firstOf lastOf unlikes unlikeMany isCandidate modes fewest) H → va_D A (wX6 cA ad thrown tape taped value weight many block ties lines pastValue pastWeight pastMany undos fresh newValue newWeight newMany newBlock newTies newLines hasBlock hasTies size att place sort number fault faultPlace lastFault lastPlace toValue toWeight toMany often firstOf lastOf unlikes unlikeMany isCandidate modes fewest) → va_S A s.heap H locs → mX6_wordHere_L97  n x2 = some z18 → (∀ (ls : Array Slot) (H : Heap) (locs : List Loc), lv_has ls 4 [(0, .ref (ad 0)), (1, .int x1), (2, .int z18)] → va_P D vwCl (wX6 cA ad thrown tape taped value weight many block ties lines pastValue pastWeight pastMany undos fresh newValue newWeight newMany newBlock newTies newLines hasBlock hasTies size att place sort number fault faultPlace lastFault lastPlace toValue toWeight toMany often firstOf lastOf unlikes unlikeMany isCandidate modes fewest) H → va_D A (wX6 cA ad thrown tape taped value weight many block ties lines pastValue pastWeight pastMany undos fresh newValue newWeight newMany newBlock newTies newLines hasBlock hasTies size att place sort number fault faultPlace lastFault lastPlace toValue toWeight toMany often firstOf lastOf unlikes unlikeMany isCandidate modes fewest) → va_S A s.heap H locs → W p l e (headSpec wsX6_wordHere { frames := 5, cells := 0, slots := 0, locals := 85 }).room s m args below meth c H locs 0 0 Q (F0 m 114 ls [])) → W p l e (headSpec wsX6_wordHere { frames := 5, cells := 0, slots := 0, locals := 85 }).room s m args below meth c H locs 0 0 Q (F0 m 97 ls []) := by
              intro n
              induction n with
              | zero => intro x1 x2 thrown tape taped value weight many block ties lines pastValue pastWeight pastMany undos fresh newValue newWeight newMany newBlock newTies newLines hasBlock hasTies size att place sort number fault faultPlace lastFault lastPlace toValue toWeight toMany often firstOf lastOf unlikes unlikeMany isCandidate modes fewest z18 ls H locs hl hP hD hS h hk97; exact e_n h
              | succ n ih97 =>
                intro x1 x2 thrown tape taped value weight many block ties lines pastValue pastWeight pastMany undos fresh newValue newWeight newMany newBlock newTies newLines hasBlock hasTies size att place sort number fault faultPlace lastFault lastPlace toValue toWeight toMany often firstOf lastOf unlikes unlikeMany isCandidate modes fewest z18 ls H locs hl hP hD hS h hk97
                rw [mX6_wordHere_L97.eq_2] at h
                refine va_ldcS hx hb hown hR.2.2.2.2.2.2.2.2.2.2.1 dX6_wordHere_97 ?_
                refine lv_iload_n hx hb dX6_wordHere_99 rfl (lv_at hl 2 rfl) ?_
                obtain ⟨v19, ev19, h⟩ := e_b h
                refine xv_ie (As := [.int x2]) (rest := []) (b := adK 10) hE hR ⟨hx, hb, hml, hown, hts⟩ hl.1 (kJ0_charAt l D cA adK adV 10 (by decide) x2 v19 ev19) (cwV 1 hts gX6_wordHere_J0_charAt_5068e rfl rfl rfl (by decide +kernel) ⟨Nat.le_of_ble_eq_true rfl, Nat.le_of_ble_eq_true rfl⟩) rfl hK hP hD hS hA (w_str hE hS (by decide)) [] rfl (by decide +kernel) rfl (Nat.le_of_ble_eq_true rfl) dX6_wordHere_100 ⟨Nat.zero_le _, Nat.zero_le _⟩ (fun H locs hP hD hS _ => ?_)
                have hP : va_P D vwCl (wX6 cA ad thrown tape taped value weight many block ties lines pastValue pastWeight pastMany undos fresh newValue newWeight newMany newBlock newTies newLines hasBlock hasTies size att place sort number fault faultPlace lastFault lastPlace toValue toWeight toMany often firstOf lastOf unlikes unlikeMany isCandidate modes fewest) H := hP
                have hD : va_D A (wX6 cA ad thrown tape taped value weight many block ties lines pastValue pastWeight pastMany undos fresh newValue newWeight newMany newBlock newTies newLines hasBlock hasTies size att place sort number fault faultPlace lastFault lastPlace toValue toWeight toMany often firstOf lastOf unlikes unlikeMany isCandidate modes fewest) := hD
                refine lv_bipush (v := 32) hx hb dX6_wordHere_103 (by decide) ?_
                refine lv_icmp_eq (tgt := 114) hx hb dX6_wordHere_105 (by decide) (fun c20 => ?_) (fun c20 => ?_)
                · have h := e_t c20 h
                  obtain rfl := e_s h
                  exact hk97 _ _ _ (lv_sub hl [0, 1, 2] rfl) hP hD hS
                · have h := e_f c20 h
                  refine lv_iinc (v := (x2 + 1)) (lv' := [(2, .int (x2 + 1)), (0, .ref (ad 0)), (1, .int x1)]) hx hb dX6_wordHere_108 hl (k := 2) rfl rfl (by decide) rfl (fun ls hl => ?_)
                  refine lv_goto (tgt := 97) hx hb dX6_wordHere_111 (by decide) ?_
                  exact ih97 x1 (x2 + 1) thrown tape taped value weight many block ties lines pastValue pastWeight pastMany undos fresh newValue newWeight newMany newBlock newTies newLines hasBlock hasTies size att place sort number fault faultPlace lastFault lastPlace toValue toWeight toMany often firstOf lastOf unlikes unlikeMany isCandidate modes fewest z18 _ _ _ (lv_sub hl [1, 2, 0] rfl) hP hD hS h hk97
            obtain ⟨z21, ez21, h⟩ := e_b h
            refine hL97 FU x1 x2 thrown tape taped value weight many block ties lines pastValue pastWeight pastMany undos fresh newValue newWeight newMany newBlock newTies newLines hasBlock hasTies size att place sort number fault faultPlace lastFault lastPlace toValue toWeight toMany often firstOf lastOf unlikes unlikeMany isCandidate modes fewest z21 _ _ _ (lv_sub hl [0, 1, 2] rfl) hP hD hS ez21 (fun ls H locs hl hP hD hS => ?_)
            refine lv_iinc (v := (z21 + 1)) (lv' := [(2, .int (z21 + 1)), (0, .ref (ad 0)), (1, .int x1)]) hx hb dX6_wordHere_114 hl (k := 2) rfl rfl (by decide) rfl (fun ls hl => ?_)
            refine lv_iinc (v := (x1 + 1)) (lv' := [(1, .int (x1 + 1)), (2, .int (z21 + 1)), (0, .ref (ad 0))]) hx hb dX6_wordHere_117 hl (k := 2) rfl rfl (by decide) rfl (fun ls hl => ?_)
            refine lv_goto (tgt := 4) hx hb dX6_wordHere_120 (by decide) ?_
            exact ih4 (x1 + 1) (z21 + 1) _ _ _ (lv_sub hl [2, 0, 1] rfl) hP hD hS h
          · have h := e_f (not_not_intro c17) h
            refine lv_iload_n hx hb dX6_wordHere_95 rfl (lv_at hl 1 rfl) ?_
            obtain rfl := e_s h
            exact hret hP hS rfl dX6_wordHere_96
  exact hL4 FU 0 0 _ _ _ (lv_sub hl [2, 1, 0] rfl) hP hD hS h
set_option maxHeartbeats 4000000 in
set_option maxRecDepth 100000 in
theorem kX6_token (l : Launch) (D : va_G) (cA : Nat → ClassId) (adK adV : Nat → Nat) (ad : Nat → Nat) (thrown : Int32) (tape : Nat → Int32) (taped : Int32) (value : Nat → Int32) (weight : Nat → Int32) (many : Int32) (block : Int32) (ties : Int32) (lines : Int32) (pastValue : Nat → Int32) (pastWeight : Nat → Int32) (pastMany : Nat → Int32) (undos : Int32) (fresh : Int32) (newValue : Nat → Int32) (newWeight : Nat → Int32) (newMany : Int32) (newBlock : Int32) (newTies : Int32) (newLines : Int32) (hasBlock : Int32) (hasTies : Int32) (size : Int32) (att : Int32) (place : Int32) (sort : Int32) (number : Int32) (fault : Int32) (faultPlace : Int32) (lastFault : Int32) (lastPlace : Int32) (toValue : Nat → Int32) (toWeight : Nat → Int32) (toMany : Int32) (often : Nat → Int32) (firstOf : Nat → Int32) (lastOf : Nat → Int32) (unlikes : Nat → Int32) (unlikeMany : Int32) (isCandidate : Nat → Int32) (modes : Nat → Int32) (fewest : Nat → Int32)  (q : Int32 × Int32 × Int32 × Int32) (h : mX6_token tape size att place sort number  = some q) : MVe l yX6_token wsX6_token { frames := 6, cells := 0, slots := 0, locals := 108 } D cA adK adV [.ref (ad 0)] (wX6 cA ad thrown tape taped value weight many block ties lines pastValue pastWeight pastMany undos fresh newValue newWeight newMany newBlock newTies newLines hasBlock hasTies size att place sort number fault faultPlace lastFault lastPlace toValue toWeight toMany often firstOf lastOf unlikes unlikeMany isCandidate modes fewest) (wX6 cA ad thrown tape taped value weight many block ties lines pastValue pastWeight pastMany undos fresh newValue newWeight newMany newBlock newTies newLines hasBlock hasTies size q.1 q.2.1 q.2.2.1 q.2.2.2 fault faultPlace lastFault lastPlace toValue toWeight toMany often firstOf lastOf unlikes unlikeMany isCandidate modes fewest) := by
  refine MVe.of (cc := cX6_token) (maxL := 2) (by decide) rfl rfl rfl (Nat.le_of_ble_eq_true rfl) ?_
  intro p e s m args below meth c A ls Q hx hb hml hts hown hK hP hD hA hS hE hR hl hret
  have hl : lv_has ls 2 [(0, .ref (ad 0))] := hl
  have f101 := hts (.fieldLink RX6 101 "ModeDeskModel" "number" "I") (by decide +kernel)
  have f78 := hts (.fieldLink RX6 78 "ModeDeskModel" "at" "I") (by decide +kernel)
  have f88 := hts (.fieldLink RX6 88 "ModeDeskModel" "place" "I") (by decide +kernel)
  have f91 := hts (.fieldLink RX6 91 "ModeDeskModel" "sort" "I") (by decide +kernel)
  have iX6 : ∀ w ∈ wsX60, w ∈ wsX6_token := by decide +kernel
  unfold mX6_token at h
  have hL0 : ∀ (n : Nat) (thrown : Int32) (tape : Nat → Int32) (taped : Int32) (value : Nat → Int32) (weight : Nat → Int32) (many : Int32) (block : Int32) (ties : Int32) (lines : Int32) (pastValue : Nat → Int32) (pastWeight : Nat → Int32) (pastMany : Nat → Int32) (undos : Int32) (fresh : Int32) (newValue : Nat → Int32) (newWeight : Nat → Int32) (newMany : Int32) (newBlock : Int32) (newTies : Int32) (newLines : Int32) (hasBlock : Int32) (hasTies : Int32) (size : Int32) (att : Int32) (place : Int32) (sort : Int32) (number : Int32) (fault : Int32) (faultPlace : Int32) (lastFault : Int32) (lastPlace : Int32) (toValue : Nat → Int32) (toWeight : Nat → Int32) (toMany : Int32) (often : Nat → Int32) (firstOf : Nat → Int32) (lastOf : Nat → Int32) (unlikes : Nat → Int32) (unlikeMany : Int32) (isCandidate : Nat → Int32) (modes : Nat → Int32) (fewest : Nat → Int32) (z1 : Int32) (ls : Array Slot) (H : Heap) (locs : List Loc), lv_has ls 2 [(0, .ref (ad 0))] → va_P D vwCl (wX6 cA ad thrown tape taped value weight many block ties lines pastValue pastWeight pastMany undos fresh newValue newWeight newMany newBlock newTies newLines hasBlock hasTies size att place sort number fault faultPlace lastFault lastPlace toValue toWeight toMany often firstOf lastOf unlikes unlikeMany isCandidate modes fewest) H → va_D A (wX6 cA ad thrown tape taped value weight many block ties lines pastValue pastWeight pastMany undos fresh newValue newWeight newMany newBlock newTies newLines hasBlock hasTies size att place sort number fault faultPlace lastFault lastPlace toValue toWeight toMany often firstOf lastOf unlikes unlikeMany isCandidate modes fewest) → va_S A s.heap H locs → mX6_token_L0 tape size n att = some z1 → (∀ (ls : Array Slot) (H : Heap) (locs : List Loc), lv_has ls 2 [(0, .ref (ad 0))] → va_P D vwCl (wX6 cA ad thrown tape taped value weight many block ties lines pastValue pastWeight pastMany undos fresh newValue newWeight newMany newBlock newTies newLines hasBlock hasTies size z1 place sort number fault faultPlace lastFault lastPlace toValue toWeight toMany often firstOf lastOf unlikes unlikeMany isCandidate modes fewest) H → va_D A (wX6 cA ad thrown tape taped value weight many block ties lines pastValue pastWeight pastMany undos fresh newValue newWeight newMany newBlock newTies newLines hasBlock hasTies size z1 place sort number fault faultPlace lastFault lastPlace toValue toWeight toMany often firstOf lastOf unlikes unlikeMany isCandidate modes fewest) → va_S A s.heap H locs → W p l e (headSpec wsX6_token { frames := 6, cells := 0, slots := 0, locals := 108 }).room s m args below meth c H locs 0 0 Q (F0 m 31 ls [])) → W p l e (headSpec wsX6_token { frames := 6, cells := 0, slots := 0, locals := 108 }).room s m args below meth c H locs 0 0 Q (F0 m 0 ls []) := by
    intro n
    induction n with
    | zero => intro thrown tape taped value weight many block ties lines pastValue pastWeight pastMany undos fresh newValue newWeight newMany newBlock newTies newLines hasBlock hasTies size att place sort number fault faultPlace lastFault lastPlace toValue toWeight toMany often firstOf lastOf unlikes unlikeMany isCandidate modes fewest z1 ls H locs hl hP hD hS h hk0; exact e_n h
    | succ n ih0 =>
      intro thrown tape taped value weight many block ties lines pastValue pastWeight pastMany undos fresh newValue newWeight newMany newBlock newTies newLines hasBlock hasTies size att place sort number fault faultPlace lastFault lastPlace toValue toWeight toMany often firstOf lastOf unlikes unlikeMany isCandidate modes fewest z1 ls H locs hl hP hD hS h hk0
      rw [mX6_token_L0.eq_2] at h
      refine lv_aload_n hx hb dX6_token_0 rfl (lv_at hl 0 rfl) ?_
      obtain ⟨q2, eq2, h⟩ := e_b h
      refine xv_i0 (As := []) (rest := []) (ci := 6) (b := ad 0) ⟨hx, hb, hml, hown, hts⟩ hl.1 (kX6_here l D cA ad thrown tape taped value weight many block ties lines pastValue pastWeight pastMany undos fresh newValue newWeight newMany newBlock newTies newLines hasBlock hasTies size att place sort number fault faultPlace lastFault lastPlace toValue toWeight toMany often firstOf lastOf unlikes unlikeMany isCandidate modes fewest   _ eq2) (cwV 0 hts gX6_token_X6_here rfl rfl rfl (by decide +kernel) ⟨Nat.le_of_ble_eq_true rfl, Nat.le_of_ble_eq_true rfl⟩) rfl hK hP hD hS hA 0 rfl rfl rfl rfl (Nat.le_of_ble_eq_true rfl) dX6_token_1 ⟨Nat.zero_le _, Nat.zero_le _⟩ (fun H locs hP hD hS hnq2 => ?_)
      have hP : va_P D vwCl (wX6 cA ad thrown tape taped value weight many block ties lines pastValue pastWeight pastMany undos fresh newValue newWeight newMany newBlock newTies newLines hasBlock hasTies size att place sort number fault faultPlace lastFault lastPlace toValue toWeight toMany often firstOf lastOf unlikes unlikeMany isCandidate modes fewest) H := hP
      have hD : va_D A (wX6 cA ad thrown tape taped value weight many block ties lines pastValue pastWeight pastMany undos fresh newValue newWeight newMany newBlock newTies newLines hasBlock hasTies size att place sort number fault faultPlace lastFault lastPlace toValue toWeight toMany often firstOf lastOf unlikes unlikeMany isCandidate modes fewest) := hD
      refine lv_bipush (v := 10) hx hb dX6_token_4 (by decide) ?_
      refine lv_icmp_eq (tgt := 18) hx hb dX6_token_6 (by decide) (fun c3 => ?_) (fun c3 => ?_)
      · have h := e_t c3 h
        refine lv_aload_n hx hb dX6_token_18 rfl (lv_at hl 0 rfl) ?_
        refine lv_dup hx hb dX6_token_19 rfl ?_
        refine va_get (D := D) (ci := 6) (v := .int att) (C := RX6) (T := TX6) (N := 42) hx hb hts iX6 hown hK hP 0 rfl rfl 23 (Nat.le_of_ble_eq_true rfl) f78 (fun _ h9 => h9) rfl dX6_token_20 ?_
        refine lv_iconst (v := 1) hx hb dX6_token_23 (by decide) ?_
        refine lv_iadd hx hb dX6_token_24 ?_
        refine va_put (D := D) (ci := 6) (v := .int (att + 1)) (ty := .int) (C := RX6) (T := TX6) (N := 42) hx hb hts iX6 tyX6 tyX6_ok nmX6 hown hK hP hD hS 0 rfl rfl 23 (Nat.le_of_ble_eq_true rfl) f78 (fun _ h9 => h9) rfl (tyX6_ok 23 (Nat.le_of_ble_eq_true rfl)) rfl rfl (Nat.le_of_ble_eq_true rfl) dX6_token_25 (fun H locs hP hD hS => ?_)
        have hP : va_P D vwCl (wX6 cA ad thrown tape taped value weight many block ties lines pastValue pastWeight pastMany undos fresh newValue newWeight newMany newBlock newTies newLines hasBlock hasTies size (att + 1) place sort number fault faultPlace lastFault lastPlace toValue toWeight toMany often firstOf lastOf unlikes unlikeMany isCandidate modes fewest) H := hP
        have hD : va_D A (wX6 cA ad thrown tape taped value weight many block ties lines pastValue pastWeight pastMany undos fresh newValue newWeight newMany newBlock newTies newLines hasBlock hasTies size (att + 1) place sort number fault faultPlace lastFault lastPlace toValue toWeight toMany often firstOf lastOf unlikes unlikeMany isCandidate modes fewest) := hD
        refine lv_goto (tgt := 0) hx hb dX6_token_28 (by decide) ?_
        exact ih0 thrown tape taped value weight many block ties lines pastValue pastWeight pastMany undos fresh newValue newWeight newMany newBlock newTies newLines hasBlock hasTies size (att + 1) place sort number fault faultPlace lastFault lastPlace toValue toWeight toMany often firstOf lastOf unlikes unlikeMany isCandidate modes fewest z1 _ _ _ (lv_sub hl [0] rfl) hP hD hS h hk0
      · have h := e_f c3 h
        refine lv_aload_n hx hb dX6_token_9 rfl (lv_at hl 0 rfl) ?_
        obtain ⟨q4, eq4, h⟩ := e_b h
        refine xv_i0 (As := []) (rest := []) (ci := 6) (b := ad 0) ⟨hx, hb, hml, hown, hts⟩ hl.1 (kX6_here l D cA ad thrown tape taped value weight many block ties lines pastValue pastWeight pastMany undos fresh newValue newWeight newMany newBlock newTies newLines hasBlock hasTies size att place sort number fault faultPlace lastFault lastPlace toValue toWeight toMany often firstOf lastOf unlikes unlikeMany isCandidate modes fewest   _ eq4) (cwV 0 hts gX6_token_X6_here rfl rfl rfl (by decide +kernel) ⟨Nat.le_of_ble_eq_true rfl, Nat.le_of_ble_eq_true rfl⟩) rfl hK hP hD hS hA 0 rfl rfl rfl rfl (Nat.le_of_ble_eq_true rfl) dX6_token_10 ⟨Nat.zero_le _, Nat.zero_le _⟩ (fun H locs hP hD hS hnq4 => ?_)
        have hP : va_P D vwCl (wX6 cA ad thrown tape taped value weight many block ties lines pastValue pastWeight pastMany undos fresh newValue newWeight newMany newBlock newTies newLines hasBlock hasTies size att place sort number fault faultPlace lastFault lastPlace toValue toWeight toMany often firstOf lastOf unlikes unlikeMany isCandidate modes fewest) H := hP
        have hD : va_D A (wX6 cA ad thrown tape taped value weight many block ties lines pastValue pastWeight pastMany undos fresh newValue newWeight newMany newBlock newTies newLines hasBlock hasTies size att place sort number fault faultPlace lastFault lastPlace toValue toWeight toMany often firstOf lastOf unlikes unlikeMany isCandidate modes fewest) := hD
        refine lv_bipush (v := 32) hx hb dX6_token_13 (by decide) ?_
        refine lv_icmp_ne (tgt := 31) hx hb dX6_token_15 (by decide) (fun c5 => ?_) (fun c5 => ?_)
        · have h := e_t c5 h
          obtain rfl := e_s h
          exact hk0 _ _ _ (lv_sub hl [0] rfl) hP hD hS
        · have h := e_f (not_not_intro c5) h
          refine lv_aload_n hx hb dX6_token_18 rfl (lv_at hl 0 rfl) ?_
          refine lv_dup hx hb dX6_token_19 rfl ?_
          refine va_get (D := D) (ci := 6) (v := .int att) (C := RX6) (T := TX6) (N := 42) hx hb hts iX6 hown hK hP 0 rfl rfl 23 (Nat.le_of_ble_eq_true rfl) f78 (fun _ h9 => h9) rfl dX6_token_20 ?_
          refine lv_iconst (v := 1) hx hb dX6_token_23 (by decide) ?_
          refine lv_iadd hx hb dX6_token_24 ?_
          refine va_put (D := D) (ci := 6) (v := .int (att + 1)) (ty := .int) (C := RX6) (T := TX6) (N := 42) hx hb hts iX6 tyX6 tyX6_ok nmX6 hown hK hP hD hS 0 rfl rfl 23 (Nat.le_of_ble_eq_true rfl) f78 (fun _ h9 => h9) rfl (tyX6_ok 23 (Nat.le_of_ble_eq_true rfl)) rfl rfl (Nat.le_of_ble_eq_true rfl) dX6_token_25 (fun H locs hP hD hS => ?_)
          have hP : va_P D vwCl (wX6 cA ad thrown tape taped value weight many block ties lines pastValue pastWeight pastMany undos fresh newValue newWeight newMany newBlock newTies newLines hasBlock hasTies size (att + 1) place sort number fault faultPlace lastFault lastPlace toValue toWeight toMany often firstOf lastOf unlikes unlikeMany isCandidate modes fewest) H := hP
          have hD : va_D A (wX6 cA ad thrown tape taped value weight many block ties lines pastValue pastWeight pastMany undos fresh newValue newWeight newMany newBlock newTies newLines hasBlock hasTies size (att + 1) place sort number fault faultPlace lastFault lastPlace toValue toWeight toMany often firstOf lastOf unlikes unlikeMany isCandidate modes fewest) := hD
          refine lv_goto (tgt := 0) hx hb dX6_token_28 (by decide) ?_
          exact ih0 thrown tape taped value weight many block ties lines pastValue pastWeight pastMany undos fresh newValue newWeight newMany newBlock newTies newLines hasBlock hasTies size (att + 1) place sort number fault faultPlace lastFault lastPlace toValue toWeight toMany often firstOf lastOf unlikes unlikeMany isCandidate modes fewest z1 _ _ _ (lv_sub hl [0] rfl) hP hD hS h hk0
  obtain ⟨z6, ez6, h⟩ := e_b h
  refine hL0 FU thrown tape taped value weight many block ties lines pastValue pastWeight pastMany undos fresh newValue newWeight newMany newBlock newTies newLines hasBlock hasTies size att place sort number fault faultPlace lastFault lastPlace toValue toWeight toMany often firstOf lastOf unlikes unlikeMany isCandidate modes fewest z6 _ _ _ (lv_sub hl [0] rfl) hP hD hS ez6 (fun ls H locs hl hP hD hS => ?_)
  refine lv_aload_n hx hb dX6_token_31 rfl (lv_at hl 0 rfl) ?_
  refine lv_aload_n hx hb dX6_token_32 rfl (lv_at hl 0 rfl) ?_
  refine va_get (D := D) (ci := 6) (v := .int z6) (C := RX6) (T := TX6) (N := 42) hx hb hts iX6 hown hK hP 0 rfl rfl 23 (Nat.le_of_ble_eq_true rfl) f78 (fun _ h9 => h9) rfl dX6_token_33 ?_
  refine va_put (D := D) (ci := 6) (v := .int z6) (ty := .int) (C := RX6) (T := TX6) (N := 42) hx hb hts iX6 tyX6 tyX6_ok nmX6 hown hK hP hD hS 0 rfl rfl 24 (Nat.le_of_ble_eq_true rfl) f88 (fun _ h9 => h9) rfl (tyX6_ok 24 (Nat.le_of_ble_eq_true rfl)) rfl rfl (Nat.le_of_ble_eq_true rfl) dX6_token_36 (fun H locs hP hD hS => ?_)
  have hP : va_P D vwCl (wX6 cA ad thrown tape taped value weight many block ties lines pastValue pastWeight pastMany undos fresh newValue newWeight newMany newBlock newTies newLines hasBlock hasTies size z6 z6 sort number fault faultPlace lastFault lastPlace toValue toWeight toMany often firstOf lastOf unlikes unlikeMany isCandidate modes fewest) H := hP
  have hD : va_D A (wX6 cA ad thrown tape taped value weight many block ties lines pastValue pastWeight pastMany undos fresh newValue newWeight newMany newBlock newTies newLines hasBlock hasTies size z6 z6 sort number fault faultPlace lastFault lastPlace toValue toWeight toMany often firstOf lastOf unlikes unlikeMany isCandidate modes fewest) := hD
  refine lv_aload_n hx hb dX6_token_39 rfl (lv_at hl 0 rfl) ?_
  obtain ⟨q7, eq7, h⟩ := e_b h
  refine xv_i0 (As := []) (rest := []) (ci := 6) (b := ad 0) ⟨hx, hb, hml, hown, hts⟩ hl.1 (kX6_here l D cA ad thrown tape taped value weight many block ties lines pastValue pastWeight pastMany undos fresh newValue newWeight newMany newBlock newTies newLines hasBlock hasTies size z6 z6 sort number fault faultPlace lastFault lastPlace toValue toWeight toMany often firstOf lastOf unlikes unlikeMany isCandidate modes fewest   _ eq7) (cwV 0 hts gX6_token_X6_here rfl rfl rfl (by decide +kernel) ⟨Nat.le_of_ble_eq_true rfl, Nat.le_of_ble_eq_true rfl⟩) rfl hK hP hD hS hA 0 rfl rfl rfl rfl (Nat.le_of_ble_eq_true rfl) dX6_token_40 ⟨Nat.zero_le _, Nat.zero_le _⟩ (fun H locs hP hD hS hnq7 => ?_)
  have hP : va_P D vwCl (wX6 cA ad thrown tape taped value weight many block ties lines pastValue pastWeight pastMany undos fresh newValue newWeight newMany newBlock newTies newLines hasBlock hasTies size z6 z6 sort number fault faultPlace lastFault lastPlace toValue toWeight toMany often firstOf lastOf unlikes unlikeMany isCandidate modes fewest) H := hP
  have hD : va_D A (wX6 cA ad thrown tape taped value weight many block ties lines pastValue pastWeight pastMany undos fresh newValue newWeight newMany newBlock newTies newLines hasBlock hasTies size z6 z6 sort number fault faultPlace lastFault lastPlace toValue toWeight toMany often firstOf lastOf unlikes unlikeMany isCandidate modes fewest) := hD
  refine lv_istore_n (lv' := [(1, .int q7), (0, .ref (ad 0))]) hx hb dX6_token_43 rfl hl (by decide) rfl (fun ls hl => ?_)
  refine lv_iload_n hx hb dX6_token_44 rfl (lv_at hl 0 rfl) ?_
  refine lv_iconst (v := (-1)) hx hb dX6_token_45 (by decide) ?_
  refine lv_icmp_ne (tgt := 57) hx hb dX6_token_46 (by decide) (fun c8 => ?_) (fun c8 => ?_)
  · have h := e_t c8 h
    refine lv_iload_n hx hb dX6_token_57 rfl (lv_at hl 0 rfl) ?_
    obtain ⟨q9, eq9, h⟩ := e_b h
    refine xs_i (As := [.int q7]) (rest := []) ⟨hx, hb, hml, hown, hts⟩ hl.1 (kX6_isSmall l D cA   q7  _ eq9) (va_cwS 1 hts gX6_token_X6_isSmall rfl rfl rfl (by decide +kernel) ⟨Nat.le_of_ble_eq_true rfl, Nat.le_of_ble_eq_true rfl⟩) rfl hK hP hD hS hA [] rfl (by decide +kernel) rfl (Nat.le_of_ble_eq_true rfl) dX6_token_58 ⟨Nat.zero_le _, Nat.zero_le _⟩ (fun H locs hP hD hS hnq9 => ?_)
    have hP : va_P D vwCl (wX6 cA ad thrown tape taped value weight many block ties lines pastValue pastWeight pastMany undos fresh newValue newWeight newMany newBlock newTies newLines hasBlock hasTies size z6 z6 sort number fault faultPlace lastFault lastPlace toValue toWeight toMany often firstOf lastOf unlikes unlikeMany isCandidate modes fewest) H := hP
    have hD : va_D A (wX6 cA ad thrown tape taped value weight many block ties lines pastValue pastWeight pastMany undos fresh newValue newWeight newMany newBlock newTies newLines hasBlock hasTies size z6 z6 sort number fault faultPlace lastFault lastPlace toValue toWeight toMany often firstOf lastOf unlikes unlikeMany isCandidate modes fewest) := hD
    refine lv_if_eq (tgt := 103) hx hb dX6_token_61 (by decide) (fun c10 => ?_) (fun c10 => ?_)
    · have h := e_t c10 h
      refine lv_iload_n hx hb dX6_token_103 rfl (lv_at hl 0 rfl) ?_
      obtain ⟨q11, eq11, h⟩ := e_b h
      refine xs_i (As := [.int q7]) (rest := []) ⟨hx, hb, hml, hown, hts⟩ hl.1 (kX6_isDigit l D cA   q7  _ eq11) (va_cwS 1 hts gX6_token_X6_isDigit rfl rfl rfl (by decide +kernel) ⟨Nat.le_of_ble_eq_true rfl, Nat.le_of_ble_eq_true rfl⟩) rfl hK hP hD hS hA [] rfl (by decide +kernel) rfl (Nat.le_of_ble_eq_true rfl) dX6_token_104 ⟨Nat.zero_le _, Nat.zero_le _⟩ (fun H locs hP hD hS hnq11 => ?_)
      have hP : va_P D vwCl (wX6 cA ad thrown tape taped value weight many block ties lines pastValue pastWeight pastMany undos fresh newValue newWeight newMany newBlock newTies newLines hasBlock hasTies size z6 z6 sort number fault faultPlace lastFault lastPlace toValue toWeight toMany often firstOf lastOf unlikes unlikeMany isCandidate modes fewest) H := hP
      have hD : va_D A (wX6 cA ad thrown tape taped value weight many block ties lines pastValue pastWeight pastMany undos fresh newValue newWeight newMany newBlock newTies newLines hasBlock hasTies size z6 z6 sort number fault faultPlace lastFault lastPlace toValue toWeight toMany often firstOf lastOf unlikes unlikeMany isCandidate modes fewest) := hD
      refine lv_if_eq (tgt := 179) hx hb dX6_token_107 (by decide) (fun c12 => ?_) (fun c12 => ?_)
      · have h := e_t c12 h
        refine lv_aload_n hx hb dX6_token_179 rfl (lv_at hl 1 rfl) ?_
        refine lv_iload_n hx hb dX6_token_180 rfl (lv_at hl 0 rfl) ?_
        refine lv_bipush (v := 59) hx hb dX6_token_181 (by decide) ?_
        obtain ⟨z13, ez13, h⟩ := e_b h
        have hJ14 : ∀ (ls : Array Slot) (H : Heap) (locs : List Loc), lv_has ls 2 [(0, .ref (ad 0))] → va_P D vwCl (wX6 cA ad thrown tape taped value weight many block ties lines pastValue pastWeight pastMany undos fresh newValue newWeight newMany newBlock newTies newLines hasBlock hasTies size z6 z6 sort number fault faultPlace lastFault lastPlace toValue toWeight toMany often firstOf lastOf unlikes unlikeMany isCandidate modes fewest) H → va_D A (wX6 cA ad thrown tape taped value weight many block ties lines pastValue pastWeight pastMany undos fresh newValue newWeight newMany newBlock newTies newLines hasBlock hasTies size z6 z6 sort number fault faultPlace lastFault lastPlace toValue toWeight toMany often firstOf lastOf unlikes unlikeMany isCandidate modes fewest) → va_S A s.heap H locs → W p l e (headSpec wsX6_token { frames := 6, cells := 0, slots := 0, locals := 108 }).room s m args below meth c H locs 0 0 Q (F0 m 191 ls [.int z13, .ref (ad 0)]) := by
          intro ls H locs hl hP hD hS
          refine va_put (D := D) (ci := 6) (v := .int z13) (ty := .int) (C := RX6) (T := TX6) (N := 42) hx hb hts iX6 tyX6 tyX6_ok nmX6 hown hK hP hD hS 0 rfl rfl 25 (Nat.le_of_ble_eq_true rfl) f91 (fun _ h9 => h9) rfl (tyX6_ok 25 (Nat.le_of_ble_eq_true rfl)) rfl rfl (Nat.le_of_ble_eq_true rfl) dX6_token_191 (fun H locs hP hD hS => ?_)
          have hP : va_P D vwCl (wX6 cA ad thrown tape taped value weight many block ties lines pastValue pastWeight pastMany undos fresh newValue newWeight newMany newBlock newTies newLines hasBlock hasTies size z6 z6 z13 number fault faultPlace lastFault lastPlace toValue toWeight toMany often firstOf lastOf unlikes unlikeMany isCandidate modes fewest) H := hP
          have hD : va_D A (wX6 cA ad thrown tape taped value weight many block ties lines pastValue pastWeight pastMany undos fresh newValue newWeight newMany newBlock newTies newLines hasBlock hasTies size z6 z6 z13 number fault faultPlace lastFault lastPlace toValue toWeight toMany often firstOf lastOf unlikes unlikeMany isCandidate modes fewest) := hD
          refine lv_aload_n hx hb dX6_token_194 rfl (lv_at hl 0 rfl) ?_
          refine lv_dup hx hb dX6_token_195 rfl ?_
          refine va_get (D := D) (ci := 6) (v := .int z6) (C := RX6) (T := TX6) (N := 42) hx hb hts iX6 hown hK hP 0 rfl rfl 23 (Nat.le_of_ble_eq_true rfl) f78 (fun _ h9 => h9) rfl dX6_token_196 ?_
          refine lv_iconst (v := 1) hx hb dX6_token_199 (by decide) ?_
          refine lv_iadd hx hb dX6_token_200 ?_
          refine va_put (D := D) (ci := 6) (v := .int (z6 + 1)) (ty := .int) (C := RX6) (T := TX6) (N := 42) hx hb hts iX6 tyX6 tyX6_ok nmX6 hown hK hP hD hS 0 rfl rfl 23 (Nat.le_of_ble_eq_true rfl) f78 (fun _ h9 => h9) rfl (tyX6_ok 23 (Nat.le_of_ble_eq_true rfl)) rfl rfl (Nat.le_of_ble_eq_true rfl) dX6_token_201 (fun H locs hP hD hS => ?_)
          have hP : va_P D vwCl (wX6 cA ad thrown tape taped value weight many block ties lines pastValue pastWeight pastMany undos fresh newValue newWeight newMany newBlock newTies newLines hasBlock hasTies size (z6 + 1) z6 z13 number fault faultPlace lastFault lastPlace toValue toWeight toMany often firstOf lastOf unlikes unlikeMany isCandidate modes fewest) H := hP
          have hD : va_D A (wX6 cA ad thrown tape taped value weight many block ties lines pastValue pastWeight pastMany undos fresh newValue newWeight newMany newBlock newTies newLines hasBlock hasTies size (z6 + 1) z6 z13 number fault faultPlace lastFault lastPlace toValue toWeight toMany often firstOf lastOf unlikes unlikeMany isCandidate modes fewest) := hD
          obtain rfl := e_s h
          exact hret hP hS dX6_token_204
        have h := ez13
        refine lv_icmp_ne (tgt := 190) hx hb dX6_token_183 (by decide) (fun c15 => ?_) (fun c15 => ?_)
        · have h := e_t c15 h
          refine lv_iconst (v := 4) hx hb dX6_token_190 (by decide) ?_
          obtain rfl := e_s h
          exact hJ14 _ _ _ (lv_sub hl [1] rfl) hP hD hS
        · have h := e_f (not_not_intro c15) h
          refine lv_iconst (v := 2) hx hb dX6_token_186 (by decide) ?_
          refine lv_goto (tgt := 191) hx hb dX6_token_187 (by decide) ?_
          obtain rfl := e_s h
          exact hJ14 _ _ _ (lv_sub hl [1] rfl) hP hD hS
      · have h := e_f c12 h
        refine lv_aload_n hx hb dX6_token_110 rfl (lv_at hl 1 rfl) ?_
        refine lv_iconst (v := 1) hx hb dX6_token_111 (by decide) ?_
        refine va_put (D := D) (ci := 6) (v := .int 1) (ty := .int) (C := RX6) (T := TX6) (N := 42) hx hb hts iX6 tyX6 tyX6_ok nmX6 hown hK hP hD hS 0 rfl rfl 25 (Nat.le_of_ble_eq_true rfl) f91 (fun _ h9 => h9) rfl (tyX6_ok 25 (Nat.le_of_ble_eq_true rfl)) rfl rfl (Nat.le_of_ble_eq_true rfl) dX6_token_112 (fun H locs hP hD hS => ?_)
        have hP : va_P D vwCl (wX6 cA ad thrown tape taped value weight many block ties lines pastValue pastWeight pastMany undos fresh newValue newWeight newMany newBlock newTies newLines hasBlock hasTies size z6 z6 1 number fault faultPlace lastFault lastPlace toValue toWeight toMany often firstOf lastOf unlikes unlikeMany isCandidate modes fewest) H := hP
        have hD : va_D A (wX6 cA ad thrown tape taped value weight many block ties lines pastValue pastWeight pastMany undos fresh newValue newWeight newMany newBlock newTies newLines hasBlock hasTies size z6 z6 1 number fault faultPlace lastFault lastPlace toValue toWeight toMany often firstOf lastOf unlikes unlikeMany isCandidate modes fewest) := hD
        refine lv_aload_n hx hb dX6_token_115 rfl (lv_at hl 1 rfl) ?_
        refine lv_iconst (v := 0) hx hb dX6_token_116 (by decide) ?_
        refine va_put (D := D) (ci := 6) (v := .int 0) (ty := .int) (C := RX6) (T := TX6) (N := 42) hx hb hts iX6 tyX6 tyX6_ok nmX6 hown hK hP hD hS 0 rfl rfl 26 (Nat.le_of_ble_eq_true rfl) f101 (fun _ h9 => h9) rfl (tyX6_ok 26 (Nat.le_of_ble_eq_true rfl)) rfl rfl (Nat.le_of_ble_eq_true rfl) dX6_token_117 (fun H locs hP hD hS => ?_)
        have hP : va_P D vwCl (wX6 cA ad thrown tape taped value weight many block ties lines pastValue pastWeight pastMany undos fresh newValue newWeight newMany newBlock newTies newLines hasBlock hasTies size z6 z6 1 0 fault faultPlace lastFault lastPlace toValue toWeight toMany often firstOf lastOf unlikes unlikeMany isCandidate modes fewest) H := hP
        have hD : va_D A (wX6 cA ad thrown tape taped value weight many block ties lines pastValue pastWeight pastMany undos fresh newValue newWeight newMany newBlock newTies newLines hasBlock hasTies size z6 z6 1 0 fault faultPlace lastFault lastPlace toValue toWeight toMany often firstOf lastOf unlikes unlikeMany isCandidate modes fewest) := hD
        have hL120 : ∀ (n : Nat) (thrown : Int32) (tape : Nat → Int32) (taped : Int32) (value : Nat → Int32) (weight : Nat → Int32) (many : Int32) (block : Int32) (ties : Int32) (lines : Int32) (pastValue : Nat → Int32) (pastWeight : Nat → Int32) (pastMany : Nat → Int32) (undos : Int32) (fresh : Int32) (newValue : Nat → Int32) (newWeight : Nat → Int32) (newMany : Int32) (newBlock : Int32) (newTies : Int32) (newLines : Int32) (hasBlock : Int32) (hasTies : Int32) (size : Int32) (att : Int32) (place : Int32) (sort : Int32) (number : Int32) (fault : Int32) (faultPlace : Int32) (lastFault : Int32) (lastPlace : Int32) (toValue : Nat → Int32) (toWeight : Nat → Int32) (toMany : Int32) (often : Nat → Int32) (firstOf : Nat → Int32) (lastOf : Nat → Int32) (unlikes : Nat → Int32) (unlikeMany : Int32) (isCandidate : Nat → Int32) (modes : Nat → Int32) (fewest : Nat → Int32) (z16 : Int32 × Int32) (ls : Array Slot) (H : Heap) (locs : List Loc), lv_has ls 2 [(0, .ref (ad 0))] → va_P D vwCl (wX6 cA ad thrown tape taped value weight many block ties lines pastValue pastWeight pastMany undos fresh newValue newWeight newMany newBlock newTies newLines hasBlock hasTies size att place sort number fault faultPlace lastFault lastPlace toValue toWeight toMany often firstOf lastOf unlikes unlikeMany isCandidate modes fewest) H → va_D A (wX6 cA ad thrown tape taped value weight many block ties lines pastValue pastWeight pastMany undos fresh newValue newWeight newMany newBlock newTies newLines hasBlock hasTies size att place sort number fault faultPlace lastFault lastPlace toValue toWeight toMany often firstOf lastOf unlikes unlikeMany isCandidate modes fewest) → va_S A s.heap H locs → mX6_token_L120 tape size n att number = some z16 → (∀ (ls : Array Slot) (H : Heap) (locs : List Loc), lv_has ls 2 [] → va_P D vwCl (wX6 cA ad thrown tape taped value weight many block ties lines pastValue pastWeight pastMany undos fresh newValue newWeight newMany newBlock newTies newLines hasBlock hasTies size z16.1 place sort z16.2 fault faultPlace lastFault lastPlace toValue toWeight toMany often firstOf lastOf unlikes unlikeMany isCandidate modes fewest) H → va_D A (wX6 cA ad thrown tape taped value weight many block ties lines pastValue pastWeight pastMany undos fresh newValue newWeight newMany newBlock newTies newLines hasBlock hasTies size z16.1 place sort z16.2 fault faultPlace lastFault lastPlace toValue toWeight toMany often firstOf lastOf unlikes unlikeMany isCandidate modes fewest) → va_S A s.heap H locs → W p l e (headSpec wsX6_token { frames := 6, cells := 0, slots := 0, locals := 108 }).room s m args below meth c H locs 0 0 Q (F0 m 204 ls [])) → W p l e (headSpec wsX6_token { frames := 6, cells := 0, slots := 0, locals := 108 }).room s m args below meth c H locs 0 0 Q (F0 m 120 ls []) := by
          intro n
          induction n with
          | zero => intro thrown tape taped value weight many block ties lines pastValue pastWeight pastMany undos fresh newValue newWeight newMany newBlock newTies newLines hasBlock hasTies size att place sort number fault faultPlace lastFault lastPlace toValue toWeight toMany often firstOf lastOf unlikes unlikeMany isCandidate modes fewest z16 ls H locs hl hP hD hS h hk120; exact e_n h
          | succ n ih120 =>
            intro thrown tape taped value weight many block ties lines pastValue pastWeight pastMany undos fresh newValue newWeight newMany newBlock newTies newLines hasBlock hasTies size att place sort number fault faultPlace lastFault lastPlace toValue toWeight toMany often firstOf lastOf unlikes unlikeMany isCandidate modes fewest z16 ls H locs hl hP hD hS h hk120
            rw [mX6_token_L120.eq_2] at h
            refine lv_aload_n hx hb dX6_token_120 rfl (lv_at hl 0 rfl) ?_
            obtain ⟨q17, eq17, h⟩ := e_b h
            refine xv_i0 (As := []) (rest := []) (ci := 6) (b := ad 0) ⟨hx, hb, hml, hown, hts⟩ hl.1 (kX6_here l D cA ad thrown tape taped value weight many block ties lines pastValue pastWeight pastMany undos fresh newValue newWeight newMany newBlock newTies newLines hasBlock hasTies size att place sort number fault faultPlace lastFault lastPlace toValue toWeight toMany often firstOf lastOf unlikes unlikeMany isCandidate modes fewest   _ eq17) (cwV 0 hts gX6_token_X6_here rfl rfl rfl (by decide +kernel) ⟨Nat.le_of_ble_eq_true rfl, Nat.le_of_ble_eq_true rfl⟩) rfl hK hP hD hS hA 0 rfl rfl rfl rfl (Nat.le_of_ble_eq_true rfl) dX6_token_121 ⟨Nat.zero_le _, Nat.zero_le _⟩ (fun H locs hP hD hS hnq17 => ?_)
            have hP : va_P D vwCl (wX6 cA ad thrown tape taped value weight many block ties lines pastValue pastWeight pastMany undos fresh newValue newWeight newMany newBlock newTies newLines hasBlock hasTies size att place sort number fault faultPlace lastFault lastPlace toValue toWeight toMany often firstOf lastOf unlikes unlikeMany isCandidate modes fewest) H := hP
            have hD : va_D A (wX6 cA ad thrown tape taped value weight many block ties lines pastValue pastWeight pastMany undos fresh newValue newWeight newMany newBlock newTies newLines hasBlock hasTies size att place sort number fault faultPlace lastFault lastPlace toValue toWeight toMany often firstOf lastOf unlikes unlikeMany isCandidate modes fewest) := hD
            obtain ⟨q18, eq18, h⟩ := e_b h
            refine xs_i (As := [.int q17]) (rest := []) ⟨hx, hb, hml, hown, hts⟩ hl.1 (kX6_isDigit l D cA   q17  _ eq18) (va_cwS 1 hts gX6_token_X6_isDigit rfl rfl rfl (by decide +kernel) ⟨Nat.le_of_ble_eq_true rfl, Nat.le_of_ble_eq_true rfl⟩) rfl hK hP hD hS hA [] rfl (by decide +kernel) rfl (Nat.le_of_ble_eq_true rfl) dX6_token_124 ⟨Nat.zero_le _, Nat.zero_le _⟩ (fun H locs hP hD hS hnq18 => ?_)
            have hP : va_P D vwCl (wX6 cA ad thrown tape taped value weight many block ties lines pastValue pastWeight pastMany undos fresh newValue newWeight newMany newBlock newTies newLines hasBlock hasTies size att place sort number fault faultPlace lastFault lastPlace toValue toWeight toMany often firstOf lastOf unlikes unlikeMany isCandidate modes fewest) H := hP
            have hD : va_D A (wX6 cA ad thrown tape taped value weight many block ties lines pastValue pastWeight pastMany undos fresh newValue newWeight newMany newBlock newTies newLines hasBlock hasTies size att place sort number fault faultPlace lastFault lastPlace toValue toWeight toMany often firstOf lastOf unlikes unlikeMany isCandidate modes fewest) := hD
            refine lv_if_eq (tgt := 204) hx hb dX6_token_127 (by decide) (fun c19 => ?_) (fun c19 => ?_)
            · have h := e_t c19 h
              obtain rfl := e_s h
              exact hk120 _ _ _ (lv_sub hl [] rfl) hP hD hS
            · have h := e_f c19 h
              refine lv_aload_n hx hb dX6_token_130 rfl (lv_at hl 0 rfl) ?_
              refine lv_aload_n hx hb dX6_token_131 rfl (lv_at hl 0 rfl) ?_
              refine va_get (D := D) (ci := 6) (v := .int number) (C := RX6) (T := TX6) (N := 42) hx hb hts iX6 hown hK hP 0 rfl rfl 26 (Nat.le_of_ble_eq_true rfl) f101 (fun _ h9 => h9) rfl dX6_token_132 ?_
              refine lv_sipush (v := 9999) hx hb dX6_token_135 (by decide) ?_
              obtain ⟨z20, ez20, h⟩ := e_b h
              have hJ21 : ∀ (ls : Array Slot) (H : Heap) (locs : List Loc), lv_has ls 2 [(0, .ref (ad 0))] → va_P D vwCl (wX6 cA ad thrown tape taped value weight many block ties lines pastValue pastWeight pastMany undos fresh newValue newWeight newMany newBlock newTies newLines hasBlock hasTies size att place sort number fault faultPlace lastFault lastPlace toValue toWeight toMany often firstOf lastOf unlikes unlikeMany isCandidate modes fewest) H → va_D A (wX6 cA ad thrown tape taped value weight many block ties lines pastValue pastWeight pastMany undos fresh newValue newWeight newMany newBlock newTies newLines hasBlock hasTies size att place sort number fault faultPlace lastFault lastPlace toValue toWeight toMany often firstOf lastOf unlikes unlikeMany isCandidate modes fewest) → va_S A s.heap H locs → W p l e (headSpec wsX6_token { frames := 6, cells := 0, slots := 0, locals := 108 }).room s m args below meth c H locs 0 0 Q (F0 m 163 ls [.int z20, .ref (ad 0)]) := by
                intro ls H locs hl hP hD hS
                refine va_put (D := D) (ci := 6) (v := .int z20) (ty := .int) (C := RX6) (T := TX6) (N := 42) hx hb hts iX6 tyX6 tyX6_ok nmX6 hown hK hP hD hS 0 rfl rfl 26 (Nat.le_of_ble_eq_true rfl) f101 (fun _ h9 => h9) rfl (tyX6_ok 26 (Nat.le_of_ble_eq_true rfl)) rfl rfl (Nat.le_of_ble_eq_true rfl) dX6_token_163 (fun H locs hP hD hS => ?_)
                have hP : va_P D vwCl (wX6 cA ad thrown tape taped value weight many block ties lines pastValue pastWeight pastMany undos fresh newValue newWeight newMany newBlock newTies newLines hasBlock hasTies size att place sort z20 fault faultPlace lastFault lastPlace toValue toWeight toMany often firstOf lastOf unlikes unlikeMany isCandidate modes fewest) H := hP
                have hD : va_D A (wX6 cA ad thrown tape taped value weight many block ties lines pastValue pastWeight pastMany undos fresh newValue newWeight newMany newBlock newTies newLines hasBlock hasTies size att place sort z20 fault faultPlace lastFault lastPlace toValue toWeight toMany often firstOf lastOf unlikes unlikeMany isCandidate modes fewest) := hD
                refine lv_aload_n hx hb dX6_token_166 rfl (lv_at hl 0 rfl) ?_
                refine lv_dup hx hb dX6_token_167 rfl ?_
                refine va_get (D := D) (ci := 6) (v := .int att) (C := RX6) (T := TX6) (N := 42) hx hb hts iX6 hown hK hP 0 rfl rfl 23 (Nat.le_of_ble_eq_true rfl) f78 (fun _ h9 => h9) rfl dX6_token_168 ?_
                refine lv_iconst (v := 1) hx hb dX6_token_171 (by decide) ?_
                refine lv_iadd hx hb dX6_token_172 ?_
                refine va_put (D := D) (ci := 6) (v := .int (att + 1)) (ty := .int) (C := RX6) (T := TX6) (N := 42) hx hb hts iX6 tyX6 tyX6_ok nmX6 hown hK hP hD hS 0 rfl rfl 23 (Nat.le_of_ble_eq_true rfl) f78 (fun _ h9 => h9) rfl (tyX6_ok 23 (Nat.le_of_ble_eq_true rfl)) rfl rfl (Nat.le_of_ble_eq_true rfl) dX6_token_173 (fun H locs hP hD hS => ?_)
                have hP : va_P D vwCl (wX6 cA ad thrown tape taped value weight many block ties lines pastValue pastWeight pastMany undos fresh newValue newWeight newMany newBlock newTies newLines hasBlock hasTies size (att + 1) place sort z20 fault faultPlace lastFault lastPlace toValue toWeight toMany often firstOf lastOf unlikes unlikeMany isCandidate modes fewest) H := hP
                have hD : va_D A (wX6 cA ad thrown tape taped value weight many block ties lines pastValue pastWeight pastMany undos fresh newValue newWeight newMany newBlock newTies newLines hasBlock hasTies size (att + 1) place sort z20 fault faultPlace lastFault lastPlace toValue toWeight toMany often firstOf lastOf unlikes unlikeMany isCandidate modes fewest) := hD
                refine lv_goto (tgt := 120) hx hb dX6_token_176 (by decide) ?_
                exact ih120 thrown tape taped value weight many block ties lines pastValue pastWeight pastMany undos fresh newValue newWeight newMany newBlock newTies newLines hasBlock hasTies size (att + 1) place sort z20 fault faultPlace lastFault lastPlace toValue toWeight toMany often firstOf lastOf unlikes unlikeMany isCandidate modes fewest z16 _ _ _ (lv_sub hl [0] rfl) hP hD hS h hk120
              have h := ez20
              refine lv_icmp_le (tgt := 148) hx hb dX6_token_138 (by decide) (fun c22 => ?_) (fun c22 => ?_)
              · have h := e_t c22 h
                refine lv_bipush (v := 10) hx hb dX6_token_148 (by decide) ?_
                refine lv_aload_n hx hb dX6_token_150 rfl (lv_at hl 0 rfl) ?_
                refine va_get (D := D) (ci := 6) (v := .int number) (C := RX6) (T := TX6) (N := 42) hx hb hts iX6 hown hK hP 0 rfl rfl 26 (Nat.le_of_ble_eq_true rfl) f101 (fun _ h9 => h9) rfl dX6_token_151 ?_
                refine lv_imul hx hb dX6_token_154 ?_
                refine lv_aload_n hx hb dX6_token_155 rfl (lv_at hl 0 rfl) ?_
                obtain ⟨q23, eq23, h⟩ := e_b h
                refine xv_i0 (As := []) (rest := [.int (10 * number), .ref (ad 0)]) (ci := 6) (b := ad 0) ⟨hx, hb, hml, hown, hts⟩ hl.1 (kX6_here l D cA ad thrown tape taped value weight many block ties lines pastValue pastWeight pastMany undos fresh newValue newWeight newMany newBlock newTies newLines hasBlock hasTies size att place sort number fault faultPlace lastFault lastPlace toValue toWeight toMany often firstOf lastOf unlikes unlikeMany isCandidate modes fewest   _ eq23) (cwV 0 hts gX6_token_X6_here rfl rfl rfl (by decide +kernel) ⟨Nat.le_of_ble_eq_true rfl, Nat.le_of_ble_eq_true rfl⟩) rfl hK hP hD hS hA 0 rfl rfl rfl rfl (Nat.le_of_ble_eq_true rfl) dX6_token_156 ⟨Nat.zero_le _, Nat.zero_le _⟩ (fun H locs hP hD hS hnq23 => ?_)
                have hP : va_P D vwCl (wX6 cA ad thrown tape taped value weight many block ties lines pastValue pastWeight pastMany undos fresh newValue newWeight newMany newBlock newTies newLines hasBlock hasTies size att place sort number fault faultPlace lastFault lastPlace toValue toWeight toMany often firstOf lastOf unlikes unlikeMany isCandidate modes fewest) H := hP
                have hD : va_D A (wX6 cA ad thrown tape taped value weight many block ties lines pastValue pastWeight pastMany undos fresh newValue newWeight newMany newBlock newTies newLines hasBlock hasTies size att place sort number fault faultPlace lastFault lastPlace toValue toWeight toMany often firstOf lastOf unlikes unlikeMany isCandidate modes fewest) := hD
                refine lv_iadd hx hb dX6_token_159 ?_
                refine lv_bipush (v := 48) hx hb dX6_token_160 (by decide) ?_
                refine lv_isub hx hb dX6_token_162 ?_
                obtain rfl := e_s h
                exact hJ21 _ _ _ (lv_sub hl [0] rfl) hP hD hS
              · have h := e_f c22 h
                refine lv_aload_n hx hb dX6_token_141 rfl (lv_at hl 0 rfl) ?_
                refine va_get (D := D) (ci := 6) (v := .int number) (C := RX6) (T := TX6) (N := 42) hx hb hts iX6 hown hK hP 0 rfl rfl 26 (Nat.le_of_ble_eq_true rfl) f101 (fun _ h9 => h9) rfl dX6_token_142 ?_
                refine lv_goto (tgt := 163) hx hb dX6_token_145 (by decide) ?_
                obtain rfl := e_s h
                exact hJ21 _ _ _ (lv_sub hl [0] rfl) hP hD hS
        obtain ⟨z24, ez24, h⟩ := e_b h
        refine hL120 FU thrown tape taped value weight many block ties lines pastValue pastWeight pastMany undos fresh newValue newWeight newMany newBlock newTies newLines hasBlock hasTies size z6 z6 1 0 fault faultPlace lastFault lastPlace toValue toWeight toMany often firstOf lastOf unlikes unlikeMany isCandidate modes fewest z24 _ _ _ (lv_sub hl [1] rfl) hP hD hS ez24 (fun ls H locs hl hP hD hS => ?_)
        obtain rfl := e_s h
        exact hret hP hS dX6_token_204
    · have h := e_f c10 h
      have hL64 : ∀ (n : Nat) (thrown : Int32) (tape : Nat → Int32) (taped : Int32) (value : Nat → Int32) (weight : Nat → Int32) (many : Int32) (block : Int32) (ties : Int32) (lines : Int32) (pastValue : Nat → Int32) (pastWeight : Nat → Int32) (pastMany : Nat → Int32) (undos : Int32) (fresh : Int32) (newValue : Nat → Int32) (newWeight : Nat → Int32) (newMany : Int32) (newBlock : Int32) (newTies : Int32) (newLines : Int32) (hasBlock : Int32) (hasTies : Int32) (size : Int32) (att : Int32) (place : Int32) (sort : Int32) (number : Int32) (fault : Int32) (faultPlace : Int32) (lastFault : Int32) (lastPlace : Int32) (toValue : Nat → Int32) (toWeight : Nat → Int32) (toMany : Int32) (often : Nat → Int32) (firstOf : Nat → Int32) (lastOf : Nat → Int32) (unlikes : Nat → Int32) (unlikeMany : Int32) (isCandidate : Nat → Int32) (modes : Nat → Int32) (fewest : Nat → Int32) (z25 : Int32) (ls : Array Slot) (H : Heap) (locs : List Loc), lv_has ls 2 [(0, .ref (ad 0))] → va_P D vwCl (wX6 cA ad thrown tape taped value weight many block ties lines pastValue pastWeight pastMany undos fresh newValue newWeight newMany newBlock newTies newLines hasBlock hasTies size att place sort number fault faultPlace lastFault lastPlace toValue toWeight toMany often firstOf lastOf unlikes unlikeMany isCandidate modes fewest) H → va_D A (wX6 cA ad thrown tape taped value weight many block ties lines pastValue pastWeight pastMany undos fresh newValue newWeight newMany newBlock newTies newLines hasBlock hasTies size att place sort number fault faultPlace lastFault lastPlace toValue toWeight toMany often firstOf lastOf unlikes unlikeMany isCandidate modes fewest) → va_S A s.heap H locs → mX6_token_L64 tape size n att = some z25 → (∀ (ls : Array Slot) (H : Heap) (locs : List Loc), lv_has ls 2 [(0, .ref (ad 0))] → va_P D vwCl (wX6 cA ad thrown tape taped value weight many block ties lines pastValue pastWeight pastMany undos fresh newValue newWeight newMany newBlock newTies newLines hasBlock hasTies size z25 place sort number fault faultPlace lastFault lastPlace toValue toWeight toMany often firstOf lastOf unlikes unlikeMany isCandidate modes fewest) H → va_D A (wX6 cA ad thrown tape taped value weight many block ties lines pastValue pastWeight pastMany undos fresh newValue newWeight newMany newBlock newTies newLines hasBlock hasTies size z25 place sort number fault faultPlace lastFault lastPlace toValue toWeight toMany often firstOf lastOf unlikes unlikeMany isCandidate modes fewest) → va_S A s.heap H locs → W p l e (headSpec wsX6_token { frames := 6, cells := 0, slots := 0, locals := 108 }).room s m args below meth c H locs 0 0 Q (F0 m 87 ls [])) → W p l e (headSpec wsX6_token { frames := 6, cells := 0, slots := 0, locals := 108 }).room s m args below meth c H locs 0 0 Q (F0 m 64 ls []) := by
        intro n
        induction n with
        | zero => intro thrown tape taped value weight many block ties lines pastValue pastWeight pastMany undos fresh newValue newWeight newMany newBlock newTies newLines hasBlock hasTies size att place sort number fault faultPlace lastFault lastPlace toValue toWeight toMany often firstOf lastOf unlikes unlikeMany isCandidate modes fewest z25 ls H locs hl hP hD hS h hk64; exact e_n h
        | succ n ih64 =>
          intro thrown tape taped value weight many block ties lines pastValue pastWeight pastMany undos fresh newValue newWeight newMany newBlock newTies newLines hasBlock hasTies size att place sort number fault faultPlace lastFault lastPlace toValue toWeight toMany often firstOf lastOf unlikes unlikeMany isCandidate modes fewest z25 ls H locs hl hP hD hS h hk64
          rw [mX6_token_L64.eq_2] at h
          refine lv_aload_n hx hb dX6_token_64 rfl (lv_at hl 0 rfl) ?_
          obtain ⟨q26, eq26, h⟩ := e_b h
          refine xv_i0 (As := []) (rest := []) (ci := 6) (b := ad 0) ⟨hx, hb, hml, hown, hts⟩ hl.1 (kX6_here l D cA ad thrown tape taped value weight many block ties lines pastValue pastWeight pastMany undos fresh newValue newWeight newMany newBlock newTies newLines hasBlock hasTies size att place sort number fault faultPlace lastFault lastPlace toValue toWeight toMany often firstOf lastOf unlikes unlikeMany isCandidate modes fewest   _ eq26) (cwV 0 hts gX6_token_X6_here rfl rfl rfl (by decide +kernel) ⟨Nat.le_of_ble_eq_true rfl, Nat.le_of_ble_eq_true rfl⟩) rfl hK hP hD hS hA 0 rfl rfl rfl rfl (Nat.le_of_ble_eq_true rfl) dX6_token_65 ⟨Nat.zero_le _, Nat.zero_le _⟩ (fun H locs hP hD hS hnq26 => ?_)
          have hP : va_P D vwCl (wX6 cA ad thrown tape taped value weight many block ties lines pastValue pastWeight pastMany undos fresh newValue newWeight newMany newBlock newTies newLines hasBlock hasTies size att place sort number fault faultPlace lastFault lastPlace toValue toWeight toMany often firstOf lastOf unlikes unlikeMany isCandidate modes fewest) H := hP
          have hD : va_D A (wX6 cA ad thrown tape taped value weight many block ties lines pastValue pastWeight pastMany undos fresh newValue newWeight newMany newBlock newTies newLines hasBlock hasTies size att place sort number fault faultPlace lastFault lastPlace toValue toWeight toMany often firstOf lastOf unlikes unlikeMany isCandidate modes fewest) := hD
          obtain ⟨q27, eq27, h⟩ := e_b h
          refine xs_i (As := [.int q26]) (rest := []) ⟨hx, hb, hml, hown, hts⟩ hl.1 (kX6_isSmall l D cA   q26  _ eq27) (va_cwS 1 hts gX6_token_X6_isSmall rfl rfl rfl (by decide +kernel) ⟨Nat.le_of_ble_eq_true rfl, Nat.le_of_ble_eq_true rfl⟩) rfl hK hP hD hS hA [] rfl (by decide +kernel) rfl (Nat.le_of_ble_eq_true rfl) dX6_token_68 ⟨Nat.zero_le _, Nat.zero_le _⟩ (fun H locs hP hD hS hnq27 => ?_)
          have hP : va_P D vwCl (wX6 cA ad thrown tape taped value weight many block ties lines pastValue pastWeight pastMany undos fresh newValue newWeight newMany newBlock newTies newLines hasBlock hasTies size att place sort number fault faultPlace lastFault lastPlace toValue toWeight toMany often firstOf lastOf unlikes unlikeMany isCandidate modes fewest) H := hP
          have hD : va_D A (wX6 cA ad thrown tape taped value weight many block ties lines pastValue pastWeight pastMany undos fresh newValue newWeight newMany newBlock newTies newLines hasBlock hasTies size att place sort number fault faultPlace lastFault lastPlace toValue toWeight toMany often firstOf lastOf unlikes unlikeMany isCandidate modes fewest) := hD
          refine lv_if_eq (tgt := 87) hx hb dX6_token_71 (by decide) (fun c28 => ?_) (fun c28 => ?_)
          · have h := e_t c28 h
            obtain rfl := e_s h
            exact hk64 _ _ _ (lv_sub hl [0] rfl) hP hD hS
          · have h := e_f c28 h
            refine lv_aload_n hx hb dX6_token_74 rfl (lv_at hl 0 rfl) ?_
            refine lv_dup hx hb dX6_token_75 rfl ?_
            refine va_get (D := D) (ci := 6) (v := .int att) (C := RX6) (T := TX6) (N := 42) hx hb hts iX6 hown hK hP 0 rfl rfl 23 (Nat.le_of_ble_eq_true rfl) f78 (fun _ h9 => h9) rfl dX6_token_76 ?_
            refine lv_iconst (v := 1) hx hb dX6_token_79 (by decide) ?_
            refine lv_iadd hx hb dX6_token_80 ?_
            refine va_put (D := D) (ci := 6) (v := .int (att + 1)) (ty := .int) (C := RX6) (T := TX6) (N := 42) hx hb hts iX6 tyX6 tyX6_ok nmX6 hown hK hP hD hS 0 rfl rfl 23 (Nat.le_of_ble_eq_true rfl) f78 (fun _ h9 => h9) rfl (tyX6_ok 23 (Nat.le_of_ble_eq_true rfl)) rfl rfl (Nat.le_of_ble_eq_true rfl) dX6_token_81 (fun H locs hP hD hS => ?_)
            have hP : va_P D vwCl (wX6 cA ad thrown tape taped value weight many block ties lines pastValue pastWeight pastMany undos fresh newValue newWeight newMany newBlock newTies newLines hasBlock hasTies size (att + 1) place sort number fault faultPlace lastFault lastPlace toValue toWeight toMany often firstOf lastOf unlikes unlikeMany isCandidate modes fewest) H := hP
            have hD : va_D A (wX6 cA ad thrown tape taped value weight many block ties lines pastValue pastWeight pastMany undos fresh newValue newWeight newMany newBlock newTies newLines hasBlock hasTies size (att + 1) place sort number fault faultPlace lastFault lastPlace toValue toWeight toMany often firstOf lastOf unlikes unlikeMany isCandidate modes fewest) := hD
            refine lv_goto (tgt := 64) hx hb dX6_token_84 (by decide) ?_
            exact ih64 thrown tape taped value weight many block ties lines pastValue pastWeight pastMany undos fresh newValue newWeight newMany newBlock newTies newLines hasBlock hasTies size (att + 1) place sort number fault faultPlace lastFault lastPlace toValue toWeight toMany often firstOf lastOf unlikes unlikeMany isCandidate modes fewest z25 _ _ _ (lv_sub hl [0] rfl) hP hD hS h hk64
      obtain ⟨z29, ez29, h⟩ := e_b h
      refine hL64 FU thrown tape taped value weight many block ties lines pastValue pastWeight pastMany undos fresh newValue newWeight newMany newBlock newTies newLines hasBlock hasTies size z6 z6 sort number fault faultPlace lastFault lastPlace toValue toWeight toMany often firstOf lastOf unlikes unlikeMany isCandidate modes fewest z29 _ _ _ (lv_sub hl [1] rfl) hP hD hS ez29 (fun ls H locs hl hP hD hS => ?_)
      refine lv_aload_n hx hb dX6_token_87 rfl (lv_at hl 0 rfl) ?_
      refine lv_iconst (v := 0) hx hb dX6_token_88 (by decide) ?_
      refine va_put (D := D) (ci := 6) (v := .int 0) (ty := .int) (C := RX6) (T := TX6) (N := 42) hx hb hts iX6 tyX6 tyX6_ok nmX6 hown hK hP hD hS 0 rfl rfl 25 (Nat.le_of_ble_eq_true rfl) f91 (fun _ h9 => h9) rfl (tyX6_ok 25 (Nat.le_of_ble_eq_true rfl)) rfl rfl (Nat.le_of_ble_eq_true rfl) dX6_token_89 (fun H locs hP hD hS => ?_)
      have hP : va_P D vwCl (wX6 cA ad thrown tape taped value weight many block ties lines pastValue pastWeight pastMany undos fresh newValue newWeight newMany newBlock newTies newLines hasBlock hasTies size z29 z6 0 number fault faultPlace lastFault lastPlace toValue toWeight toMany often firstOf lastOf unlikes unlikeMany isCandidate modes fewest) H := hP
      have hD : va_D A (wX6 cA ad thrown tape taped value weight many block ties lines pastValue pastWeight pastMany undos fresh newValue newWeight newMany newBlock newTies newLines hasBlock hasTies size z29 z6 0 number fault faultPlace lastFault lastPlace toValue toWeight toMany often firstOf lastOf unlikes unlikeMany isCandidate modes fewest) := hD
      refine lv_aload_n hx hb dX6_token_92 rfl (lv_at hl 0 rfl) ?_
      refine lv_aload_n hx hb dX6_token_93 rfl (lv_at hl 0 rfl) ?_
      obtain ⟨q30, eq30, h⟩ := e_b h
      refine xv_ie (As := []) (rest := [.ref (ad 0)]) (b := ad 0) hE hR ⟨hx, hb, hml, hown, hts⟩ hl.1 (kX6_wordHere l D cA adK adV ad thrown tape taped value weight many block ties lines pastValue pastWeight pastMany undos fresh newValue newWeight newMany newBlock newTies newLines hasBlock hasTies size z29 z6 0 number fault faultPlace lastFault lastPlace toValue toWeight toMany often firstOf lastOf unlikes unlikeMany isCandidate modes fewest   _ eq30) (cwV 0 hts gX6_token_X6_wordHere rfl rfl rfl (by decide +kernel) ⟨Nat.le_of_ble_eq_true rfl, Nat.le_of_ble_eq_true rfl⟩) rfl hK hP hD hS hA (va_recv hK hP (ci := 6) (q0 := 0) rfl rfl) [0, 1, 2, 3, 4, 5, 6, 7, 8, 9, 10, 11, 12, 13, 14, 15, 16, 17] rfl (by decide +kernel) rfl (Nat.le_of_ble_eq_true rfl) dX6_token_94 ⟨Nat.zero_le _, Nat.zero_le _⟩ (fun H locs hP hD hS hnq30 => ?_)
      have hP : va_P D vwCl (wX6 cA ad thrown tape taped value weight many block ties lines pastValue pastWeight pastMany undos fresh newValue newWeight newMany newBlock newTies newLines hasBlock hasTies size z29 z6 0 number fault faultPlace lastFault lastPlace toValue toWeight toMany often firstOf lastOf unlikes unlikeMany isCandidate modes fewest) H := hP
      have hD : va_D A (wX6 cA ad thrown tape taped value weight many block ties lines pastValue pastWeight pastMany undos fresh newValue newWeight newMany newBlock newTies newLines hasBlock hasTies size z29 z6 0 number fault faultPlace lastFault lastPlace toValue toWeight toMany often firstOf lastOf unlikes unlikeMany isCandidate modes fewest) := hD
      refine va_put (D := D) (ci := 6) (v := .int q30) (ty := .int) (C := RX6) (T := TX6) (N := 42) hx hb hts iX6 tyX6 tyX6_ok nmX6 hown hK hP hD hS 0 rfl rfl 26 (Nat.le_of_ble_eq_true rfl) f101 (fun _ h9 => h9) rfl (tyX6_ok 26 (Nat.le_of_ble_eq_true rfl)) rfl rfl (Nat.le_of_ble_eq_true rfl) dX6_token_97 (fun H locs hP hD hS => ?_)
      have hP : va_P D vwCl (wX6 cA ad thrown tape taped value weight many block ties lines pastValue pastWeight pastMany undos fresh newValue newWeight newMany newBlock newTies newLines hasBlock hasTies size z29 z6 0 q30 fault faultPlace lastFault lastPlace toValue toWeight toMany often firstOf lastOf unlikes unlikeMany isCandidate modes fewest) H := hP
      have hD : va_D A (wX6 cA ad thrown tape taped value weight many block ties lines pastValue pastWeight pastMany undos fresh newValue newWeight newMany newBlock newTies newLines hasBlock hasTies size z29 z6 0 q30 fault faultPlace lastFault lastPlace toValue toWeight toMany often firstOf lastOf unlikes unlikeMany isCandidate modes fewest) := hD
      refine lv_goto (tgt := 204) hx hb dX6_token_100 (by decide) ?_
      obtain rfl := e_s h
      exact hret hP hS dX6_token_204
  · have h := e_f (not_not_intro c8) h
    refine lv_aload_n hx hb dX6_token_49 rfl (lv_at hl 1 rfl) ?_
    refine lv_iconst (v := 3) hx hb dX6_token_50 (by decide) ?_
    refine va_put (D := D) (ci := 6) (v := .int 3) (ty := .int) (C := RX6) (T := TX6) (N := 42) hx hb hts iX6 tyX6 tyX6_ok nmX6 hown hK hP hD hS 0 rfl rfl 25 (Nat.le_of_ble_eq_true rfl) f91 (fun _ h9 => h9) rfl (tyX6_ok 25 (Nat.le_of_ble_eq_true rfl)) rfl rfl (Nat.le_of_ble_eq_true rfl) dX6_token_51 (fun H locs hP hD hS => ?_)
    have hP : va_P D vwCl (wX6 cA ad thrown tape taped value weight many block ties lines pastValue pastWeight pastMany undos fresh newValue newWeight newMany newBlock newTies newLines hasBlock hasTies size z6 z6 3 number fault faultPlace lastFault lastPlace toValue toWeight toMany often firstOf lastOf unlikes unlikeMany isCandidate modes fewest) H := hP
    have hD : va_D A (wX6 cA ad thrown tape taped value weight many block ties lines pastValue pastWeight pastMany undos fresh newValue newWeight newMany newBlock newTies newLines hasBlock hasTies size z6 z6 3 number fault faultPlace lastFault lastPlace toValue toWeight toMany often firstOf lastOf unlikes unlikeMany isCandidate modes fewest) := hD
    refine lv_goto (tgt := 204) hx hb dX6_token_54 (by decide) ?_
    obtain rfl := e_s h
    exact hret hP hS dX6_token_204
set_option maxHeartbeats 4000000 in
set_option maxRecDepth 100000 in
theorem kX6_wrong (l : Launch) (D : va_G) (cA : Nat → ClassId) (ad : Nat → Nat) (thrown : Int32) (tape : Nat → Int32) (taped : Int32) (value : Nat → Int32) (weight : Nat → Int32) (many : Int32) (block : Int32) (ties : Int32) (lines : Int32) (pastValue : Nat → Int32) (pastWeight : Nat → Int32) (pastMany : Nat → Int32) (undos : Int32) (fresh : Int32) (newValue : Nat → Int32) (newWeight : Nat → Int32) (newMany : Int32) (newBlock : Int32) (newTies : Int32) (newLines : Int32) (hasBlock : Int32) (hasTies : Int32) (size : Int32) (att : Int32) (place : Int32) (sort : Int32) (number : Int32) (fault : Int32) (faultPlace : Int32) (lastFault : Int32) (lastPlace : Int32) (toValue : Nat → Int32) (toWeight : Nat → Int32) (toMany : Int32) (often : Nat → Int32) (firstOf : Nat → Int32) (lastOf : Nat → Int32) (unlikes : Nat → Int32) (unlikeMany : Int32) (isCandidate : Nat → Int32) (modes : Nat → Int32) (fewest : Nat → Int32) (x1 : Int32) (q : Int32 × Int32) (h : mX6_wrong place fault faultPlace x1 = some q) : MV l yX6_wrong wsX6_wrong { frames := 0, cells := 0, slots := 0, locals := 0 } D cA [.ref (ad 0), .int x1] (wX6 cA ad thrown tape taped value weight many block ties lines pastValue pastWeight pastMany undos fresh newValue newWeight newMany newBlock newTies newLines hasBlock hasTies size att place sort number fault faultPlace lastFault lastPlace toValue toWeight toMany often firstOf lastOf unlikes unlikeMany isCandidate modes fewest) (wX6 cA ad thrown tape taped value weight many block ties lines pastValue pastWeight pastMany undos fresh newValue newWeight newMany newBlock newTies newLines hasBlock hasTies size att place sort number q.1 q.2 lastFault lastPlace toValue toWeight toMany often firstOf lastOf unlikes unlikeMany isCandidate modes fewest) := by
  refine MV.of (cc := cX6_wrong) (maxL := 2) (by decide) rfl rfl rfl (Nat.le_of_ble_eq_true rfl) ?_
  intro p e s m args below meth c A ls Q hx hb hml hts hown hK hP hD hA hS hl hret
  have hl : lv_has ls 2 [(0, .ref (ad 0)), (1, .int x1)] := hl
  have f118 := hts (.fieldLink RX6 118 "ModeDeskModel" "fault" "I") (by decide +kernel)
  have f121 := hts (.fieldLink RX6 121 "ModeDeskModel" "faultPlace" "I") (by decide +kernel)
  have f88 := hts (.fieldLink RX6 88 "ModeDeskModel" "place" "I") (by decide +kernel)
  have iX6 : ∀ w ∈ wsX60, w ∈ wsX6_wrong := by decide +kernel
  unfold mX6_wrong at h
  refine lv_aload_n hx hb dX6_wrong_0 rfl (lv_at hl 0 rfl) ?_
  refine va_get (D := D) (ci := 6) (v := .int fault) (C := RX6) (T := TX6) (N := 42) hx hb hts iX6 hown hK hP 0 rfl rfl 27 (Nat.le_of_ble_eq_true rfl) f118 (fun _ h9 => h9) rfl dX6_wrong_1 ?_
  refine lv_if_eq (tgt := 8) hx hb dX6_wrong_4 (by decide) (fun c1 => ?_) (fun c1 => ?_)
  · have h := e_t c1 h
    refine lv_aload_n hx hb dX6_wrong_8 rfl (lv_at hl 0 rfl) ?_
    refine lv_iload_n hx hb dX6_wrong_9 rfl (lv_at hl 1 rfl) ?_
    refine va_put (D := D) (ci := 6) (v := .int x1) (ty := .int) (C := RX6) (T := TX6) (N := 42) hx hb hts iX6 tyX6 tyX6_ok nmX6 hown hK hP hD hS 0 rfl rfl 27 (Nat.le_of_ble_eq_true rfl) f118 (fun _ h9 => h9) rfl (tyX6_ok 27 (Nat.le_of_ble_eq_true rfl)) rfl rfl (Nat.le_of_ble_eq_true rfl) dX6_wrong_10 (fun H locs hP hD hS => ?_)
    have hP : va_P D vwCl (wX6 cA ad thrown tape taped value weight many block ties lines pastValue pastWeight pastMany undos fresh newValue newWeight newMany newBlock newTies newLines hasBlock hasTies size att place sort number x1 faultPlace lastFault lastPlace toValue toWeight toMany often firstOf lastOf unlikes unlikeMany isCandidate modes fewest) H := hP
    have hD : va_D A (wX6 cA ad thrown tape taped value weight many block ties lines pastValue pastWeight pastMany undos fresh newValue newWeight newMany newBlock newTies newLines hasBlock hasTies size att place sort number x1 faultPlace lastFault lastPlace toValue toWeight toMany often firstOf lastOf unlikes unlikeMany isCandidate modes fewest) := hD
    refine lv_aload_n hx hb dX6_wrong_13 rfl (lv_at hl 0 rfl) ?_
    refine lv_aload_n hx hb dX6_wrong_14 rfl (lv_at hl 0 rfl) ?_
    refine va_get (D := D) (ci := 6) (v := .int place) (C := RX6) (T := TX6) (N := 42) hx hb hts iX6 hown hK hP 0 rfl rfl 24 (Nat.le_of_ble_eq_true rfl) f88 (fun _ h9 => h9) rfl dX6_wrong_15 ?_
    refine va_put (D := D) (ci := 6) (v := .int place) (ty := .int) (C := RX6) (T := TX6) (N := 42) hx hb hts iX6 tyX6 tyX6_ok nmX6 hown hK hP hD hS 0 rfl rfl 28 (Nat.le_of_ble_eq_true rfl) f121 (fun _ h9 => h9) rfl (tyX6_ok 28 (Nat.le_of_ble_eq_true rfl)) rfl rfl (Nat.le_of_ble_eq_true rfl) dX6_wrong_18 (fun H locs hP hD hS => ?_)
    have hP : va_P D vwCl (wX6 cA ad thrown tape taped value weight many block ties lines pastValue pastWeight pastMany undos fresh newValue newWeight newMany newBlock newTies newLines hasBlock hasTies size att place sort number x1 place lastFault lastPlace toValue toWeight toMany often firstOf lastOf unlikes unlikeMany isCandidate modes fewest) H := hP
    have hD : va_D A (wX6 cA ad thrown tape taped value weight many block ties lines pastValue pastWeight pastMany undos fresh newValue newWeight newMany newBlock newTies newLines hasBlock hasTies size att place sort number x1 place lastFault lastPlace toValue toWeight toMany often firstOf lastOf unlikes unlikeMany isCandidate modes fewest) := hD
    obtain rfl := e_s h
    exact hret hP hS dX6_wrong_21
  · have h := e_f c1 h
    obtain rfl := e_s h
    exact hret hP hS dX6_wrong_7
set_option maxHeartbeats 4000000 in
set_option maxRecDepth 100000 in
theorem kX6_goOn (l : Launch) (D : va_G) (cA : Nat → ClassId) (adK adV : Nat → Nat) (ad : Nat → Nat) (thrown : Int32) (tape : Nat → Int32) (taped : Int32) (value : Nat → Int32) (weight : Nat → Int32) (many : Int32) (block : Int32) (ties : Int32) (lines : Int32) (pastValue : Nat → Int32) (pastWeight : Nat → Int32) (pastMany : Nat → Int32) (undos : Int32) (fresh : Int32) (newValue : Nat → Int32) (newWeight : Nat → Int32) (newMany : Int32) (newBlock : Int32) (newTies : Int32) (newLines : Int32) (hasBlock : Int32) (hasTies : Int32) (size : Int32) (att : Int32) (place : Int32) (sort : Int32) (number : Int32) (fault : Int32) (faultPlace : Int32) (lastFault : Int32) (lastPlace : Int32) (toValue : Nat → Int32) (toWeight : Nat → Int32) (toMany : Int32) (often : Nat → Int32) (firstOf : Nat → Int32) (lastOf : Nat → Int32) (unlikes : Nat → Int32) (unlikeMany : Int32) (isCandidate : Nat → Int32) (modes : Nat → Int32) (fewest : Nat → Int32)  (q : Int32 × Int32 × Int32 × Int32) (h : mX6_goOn tape size att place sort number fault  = some q) : MVe l yX6_goOn wsX6_goOn { frames := 7, cells := 0, slots := 0, locals := 129 } D cA adK adV [.ref (ad 0)] (wX6 cA ad thrown tape taped value weight many block ties lines pastValue pastWeight pastMany undos fresh newValue newWeight newMany newBlock newTies newLines hasBlock hasTies size att place sort number fault faultPlace lastFault lastPlace toValue toWeight toMany often firstOf lastOf unlikes unlikeMany isCandidate modes fewest) (wX6 cA ad thrown tape taped value weight many block ties lines pastValue pastWeight pastMany undos fresh newValue newWeight newMany newBlock newTies newLines hasBlock hasTies size q.1 q.2.1 q.2.2.1 q.2.2.2 fault faultPlace lastFault lastPlace toValue toWeight toMany often firstOf lastOf unlikes unlikeMany isCandidate modes fewest) := by
  refine MVe.of (cc := cX6_goOn) (maxL := 1) (by decide) rfl rfl rfl (Nat.le_of_ble_eq_true rfl) ?_
  intro p e s m args below meth c A ls Q hx hb hml hts hown hK hP hD hA hS hE hR hl hret
  have hl : lv_has ls 1 [(0, .ref (ad 0))] := hl
  have f118 := hts (.fieldLink RX6 118 "ModeDeskModel" "fault" "I") (by decide +kernel)
  have iX6 : ∀ w ∈ wsX60, w ∈ wsX6_goOn := by decide +kernel
  unfold mX6_goOn at h
  refine lv_aload_n hx hb dX6_goOn_0 rfl (lv_at hl 0 rfl) ?_
  refine va_get (D := D) (ci := 6) (v := .int fault) (C := RX6) (T := TX6) (N := 42) hx hb hts iX6 hown hK hP 0 rfl rfl 27 (Nat.le_of_ble_eq_true rfl) f118 (fun _ h9 => h9) rfl dX6_goOn_1 ?_
  refine lv_if_ne (tgt := 11) hx hb dX6_goOn_4 (by decide) (fun c1 => ?_) (fun c1 => ?_)
  · have h := e_t c1 h
    obtain rfl := e_s h
    exact hret hP hS dX6_goOn_11
  · have h := e_f (not_not_intro c1) h
    refine lv_aload_n hx hb dX6_goOn_7 rfl (lv_at hl 0 rfl) ?_
    obtain ⟨q2, eq2, h⟩ := e_b h
    refine xv_ve (As := []) (rest := []) (b := ad 0) hE hR ⟨hx, hb, hml, hown, hts⟩ hl.1 (kX6_token l D cA adK adV ad thrown tape taped value weight many block ties lines pastValue pastWeight pastMany undos fresh newValue newWeight newMany newBlock newTies newLines hasBlock hasTies size att place sort number fault faultPlace lastFault lastPlace toValue toWeight toMany often firstOf lastOf unlikes unlikeMany isCandidate modes fewest   _ eq2) (cwV 0 hts gX6_goOn_X6_token rfl rfl rfl (by decide +kernel) ⟨Nat.le_of_ble_eq_true rfl, Nat.le_of_ble_eq_true rfl⟩) rfl hK hP hD hS hA (va_recv hK hP (ci := 6) (q0 := 0) rfl rfl) [0, 1, 2, 3, 4, 5, 6, 7, 8, 9, 10, 11, 12, 13, 14, 15, 16, 17] rfl (by decide +kernel) rfl (Nat.le_of_ble_eq_true rfl) dX6_goOn_8 ⟨Nat.zero_le _, Nat.zero_le _⟩ (fun H locs hP hD hS => ?_)
    have hP : va_P D vwCl (wX6 cA ad thrown tape taped value weight many block ties lines pastValue pastWeight pastMany undos fresh newValue newWeight newMany newBlock newTies newLines hasBlock hasTies size q2.1 q2.2.1 q2.2.2.1 q2.2.2.2 fault faultPlace lastFault lastPlace toValue toWeight toMany often firstOf lastOf unlikes unlikeMany isCandidate modes fewest) H := hP
    have hD : va_D A (wX6 cA ad thrown tape taped value weight many block ties lines pastValue pastWeight pastMany undos fresh newValue newWeight newMany newBlock newTies newLines hasBlock hasTies size q2.1 q2.2.1 q2.2.2.1 q2.2.2.2 fault faultPlace lastFault lastPlace toValue toWeight toMany often firstOf lastOf unlikes unlikeMany isCandidate modes fewest) := hD
    obtain rfl := e_s h
    exact hret hP hS dX6_goOn_11
set_option maxHeartbeats 4000000 in
set_option maxRecDepth 100000 in
theorem kX6_within (l : Launch) (D : va_G) (cA : Nat → ClassId) (adK adV : Nat → Nat) (ad : Nat → Nat) (thrown : Int32) (tape : Nat → Int32) (taped : Int32) (value : Nat → Int32) (weight : Nat → Int32) (many : Int32) (block : Int32) (ties : Int32) (lines : Int32) (pastValue : Nat → Int32) (pastWeight : Nat → Int32) (pastMany : Nat → Int32) (undos : Int32) (fresh : Int32) (newValue : Nat → Int32) (newWeight : Nat → Int32) (newMany : Int32) (newBlock : Int32) (newTies : Int32) (newLines : Int32) (hasBlock : Int32) (hasTies : Int32) (size : Int32) (att : Int32) (place : Int32) (sort : Int32) (number : Int32) (fault : Int32) (faultPlace : Int32) (lastFault : Int32) (lastPlace : Int32) (toValue : Nat → Int32) (toWeight : Nat → Int32) (toMany : Int32) (often : Nat → Int32) (firstOf : Nat → Int32) (lastOf : Nat → Int32) (unlikes : Nat → Int32) (unlikeMany : Int32) (isCandidate : Nat → Int32) (modes : Nat → Int32) (fewest : Nat → Int32) (x1 : Int32) (x2 : Int32) (q : Int32 × Int32 × Int32 × Int32 × Int32 × Int32 × Int32) (h : mX6_within tape size att place sort number fault faultPlace x1 x2 = some q) : MIe l yX6_within wsX6_within { frames := 8, cells := 0, slots := 0, locals := 149 } D cA adK adV .int [.ref (ad 0), .int x1, .int x2] (wX6 cA ad thrown tape taped value weight many block ties lines pastValue pastWeight pastMany undos fresh newValue newWeight newMany newBlock newTies newLines hasBlock hasTies size att place sort number fault faultPlace lastFault lastPlace toValue toWeight toMany often firstOf lastOf unlikes unlikeMany isCandidate modes fewest) (wX6 cA ad thrown tape taped value weight many block ties lines pastValue pastWeight pastMany undos fresh newValue newWeight newMany newBlock newTies newLines hasBlock hasTies size q.2.1 q.2.2.1 q.2.2.2.1 q.2.2.2.2.1 q.2.2.2.2.2.1 q.2.2.2.2.2.2 lastFault lastPlace toValue toWeight toMany often firstOf lastOf unlikes unlikeMany isCandidate modes fewest) q.1 := by
  refine MIe.of (cc := cX6_within) (maxL := 4) (by decide +kernel) rfl rfl rfl (Nat.le_of_ble_eq_true rfl) ?_
  intro p e s m args below meth c A ls Q hx hb hml hts hown hK hP hD hA hS hE hR hl hret
  have hl : lv_has ls 4 [(0, .ref (ad 0)), (1, .int x1), (2, .int x2)] := hl
  have f101 := hts (.fieldLink RX6 101 "ModeDeskModel" "number" "I") (by decide +kernel)
  have f118 := hts (.fieldLink RX6 118 "ModeDeskModel" "fault" "I") (by decide +kernel)
  have f91 := hts (.fieldLink RX6 91 "ModeDeskModel" "sort" "I") (by decide +kernel)
  have iX6 : ∀ w ∈ wsX60, w ∈ wsX6_within := by decide +kernel
  unfold mX6_within at h
  refine lv_aload_n hx hb dX6_within_0 rfl (lv_at hl 0 rfl) ?_
  refine va_get (D := D) (ci := 6) (v := .int fault) (C := RX6) (T := TX6) (N := 42) hx hb hts iX6 hown hK hP 0 rfl rfl 27 (Nat.le_of_ble_eq_true rfl) f118 (fun _ h9 => h9) rfl dX6_within_1 ?_
  obtain ⟨z1, ez1, h⟩ := e_b h
  have hJ2 : ∀ (ls : Array Slot) (H : Heap) (locs : List Loc), lv_has ls 4 [(0, .ref (ad 0)), (1, .int x1), (2, .int x2)] → va_P D vwCl (wX6 cA ad thrown tape taped value weight many block ties lines pastValue pastWeight pastMany undos fresh newValue newWeight newMany newBlock newTies newLines hasBlock hasTies size att place sort number z1.1 z1.2 lastFault lastPlace toValue toWeight toMany often firstOf lastOf unlikes unlikeMany isCandidate modes fewest) H → va_D A (wX6 cA ad thrown tape taped value weight many block ties lines pastValue pastWeight pastMany undos fresh newValue newWeight newMany newBlock newTies newLines hasBlock hasTies size att place sort number z1.1 z1.2 lastFault lastPlace toValue toWeight toMany often firstOf lastOf unlikes unlikeMany isCandidate modes fewest) → va_S A s.heap H locs → W p l e (headSpec wsX6_within { frames := 8, cells := 0, slots := 0, locals := 149 }).room s m args below meth c H locs 0 0 Q (F0 m 20 ls []) := by
    intro ls H locs hl hP hD hS
    refine lv_aload_n hx hb dX6_within_20 rfl (lv_at hl 0 rfl) ?_
    refine va_get (D := D) (ci := 6) (v := .int z1.1) (C := RX6) (T := TX6) (N := 42) hx hb hts iX6 hown hK hP 0 rfl rfl 27 (Nat.le_of_ble_eq_true rfl) f118 (fun _ h9 => h9) rfl dX6_within_21 ?_
    obtain ⟨z3, ez3, h⟩ := e_b h
    have hJ4 : ∀ (ls : Array Slot) (H : Heap) (locs : List Loc), lv_has ls 4 [(0, .ref (ad 0)), (1, .int x1)] → va_P D vwCl (wX6 cA ad thrown tape taped value weight many block ties lines pastValue pastWeight pastMany undos fresh newValue newWeight newMany newBlock newTies newLines hasBlock hasTies size att place sort number z3.1 z3.2 lastFault lastPlace toValue toWeight toMany often firstOf lastOf unlikes unlikeMany isCandidate modes fewest) H → va_D A (wX6 cA ad thrown tape taped value weight many block ties lines pastValue pastWeight pastMany undos fresh newValue newWeight newMany newBlock newTies newLines hasBlock hasTies size att place sort number z3.1 z3.2 lastFault lastPlace toValue toWeight toMany often firstOf lastOf unlikes unlikeMany isCandidate modes fewest) → va_S A s.heap H locs → W p l e (headSpec wsX6_within { frames := 8, cells := 0, slots := 0, locals := 149 }).room s m args below meth c H locs 0 0 Q (F0 m 48 ls []) := by
      intro ls H locs hl hP hD hS
      refine lv_aload_n hx hb dX6_within_48 rfl (lv_at hl 0 rfl) ?_
      refine va_get (D := D) (ci := 6) (v := .int z3.1) (C := RX6) (T := TX6) (N := 42) hx hb hts iX6 hown hK hP 0 rfl rfl 27 (Nat.le_of_ble_eq_true rfl) f118 (fun _ h9 => h9) rfl dX6_within_49 ?_
      obtain ⟨z5, ez5, h⟩ := e_b h
      have hJ6 : ∀ (ls : Array Slot) (H : Heap) (locs : List Loc), lv_has ls 4 [(0, .ref (ad 0))] → va_P D vwCl (wX6 cA ad thrown tape taped value weight many block ties lines pastValue pastWeight pastMany undos fresh newValue newWeight newMany newBlock newTies newLines hasBlock hasTies size att place sort number z3.1 z3.2 lastFault lastPlace toValue toWeight toMany often firstOf lastOf unlikes unlikeMany isCandidate modes fewest) H → va_D A (wX6 cA ad thrown tape taped value weight many block ties lines pastValue pastWeight pastMany undos fresh newValue newWeight newMany newBlock newTies newLines hasBlock hasTies size att place sort number z3.1 z3.2 lastFault lastPlace toValue toWeight toMany often firstOf lastOf unlikes unlikeMany isCandidate modes fewest) → va_S A s.heap H locs → W p l e (headSpec wsX6_within { frames := 8, cells := 0, slots := 0, locals := 149 }).room s m args below meth c H locs 0 0 Q (F0 m 63 ls [.int z5]) := by
        intro ls H locs hl hP hD hS
        refine lv_istore_n (lv' := [(3, .int z5), (0, .ref (ad 0))]) hx hb dX6_within_63 rfl hl (by decide) rfl (fun ls hl => ?_)
        refine lv_aload_n hx hb dX6_within_64 rfl (lv_at hl 1 rfl) ?_
        obtain ⟨q7, eq7, h⟩ := e_b h
        refine xv_ve (As := []) (rest := []) (b := ad 0) hE hR ⟨hx, hb, hml, hown, hts⟩ hl.1 (kX6_goOn l D cA adK adV ad thrown tape taped value weight many block ties lines pastValue pastWeight pastMany undos fresh newValue newWeight newMany newBlock newTies newLines hasBlock hasTies size att place sort number z3.1 z3.2 lastFault lastPlace toValue toWeight toMany often firstOf lastOf unlikes unlikeMany isCandidate modes fewest   _ eq7) (cwV 0 hts gX6_within_X6_goOn rfl rfl rfl (by decide +kernel) ⟨Nat.le_of_ble_eq_true rfl, Nat.le_of_ble_eq_true rfl⟩) rfl hK hP hD hS hA (va_recv hK hP (ci := 6) (q0 := 0) rfl rfl) [0, 1, 2, 3, 4, 5, 6, 7, 8, 9, 10, 11, 12, 13, 14, 15, 16, 17] rfl (by decide +kernel) rfl (Nat.le_of_ble_eq_true rfl) dX6_within_65 ⟨Nat.zero_le _, Nat.zero_le _⟩ (fun H locs hP hD hS => ?_)
        have hP : va_P D vwCl (wX6 cA ad thrown tape taped value weight many block ties lines pastValue pastWeight pastMany undos fresh newValue newWeight newMany newBlock newTies newLines hasBlock hasTies size q7.1 q7.2.1 q7.2.2.1 q7.2.2.2 z3.1 z3.2 lastFault lastPlace toValue toWeight toMany often firstOf lastOf unlikes unlikeMany isCandidate modes fewest) H := hP
        have hD : va_D A (wX6 cA ad thrown tape taped value weight many block ties lines pastValue pastWeight pastMany undos fresh newValue newWeight newMany newBlock newTies newLines hasBlock hasTies size q7.1 q7.2.1 q7.2.2.1 q7.2.2.2 z3.1 z3.2 lastFault lastPlace toValue toWeight toMany often firstOf lastOf unlikes unlikeMany isCandidate modes fewest) := hD
        refine lv_iload_n hx hb dX6_within_68 rfl (lv_at hl 0 rfl) ?_
        obtain rfl := e_s h
        exact hret hP hS rfl dX6_within_69
      have h := ez5
      refine lv_if_ne (tgt := 62) hx hb dX6_within_52 (by decide) (fun c8 => ?_) (fun c8 => ?_)
      · have h := e_t c8 h
        refine lv_iload_n hx hb dX6_within_62 rfl (lv_at hl 1 rfl) ?_
        obtain rfl := e_s h
        exact hJ6 _ _ _ (lv_sub hl [0] rfl) hP hD hS
      · have h := e_f (not_not_intro c8) h
        refine lv_aload_n hx hb dX6_within_55 rfl (lv_at hl 0 rfl) ?_
        refine va_get (D := D) (ci := 6) (v := .int number) (C := RX6) (T := TX6) (N := 42) hx hb hts iX6 hown hK hP 0 rfl rfl 26 (Nat.le_of_ble_eq_true rfl) f101 (fun _ h9 => h9) rfl dX6_within_56 ?_
        refine lv_goto (tgt := 63) hx hb dX6_within_59 (by decide) ?_
        obtain rfl := e_s h
        exact hJ6 _ _ _ (lv_sub hl [0] rfl) hP hD hS
    have h := ez3
    refine lv_if_ne (tgt := 48) hx hb dX6_within_24 (by decide) (fun c9 => ?_) (fun c9 => ?_)
    · have h := e_t c9 h
      obtain rfl := e_s h
      exact hJ4 _ _ _ (lv_sub hl [0, 1] rfl) hP hD hS
    · have h := e_f (not_not_intro c9) h
      refine lv_aload_n hx hb dX6_within_27 rfl (lv_at hl 0 rfl) ?_
      refine va_get (D := D) (ci := 6) (v := .int number) (C := RX6) (T := TX6) (N := 42) hx hb hts iX6 hown hK hP 0 rfl rfl 26 (Nat.le_of_ble_eq_true rfl) f101 (fun _ h9 => h9) rfl dX6_within_28 ?_
      refine lv_iload_n hx hb dX6_within_31 rfl (lv_at hl 1 rfl) ?_
      refine lv_icmp_lt (tgt := 43) hx hb dX6_within_32 (by decide) (fun c10 => ?_) (fun c10 => ?_)
      · have h := e_t c10 h
        refine lv_aload_n hx hb dX6_within_43 rfl (lv_at hl 0 rfl) ?_
        refine lv_iconst (v := 2) hx hb dX6_within_44 (by decide) ?_
        obtain ⟨q11, eq11, h⟩ := e_b h
        refine xv_v0 (As := [.int 2]) (rest := []) (ci := 6) (b := ad 0) ⟨hx, hb, hml, hown, hts⟩ hl.1 (kX6_wrong l D cA ad thrown tape taped value weight many block ties lines pastValue pastWeight pastMany undos fresh newValue newWeight newMany newBlock newTies newLines hasBlock hasTies size att place sort number z1.1 z1.2 lastFault lastPlace toValue toWeight toMany often firstOf lastOf unlikes unlikeMany isCandidate modes fewest 2  _ eq11) (cwV 1 hts gX6_within_X6_wrong rfl rfl rfl (by decide +kernel) ⟨Nat.le_of_ble_eq_true rfl, Nat.le_of_ble_eq_true rfl⟩) rfl hK hP hD hS hA 0 rfl rfl rfl rfl (Nat.le_of_ble_eq_true rfl) dX6_within_45 ⟨Nat.zero_le _, Nat.zero_le _⟩ (fun H locs hP hD hS => ?_)
        have hP : va_P D vwCl (wX6 cA ad thrown tape taped value weight many block ties lines pastValue pastWeight pastMany undos fresh newValue newWeight newMany newBlock newTies newLines hasBlock hasTies size att place sort number q11.1 q11.2 lastFault lastPlace toValue toWeight toMany often firstOf lastOf unlikes unlikeMany isCandidate modes fewest) H := hP
        have hD : va_D A (wX6 cA ad thrown tape taped value weight many block ties lines pastValue pastWeight pastMany undos fresh newValue newWeight newMany newBlock newTies newLines hasBlock hasTies size att place sort number q11.1 q11.2 lastFault lastPlace toValue toWeight toMany often firstOf lastOf unlikes unlikeMany isCandidate modes fewest) := hD
        obtain rfl := e_s h
        exact hJ4 _ _ _ (lv_sub hl [0, 1] rfl) hP hD hS
      · have h := e_f c10 h
        refine lv_aload_n hx hb dX6_within_35 rfl (lv_at hl 0 rfl) ?_
        refine va_get (D := D) (ci := 6) (v := .int number) (C := RX6) (T := TX6) (N := 42) hx hb hts iX6 hown hK hP 0 rfl rfl 26 (Nat.le_of_ble_eq_true rfl) f101 (fun _ h9 => h9) rfl dX6_within_36 ?_
        refine lv_iload_n hx hb dX6_within_39 rfl (lv_at hl 2 rfl) ?_
        refine lv_icmp_le (tgt := 48) hx hb dX6_within_40 (by decide) (fun c12 => ?_) (fun c12 => ?_)
        · have h := e_t c12 h
          obtain rfl := e_s h
          exact hJ4 _ _ _ (lv_sub hl [0, 1] rfl) hP hD hS
        · have h := e_f c12 h
          refine lv_aload_n hx hb dX6_within_43 rfl (lv_at hl 0 rfl) ?_
          refine lv_iconst (v := 2) hx hb dX6_within_44 (by decide) ?_
          obtain ⟨q13, eq13, h⟩ := e_b h
          refine xv_v0 (As := [.int 2]) (rest := []) (ci := 6) (b := ad 0) ⟨hx, hb, hml, hown, hts⟩ hl.1 (kX6_wrong l D cA ad thrown tape taped value weight many block ties lines pastValue pastWeight pastMany undos fresh newValue newWeight newMany newBlock newTies newLines hasBlock hasTies size att place sort number z1.1 z1.2 lastFault lastPlace toValue toWeight toMany often firstOf lastOf unlikes unlikeMany isCandidate modes fewest 2  _ eq13) (cwV 1 hts gX6_within_X6_wrong rfl rfl rfl (by decide +kernel) ⟨Nat.le_of_ble_eq_true rfl, Nat.le_of_ble_eq_true rfl⟩) rfl hK hP hD hS hA 0 rfl rfl rfl rfl (Nat.le_of_ble_eq_true rfl) dX6_within_45 ⟨Nat.zero_le _, Nat.zero_le _⟩ (fun H locs hP hD hS => ?_)
          have hP : va_P D vwCl (wX6 cA ad thrown tape taped value weight many block ties lines pastValue pastWeight pastMany undos fresh newValue newWeight newMany newBlock newTies newLines hasBlock hasTies size att place sort number q13.1 q13.2 lastFault lastPlace toValue toWeight toMany often firstOf lastOf unlikes unlikeMany isCandidate modes fewest) H := hP
          have hD : va_D A (wX6 cA ad thrown tape taped value weight many block ties lines pastValue pastWeight pastMany undos fresh newValue newWeight newMany newBlock newTies newLines hasBlock hasTies size att place sort number q13.1 q13.2 lastFault lastPlace toValue toWeight toMany often firstOf lastOf unlikes unlikeMany isCandidate modes fewest) := hD
          obtain rfl := e_s h
          exact hJ4 _ _ _ (lv_sub hl [0, 1] rfl) hP hD hS
  have h := ez1
  refine lv_if_ne (tgt := 20) hx hb dX6_within_4 (by decide) (fun c14 => ?_) (fun c14 => ?_)
  · have h := e_t c14 h
    obtain rfl := e_s h
    exact hJ2 _ _ _ (lv_sub hl [0, 1, 2] rfl) hP hD hS
  · have h := e_f (not_not_intro c14) h
    refine lv_aload_n hx hb dX6_within_7 rfl (lv_at hl 0 rfl) ?_
    refine va_get (D := D) (ci := 6) (v := .int sort) (C := RX6) (T := TX6) (N := 42) hx hb hts iX6 hown hK hP 0 rfl rfl 25 (Nat.le_of_ble_eq_true rfl) f91 (fun _ h9 => h9) rfl dX6_within_8 ?_
    refine lv_iconst (v := 1) hx hb dX6_within_11 (by decide) ?_
    refine lv_icmp_eq (tgt := 20) hx hb dX6_within_12 (by decide) (fun c15 => ?_) (fun c15 => ?_)
    · have h := e_t c15 h
      obtain rfl := e_s h
      exact hJ2 _ _ _ (lv_sub hl [0, 1, 2] rfl) hP hD hS
    · have h := e_f c15 h
      refine lv_aload_n hx hb dX6_within_15 rfl (lv_at hl 0 rfl) ?_
      refine lv_iconst (v := 1) hx hb dX6_within_16 (by decide) ?_
      obtain ⟨q16, eq16, h⟩ := e_b h
      refine xv_v0 (As := [.int 1]) (rest := []) (ci := 6) (b := ad 0) ⟨hx, hb, hml, hown, hts⟩ hl.1 (kX6_wrong l D cA ad thrown tape taped value weight many block ties lines pastValue pastWeight pastMany undos fresh newValue newWeight newMany newBlock newTies newLines hasBlock hasTies size att place sort number fault faultPlace lastFault lastPlace toValue toWeight toMany often firstOf lastOf unlikes unlikeMany isCandidate modes fewest 1  _ eq16) (cwV 1 hts gX6_within_X6_wrong rfl rfl rfl (by decide +kernel) ⟨Nat.le_of_ble_eq_true rfl, Nat.le_of_ble_eq_true rfl⟩) rfl hK hP hD hS hA 0 rfl rfl rfl rfl (Nat.le_of_ble_eq_true rfl) dX6_within_17 ⟨Nat.zero_le _, Nat.zero_le _⟩ (fun H locs hP hD hS => ?_)
      have hP : va_P D vwCl (wX6 cA ad thrown tape taped value weight many block ties lines pastValue pastWeight pastMany undos fresh newValue newWeight newMany newBlock newTies newLines hasBlock hasTies size att place sort number q16.1 q16.2 lastFault lastPlace toValue toWeight toMany often firstOf lastOf unlikes unlikeMany isCandidate modes fewest) H := hP
      have hD : va_D A (wX6 cA ad thrown tape taped value weight many block ties lines pastValue pastWeight pastMany undos fresh newValue newWeight newMany newBlock newTies newLines hasBlock hasTies size att place sort number q16.1 q16.2 lastFault lastPlace toValue toWeight toMany often firstOf lastOf unlikes unlikeMany isCandidate modes fewest) := hD
      obtain rfl := e_s h
      exact hJ2 _ _ _ (lv_sub hl [0, 1, 2] rfl) hP hD hS
set_option maxHeartbeats 4000000 in
set_option maxRecDepth 100000 in
theorem kX6_readRow (l : Launch) (D : va_G) (cA : Nat → ClassId) (adK adV : Nat → Nat) (ad : Nat → Nat) (thrown : Int32) (tape : Nat → Int32) (taped : Int32) (value : Nat → Int32) (weight : Nat → Int32) (many : Int32) (block : Int32) (ties : Int32) (lines : Int32) (pastValue : Nat → Int32) (pastWeight : Nat → Int32) (pastMany : Nat → Int32) (undos : Int32) (fresh : Int32) (newValue : Nat → Int32) (newWeight : Nat → Int32) (newMany : Int32) (newBlock : Int32) (newTies : Int32) (newLines : Int32) (hasBlock : Int32) (hasTies : Int32) (size : Int32) (att : Int32) (place : Int32) (sort : Int32) (number : Int32) (fault : Int32) (faultPlace : Int32) (lastFault : Int32) (lastPlace : Int32) (toValue : Nat → Int32) (toWeight : Nat → Int32) (toMany : Int32) (often : Nat → Int32) (firstOf : Nat → Int32) (lastOf : Nat → Int32) (unlikes : Nat → Int32) (unlikeMany : Int32) (isCandidate : Nat → Int32) (modes : Nat → Int32) (fewest : Nat → Int32)  (q : (Nat → Int32) × (Nat → Int32) × Int32 × Int32 × Int32 × Int32 × Int32 × Int32 × Int32) (h : mX6_readRow tape newValue newWeight newMany size att place sort number fault faultPlace  = some q) : MVe l yX6_readRow wsX6_readRow { frames := 9, cells := 0, slots := 0, locals := 172 } D cA adK adV [.ref (ad 0)] (wX6 cA ad thrown tape taped value weight many block ties lines pastValue pastWeight pastMany undos fresh newValue newWeight newMany newBlock newTies newLines hasBlock hasTies size att place sort number fault faultPlace lastFault lastPlace toValue toWeight toMany often firstOf lastOf unlikes unlikeMany isCandidate modes fewest) (wX6 cA ad thrown tape taped value weight many block ties lines pastValue pastWeight pastMany undos fresh q.1 q.2.1 q.2.2.1 newBlock newTies newLines hasBlock hasTies size q.2.2.2.1 q.2.2.2.2.1 q.2.2.2.2.2.1 q.2.2.2.2.2.2.1 q.2.2.2.2.2.2.2.1 q.2.2.2.2.2.2.2.2 lastFault lastPlace toValue toWeight toMany often firstOf lastOf unlikes unlikeMany isCandidate modes fewest) := by
  refine MVe.of (cc := cX6_readRow) (maxL := 2) (by decide) rfl rfl rfl (Nat.le_of_ble_eq_true rfl) ?_
  intro p e s m args below meth c A ls Q hx hb hml hts hown hK hP hD hA hS hE hR hl hret
  have hl : lv_has ls 2 [(0, .ref (ad 0))] := hl
  have f118 := hts (.fieldLink RX6 118 "ModeDeskModel" "fault" "I") (by decide +kernel)
  have f134 := hts (.fieldLink RX6 134 "ModeDeskModel" "newMany" "I") (by decide +kernel)
  have f32 := hts (.fieldLink RX6 32 "ModeDeskModel" "newValue" "[I") (by decide +kernel)
  have f35 := hts (.fieldLink RX6 35 "ModeDeskModel" "newWeight" "[I") (by decide +kernel)
  have f91 := hts (.fieldLink RX6 91 "ModeDeskModel" "sort" "I") (by decide +kernel)
  have iX6 : ∀ w ∈ wsX60, w ∈ wsX6_readRow := by decide +kernel
  unfold mX6_readRow at h
  refine lv_aload_n hx hb dX6_readRow_0 rfl (lv_at hl 0 rfl) ?_
  obtain ⟨q1, eq1, h⟩ := e_b h
  refine xv_ve (As := []) (rest := []) (b := ad 0) hE hR ⟨hx, hb, hml, hown, hts⟩ hl.1 (kX6_goOn l D cA adK adV ad thrown tape taped value weight many block ties lines pastValue pastWeight pastMany undos fresh newValue newWeight newMany newBlock newTies newLines hasBlock hasTies size att place sort number fault faultPlace lastFault lastPlace toValue toWeight toMany often firstOf lastOf unlikes unlikeMany isCandidate modes fewest   _ eq1) (cwV 0 hts gX6_readRow_X6_goOn rfl rfl rfl (by decide +kernel) ⟨Nat.le_of_ble_eq_true rfl, Nat.le_of_ble_eq_true rfl⟩) rfl hK hP hD hS hA (va_recv hK hP (ci := 6) (q0 := 0) rfl rfl) [0, 1, 2, 3, 4, 5, 6, 7, 8, 9, 10, 11, 12, 13, 14, 15, 16, 17] rfl (by decide +kernel) rfl (Nat.le_of_ble_eq_true rfl) dX6_readRow_1 ⟨Nat.zero_le _, Nat.zero_le _⟩ (fun H locs hP hD hS => ?_)
  have hP : va_P D vwCl (wX6 cA ad thrown tape taped value weight many block ties lines pastValue pastWeight pastMany undos fresh newValue newWeight newMany newBlock newTies newLines hasBlock hasTies size q1.1 q1.2.1 q1.2.2.1 q1.2.2.2 fault faultPlace lastFault lastPlace toValue toWeight toMany often firstOf lastOf unlikes unlikeMany isCandidate modes fewest) H := hP
  have hD : va_D A (wX6 cA ad thrown tape taped value weight many block ties lines pastValue pastWeight pastMany undos fresh newValue newWeight newMany newBlock newTies newLines hasBlock hasTies size q1.1 q1.2.1 q1.2.2.1 q1.2.2.2 fault faultPlace lastFault lastPlace toValue toWeight toMany often firstOf lastOf unlikes unlikeMany isCandidate modes fewest) := hD
  refine lv_aload_n hx hb dX6_readRow_4 rfl (lv_at hl 0 rfl) ?_
  refine va_get (D := D) (ci := 6) (v := .int fault) (C := RX6) (T := TX6) (N := 42) hx hb hts iX6 hown hK hP 0 rfl rfl 27 (Nat.le_of_ble_eq_true rfl) f118 (fun _ h9 => h9) rfl dX6_readRow_5 ?_
  obtain ⟨z2, ez2, h⟩ := e_b h
  have hJ3 : ∀ (ls : Array Slot) (H : Heap) (locs : List Loc), lv_has ls 2 [(0, .ref (ad 0))] → va_P D vwCl (wX6 cA ad thrown tape taped value weight many block ties lines pastValue pastWeight pastMany undos fresh newValue newWeight newMany newBlock newTies newLines hasBlock hasTies size q1.1 q1.2.1 q1.2.2.1 q1.2.2.2 z2.1 z2.2 lastFault lastPlace toValue toWeight toMany often firstOf lastOf unlikes unlikeMany isCandidate modes fewest) H → va_D A (wX6 cA ad thrown tape taped value weight many block ties lines pastValue pastWeight pastMany undos fresh newValue newWeight newMany newBlock newTies newLines hasBlock hasTies size q1.1 q1.2.1 q1.2.2.1 q1.2.2.2 z2.1 z2.2 lastFault lastPlace toValue toWeight toMany often firstOf lastOf unlikes unlikeMany isCandidate modes fewest) → va_S A s.heap H locs → W p l e (headSpec wsX6_readRow { frames := 9, cells := 0, slots := 0, locals := 172 }).room s m args below meth c H locs 0 0 Q (F0 m 24 ls []) := by
    intro ls H locs hl hP hD hS
    have hL24 : ∀ (n : Nat) (newValue : Nat → Int32) (newWeight : Nat → Int32) (newMany : Int32) (att : Int32) (place : Int32) (sort : Int32) (number : Int32) (fault : Int32) (faultPlace : Int32) (ls : Array Slot) (H : Heap) (locs : List Loc), lv_has ls 2 [(0, .ref (ad 0))] → va_P D vwCl (wX6 cA ad thrown tape taped value weight many block ties lines pastValue pastWeight pastMany undos fresh newValue newWeight newMany newBlock newTies newLines hasBlock hasTies size att place sort number fault faultPlace lastFault lastPlace toValue toWeight toMany often firstOf lastOf unlikes unlikeMany isCandidate modes fewest) H → va_D A (wX6 cA ad thrown tape taped value weight many block ties lines pastValue pastWeight pastMany undos fresh newValue newWeight newMany newBlock newTies newLines hasBlock hasTies size att place sort number fault faultPlace lastFault lastPlace toValue toWeight toMany often firstOf lastOf unlikes unlikeMany isCandidate modes fewest) → va_S A s.heap H locs → mX6_readRow_L24 tape size n newValue newWeight newMany att place sort number fault faultPlace = some q → W p l e (headSpec wsX6_readRow { frames := 9, cells := 0, slots := 0, locals := 172 }).room s m args below meth c H locs 0 0 Q (F0 m 24 ls []) := by
      intro n
      induction n with
      | zero => intro newValue newWeight newMany att place sort number fault faultPlace ls H locs hl hP hD hS h; exact e_n h
      | succ n ih24 =>
        intro newValue newWeight newMany att place sort number fault faultPlace ls H locs hl hP hD hS h
        rw [mX6_readRow_L24.eq_2] at h
        refine lv_aload_n hx hb dX6_readRow_24 rfl (lv_at hl 0 rfl) ?_
        refine va_get (D := D) (ci := 6) (v := .int fault) (C := RX6) (T := TX6) (N := 42) hx hb hts iX6 hown hK hP 0 rfl rfl 27 (Nat.le_of_ble_eq_true rfl) f118 (fun _ h9 => h9) rfl dX6_readRow_25 ?_
        refine lv_if_ne (tgt := 103) hx hb dX6_readRow_28 (by decide) (fun c5 => ?_) (fun c5 => ?_)
        · have h := e_t c5 h
          obtain rfl := e_s h
          exact hret hP hS dX6_readRow_103
        · have h := e_f (not_not_intro c5) h
          refine lv_aload_n hx hb dX6_readRow_31 rfl (lv_at hl 0 rfl) ?_
          refine va_get (D := D) (ci := 6) (v := .int sort) (C := RX6) (T := TX6) (N := 42) hx hb hts iX6 hown hK hP 0 rfl rfl 25 (Nat.le_of_ble_eq_true rfl) f91 (fun _ h9 => h9) rfl dX6_readRow_32 ?_
          refine lv_iconst (v := 1) hx hb dX6_readRow_35 (by decide) ?_
          refine lv_icmp_ne (tgt := 103) hx hb dX6_readRow_36 (by decide) (fun c6 => ?_) (fun c6 => ?_)
          · have h := e_t c6 h
            obtain rfl := e_s h
            exact hret hP hS dX6_readRow_103
          · have h := e_f (not_not_intro c6) h
            refine lv_aload_n hx hb dX6_readRow_39 rfl (lv_at hl 0 rfl) ?_
            refine va_get (D := D) (ci := 6) (v := .int newMany) (C := RX6) (T := TX6) (N := 42) hx hb hts iX6 hown hK hP 0 rfl rfl 16 (Nat.le_of_ble_eq_true rfl) f134 (fun _ h9 => h9) rfl dX6_readRow_40 ?_
            refine lv_bipush (v := 120) hx hb dX6_readRow_43 (by decide) ?_
            obtain ⟨z7, ez7, h⟩ := e_b h
            have hJ8 : ∀ (ls : Array Slot) (H : Heap) (locs : List Loc), lv_has ls 2 [(0, .ref (ad 0))] → va_P D vwCl (wX6 cA ad thrown tape taped value weight many block ties lines pastValue pastWeight pastMany undos fresh newValue newWeight newMany newBlock newTies newLines hasBlock hasTies size att place sort number z7.1 z7.2 lastFault lastPlace toValue toWeight toMany often firstOf lastOf unlikes unlikeMany isCandidate modes fewest) H → va_D A (wX6 cA ad thrown tape taped value weight many block ties lines pastValue pastWeight pastMany undos fresh newValue newWeight newMany newBlock newTies newLines hasBlock hasTies size att place sort number z7.1 z7.2 lastFault lastPlace toValue toWeight toMany often firstOf lastOf unlikes unlikeMany isCandidate modes fewest) → va_S A s.heap H locs → W p l e (headSpec wsX6_readRow { frames := 9, cells := 0, slots := 0, locals := 172 }).room s m args below meth c H locs 0 0 Q (F0 m 53 ls []) := by
              intro ls H locs hl hP hD hS
              refine lv_aload_n hx hb dX6_readRow_53 rfl (lv_at hl 0 rfl) ?_
              refine lv_iconst (v := 0) hx hb dX6_readRow_54 (by decide) ?_
              refine lv_sipush (v := 999) hx hb dX6_readRow_55 (by decide) ?_
              obtain ⟨q9, eq9, h⟩ := e_b h
              refine xv_ie (As := [.int 0, .int 999]) (rest := []) (b := ad 0) hE hR ⟨hx, hb, hml, hown, hts⟩ hl.1 (kX6_within l D cA adK adV ad thrown tape taped value weight many block ties lines pastValue pastWeight pastMany undos fresh newValue newWeight newMany newBlock newTies newLines hasBlock hasTies size att place sort number z7.1 z7.2 lastFault lastPlace toValue toWeight toMany often firstOf lastOf unlikes unlikeMany isCandidate modes fewest 0 999  _ eq9) (cwV 2 hts gX6_readRow_X6_within rfl rfl rfl (by decide +kernel) ⟨Nat.le_of_ble_eq_true rfl, Nat.le_of_ble_eq_true rfl⟩) rfl hK hP hD hS hA (va_recv hK hP (ci := 6) (q0 := 0) rfl rfl) [0, 1, 2, 3, 4, 5, 6, 7, 8, 9, 10, 11, 12, 13, 14, 15, 16, 17] rfl (by decide +kernel) rfl (Nat.le_of_ble_eq_true rfl) dX6_readRow_58 ⟨Nat.zero_le _, Nat.zero_le _⟩ (fun H locs hP hD hS hnq9 => ?_)
              have hP : va_P D vwCl (wX6 cA ad thrown tape taped value weight many block ties lines pastValue pastWeight pastMany undos fresh newValue newWeight newMany newBlock newTies newLines hasBlock hasTies size q9.2.1 q9.2.2.1 q9.2.2.2.1 q9.2.2.2.2.1 q9.2.2.2.2.2.1 q9.2.2.2.2.2.2 lastFault lastPlace toValue toWeight toMany often firstOf lastOf unlikes unlikeMany isCandidate modes fewest) H := hP
              have hD : va_D A (wX6 cA ad thrown tape taped value weight many block ties lines pastValue pastWeight pastMany undos fresh newValue newWeight newMany newBlock newTies newLines hasBlock hasTies size q9.2.1 q9.2.2.1 q9.2.2.2.1 q9.2.2.2.2.1 q9.2.2.2.2.2.1 q9.2.2.2.2.2.2 lastFault lastPlace toValue toWeight toMany often firstOf lastOf unlikes unlikeMany isCandidate modes fewest) := hD
              refine lv_istore_n (lv' := [(1, .int q9.1), (0, .ref (ad 0))]) hx hb dX6_readRow_61 rfl hl (by decide) rfl (fun ls hl => ?_)
              refine lv_aload_n hx hb dX6_readRow_62 rfl (lv_at hl 1 rfl) ?_
              refine va_get (D := D) (ci := 6) (v := .int q9.2.2.2.2.2.1) (C := RX6) (T := TX6) (N := 42) hx hb hts iX6 hown hK hP 0 rfl rfl 27 (Nat.le_of_ble_eq_true rfl) f118 (fun _ h9 => h9) rfl dX6_readRow_63 ?_
              refine lv_if_eq (tgt := 70) hx hb dX6_readRow_66 (by decide) (fun c10 => ?_) (fun c10 => ?_)
              · have h := e_t c10 h
                refine lv_aload_n hx hb dX6_readRow_70 rfl (lv_at hl 1 rfl) ?_
                refine va_get (D := D) (ci := 6) (v := .ref (ad 7)) (C := RX6) (T := TX6) (N := 42) hx hb hts iX6 hown hK hP 0 rfl rfl 14 (Nat.le_of_ble_eq_true rfl) f32 (fun _ h9 => h9) rfl dX6_readRow_71 ?_
                refine lv_aload_n hx hb dX6_readRow_74 rfl (lv_at hl 1 rfl) ?_
                refine va_get (D := D) (ci := 6) (v := .int newMany) (C := RX6) (T := TX6) (N := 42) hx hb hts iX6 hown hK hP 0 rfl rfl 16 (Nat.le_of_ble_eq_true rfl) f134 (fun _ h9 => h9) rfl dX6_readRow_75 ?_
                refine lv_iload_n hx hb dX6_readRow_78 rfl (lv_at hl 0 rfl) ?_
                obtain ⟨a11, ea11, na11, h⟩ := e_wr h
                refine xa_iast hx hb hK hP hD hS 7 rfl na11 ea11 dX6_readRow_79 (fun H locs hP hD hS => ?_)
                have hP : va_P D vwCl (wX6 cA ad thrown tape taped value weight many block ties lines pastValue pastWeight pastMany undos fresh a11 newWeight newMany newBlock newTies newLines hasBlock hasTies size q9.2.1 q9.2.2.1 q9.2.2.2.1 q9.2.2.2.2.1 q9.2.2.2.2.2.1 q9.2.2.2.2.2.2 lastFault lastPlace toValue toWeight toMany often firstOf lastOf unlikes unlikeMany isCandidate modes fewest) H := hP
                have hD : va_D A (wX6 cA ad thrown tape taped value weight many block ties lines pastValue pastWeight pastMany undos fresh a11 newWeight newMany newBlock newTies newLines hasBlock hasTies size q9.2.1 q9.2.2.1 q9.2.2.2.1 q9.2.2.2.2.1 q9.2.2.2.2.2.1 q9.2.2.2.2.2.2 lastFault lastPlace toValue toWeight toMany often firstOf lastOf unlikes unlikeMany isCandidate modes fewest) := hD
                refine lv_aload_n hx hb dX6_readRow_80 rfl (lv_at hl 1 rfl) ?_
                refine va_get (D := D) (ci := 6) (v := .ref (ad 8)) (C := RX6) (T := TX6) (N := 42) hx hb hts iX6 hown hK hP 0 rfl rfl 15 (Nat.le_of_ble_eq_true rfl) f35 (fun _ h9 => h9) rfl dX6_readRow_81 ?_
                refine lv_aload_n hx hb dX6_readRow_84 rfl (lv_at hl 1 rfl) ?_
                refine va_get (D := D) (ci := 6) (v := .int newMany) (C := RX6) (T := TX6) (N := 42) hx hb hts iX6 hown hK hP 0 rfl rfl 16 (Nat.le_of_ble_eq_true rfl) f134 (fun _ h9 => h9) rfl dX6_readRow_85 ?_
                refine lv_iconst (v := 1) hx hb dX6_readRow_88 (by decide) ?_
                obtain ⟨a12, ea12, na12, h⟩ := e_wr h
                refine xa_iast hx hb hK hP hD hS 8 rfl na12 ea12 dX6_readRow_89 (fun H locs hP hD hS => ?_)
                have hP : va_P D vwCl (wX6 cA ad thrown tape taped value weight many block ties lines pastValue pastWeight pastMany undos fresh a11 a12 newMany newBlock newTies newLines hasBlock hasTies size q9.2.1 q9.2.2.1 q9.2.2.2.1 q9.2.2.2.2.1 q9.2.2.2.2.2.1 q9.2.2.2.2.2.2 lastFault lastPlace toValue toWeight toMany often firstOf lastOf unlikes unlikeMany isCandidate modes fewest) H := hP
                have hD : va_D A (wX6 cA ad thrown tape taped value weight many block ties lines pastValue pastWeight pastMany undos fresh a11 a12 newMany newBlock newTies newLines hasBlock hasTies size q9.2.1 q9.2.2.1 q9.2.2.2.1 q9.2.2.2.2.1 q9.2.2.2.2.2.1 q9.2.2.2.2.2.2 lastFault lastPlace toValue toWeight toMany often firstOf lastOf unlikes unlikeMany isCandidate modes fewest) := hD
                refine lv_aload_n hx hb dX6_readRow_90 rfl (lv_at hl 1 rfl) ?_
                refine lv_dup hx hb dX6_readRow_91 rfl ?_
                refine va_get (D := D) (ci := 6) (v := .int newMany) (C := RX6) (T := TX6) (N := 42) hx hb hts iX6 hown hK hP 0 rfl rfl 16 (Nat.le_of_ble_eq_true rfl) f134 (fun _ h9 => h9) rfl dX6_readRow_92 ?_
                refine lv_iconst (v := 1) hx hb dX6_readRow_95 (by decide) ?_
                refine lv_iadd hx hb dX6_readRow_96 ?_
                refine va_put (D := D) (ci := 6) (v := .int (newMany + 1)) (ty := .int) (C := RX6) (T := TX6) (N := 42) hx hb hts iX6 tyX6 tyX6_ok nmX6 hown hK hP hD hS 0 rfl rfl 16 (Nat.le_of_ble_eq_true rfl) f134 (fun _ h9 => h9) rfl (tyX6_ok 16 (Nat.le_of_ble_eq_true rfl)) rfl rfl (Nat.le_of_ble_eq_true rfl) dX6_readRow_97 (fun H locs hP hD hS => ?_)
                have hP : va_P D vwCl (wX6 cA ad thrown tape taped value weight many block ties lines pastValue pastWeight pastMany undos fresh a11 a12 (newMany + 1) newBlock newTies newLines hasBlock hasTies size q9.2.1 q9.2.2.1 q9.2.2.2.1 q9.2.2.2.2.1 q9.2.2.2.2.2.1 q9.2.2.2.2.2.2 lastFault lastPlace toValue toWeight toMany often firstOf lastOf unlikes unlikeMany isCandidate modes fewest) H := hP
                have hD : va_D A (wX6 cA ad thrown tape taped value weight many block ties lines pastValue pastWeight pastMany undos fresh a11 a12 (newMany + 1) newBlock newTies newLines hasBlock hasTies size q9.2.1 q9.2.2.1 q9.2.2.2.1 q9.2.2.2.2.1 q9.2.2.2.2.2.1 q9.2.2.2.2.2.2 lastFault lastPlace toValue toWeight toMany often firstOf lastOf unlikes unlikeMany isCandidate modes fewest) := hD
                refine lv_goto (tgt := 24) hx hb dX6_readRow_100 (by decide) ?_
                exact ih24 a11 a12 (newMany + 1) q9.2.1 q9.2.2.1 q9.2.2.2.1 q9.2.2.2.2.1 q9.2.2.2.2.2.1 q9.2.2.2.2.2.2 _ _ _ (lv_sub hl [1] rfl) hP hD hS h
              · have h := e_f c10 h
                obtain rfl := e_s h
                exact hret hP hS dX6_readRow_69
            have h := ez7
            refine lv_icmp_ne (tgt := 53) hx hb dX6_readRow_45 (by decide) (fun c13 => ?_) (fun c13 => ?_)
            · have h := e_t c13 h
              obtain rfl := e_s h
              exact hJ8 _ _ _ (lv_sub hl [0] rfl) hP hD hS
            · have h := e_f (not_not_intro c13) h
              refine lv_aload_n hx hb dX6_readRow_48 rfl (lv_at hl 0 rfl) ?_
              refine lv_iconst (v := 2) hx hb dX6_readRow_49 (by decide) ?_
              obtain ⟨q14, eq14, h⟩ := e_b h
              refine xv_v0 (As := [.int 2]) (rest := []) (ci := 6) (b := ad 0) ⟨hx, hb, hml, hown, hts⟩ hl.1 (kX6_wrong l D cA ad thrown tape taped value weight many block ties lines pastValue pastWeight pastMany undos fresh newValue newWeight newMany newBlock newTies newLines hasBlock hasTies size att place sort number fault faultPlace lastFault lastPlace toValue toWeight toMany often firstOf lastOf unlikes unlikeMany isCandidate modes fewest 2  _ eq14) (cwV 1 hts gX6_readRow_X6_wrong rfl rfl rfl (by decide +kernel) ⟨Nat.le_of_ble_eq_true rfl, Nat.le_of_ble_eq_true rfl⟩) rfl hK hP hD hS hA 0 rfl rfl rfl rfl (Nat.le_of_ble_eq_true rfl) dX6_readRow_50 ⟨Nat.zero_le _, Nat.zero_le _⟩ (fun H locs hP hD hS => ?_)
              have hP : va_P D vwCl (wX6 cA ad thrown tape taped value weight many block ties lines pastValue pastWeight pastMany undos fresh newValue newWeight newMany newBlock newTies newLines hasBlock hasTies size att place sort number q14.1 q14.2 lastFault lastPlace toValue toWeight toMany often firstOf lastOf unlikes unlikeMany isCandidate modes fewest) H := hP
              have hD : va_D A (wX6 cA ad thrown tape taped value weight many block ties lines pastValue pastWeight pastMany undos fresh newValue newWeight newMany newBlock newTies newLines hasBlock hasTies size att place sort number q14.1 q14.2 lastFault lastPlace toValue toWeight toMany often firstOf lastOf unlikes unlikeMany isCandidate modes fewest) := hD
              obtain rfl := e_s h
              exact hJ8 _ _ _ (lv_sub hl [0] rfl) hP hD hS
    exact hL24 FU newValue newWeight newMany q1.1 q1.2.1 q1.2.2.1 q1.2.2.2 z2.1 z2.2 _ _ _ (lv_sub hl [0] rfl) hP hD hS h
  have h := ez2
  refine lv_if_ne (tgt := 24) hx hb dX6_readRow_8 (by decide) (fun c15 => ?_) (fun c15 => ?_)
  · have h := e_t c15 h
    obtain rfl := e_s h
    exact hJ3 _ _ _ (lv_sub hl [0] rfl) hP hD hS
  · have h := e_f (not_not_intro c15) h
    refine lv_aload_n hx hb dX6_readRow_11 rfl (lv_at hl 0 rfl) ?_
    refine va_get (D := D) (ci := 6) (v := .int q1.2.2.1) (C := RX6) (T := TX6) (N := 42) hx hb hts iX6 hown hK hP 0 rfl rfl 25 (Nat.le_of_ble_eq_true rfl) f91 (fun _ h9 => h9) rfl dX6_readRow_12 ?_
    refine lv_iconst (v := 1) hx hb dX6_readRow_15 (by decide) ?_
    refine lv_icmp_eq (tgt := 24) hx hb dX6_readRow_16 (by decide) (fun c16 => ?_) (fun c16 => ?_)
    · have h := e_t c16 h
      obtain rfl := e_s h
      exact hJ3 _ _ _ (lv_sub hl [0] rfl) hP hD hS
    · have h := e_f c16 h
      refine lv_aload_n hx hb dX6_readRow_19 rfl (lv_at hl 0 rfl) ?_
      refine lv_iconst (v := 1) hx hb dX6_readRow_20 (by decide) ?_
      obtain ⟨q17, eq17, h⟩ := e_b h
      refine xv_v0 (As := [.int 1]) (rest := []) (ci := 6) (b := ad 0) ⟨hx, hb, hml, hown, hts⟩ hl.1 (kX6_wrong l D cA ad thrown tape taped value weight many block ties lines pastValue pastWeight pastMany undos fresh newValue newWeight newMany newBlock newTies newLines hasBlock hasTies size q1.1 q1.2.1 q1.2.2.1 q1.2.2.2 fault faultPlace lastFault lastPlace toValue toWeight toMany often firstOf lastOf unlikes unlikeMany isCandidate modes fewest 1  _ eq17) (cwV 1 hts gX6_readRow_X6_wrong rfl rfl rfl (by decide +kernel) ⟨Nat.le_of_ble_eq_true rfl, Nat.le_of_ble_eq_true rfl⟩) rfl hK hP hD hS hA 0 rfl rfl rfl rfl (Nat.le_of_ble_eq_true rfl) dX6_readRow_21 ⟨Nat.zero_le _, Nat.zero_le _⟩ (fun H locs hP hD hS => ?_)
      have hP : va_P D vwCl (wX6 cA ad thrown tape taped value weight many block ties lines pastValue pastWeight pastMany undos fresh newValue newWeight newMany newBlock newTies newLines hasBlock hasTies size q1.1 q1.2.1 q1.2.2.1 q1.2.2.2 q17.1 q17.2 lastFault lastPlace toValue toWeight toMany often firstOf lastOf unlikes unlikeMany isCandidate modes fewest) H := hP
      have hD : va_D A (wX6 cA ad thrown tape taped value weight many block ties lines pastValue pastWeight pastMany undos fresh newValue newWeight newMany newBlock newTies newLines hasBlock hasTies size q1.1 q1.2.1 q1.2.2.1 q1.2.2.2 q17.1 q17.2 lastFault lastPlace toValue toWeight toMany often firstOf lastOf unlikes unlikeMany isCandidate modes fewest) := hD
      obtain rfl := e_s h
      exact hJ3 _ _ _ (lv_sub hl [0] rfl) hP hD hS
set_option maxHeartbeats 4000000 in
set_option maxRecDepth 100000 in
theorem kX6_readWeight (l : Launch) (D : va_G) (cA : Nat → ClassId) (adK adV : Nat → Nat) (ad : Nat → Nat) (thrown : Int32) (tape : Nat → Int32) (taped : Int32) (value : Nat → Int32) (weight : Nat → Int32) (many : Int32) (block : Int32) (ties : Int32) (lines : Int32) (pastValue : Nat → Int32) (pastWeight : Nat → Int32) (pastMany : Nat → Int32) (undos : Int32) (fresh : Int32) (newValue : Nat → Int32) (newWeight : Nat → Int32) (newMany : Int32) (newBlock : Int32) (newTies : Int32) (newLines : Int32) (hasBlock : Int32) (hasTies : Int32) (size : Int32) (att : Int32) (place : Int32) (sort : Int32) (number : Int32) (fault : Int32) (faultPlace : Int32) (lastFault : Int32) (lastPlace : Int32) (toValue : Nat → Int32) (toWeight : Nat → Int32) (toMany : Int32) (often : Nat → Int32) (firstOf : Nat → Int32) (lastOf : Nat → Int32) (unlikes : Nat → Int32) (unlikeMany : Int32) (isCandidate : Nat → Int32) (modes : Nat → Int32) (fewest : Nat → Int32)  (q : (Nat → Int32) × Int32 × Int32 × Int32 × Int32 × Int32 × Int32) (h : mX6_readWeight tape newWeight newMany size att place sort number fault faultPlace  = some q) : MVe l yX6_readWeight wsX6_readWeight { frames := 9, cells := 0, slots := 0, locals := 172 } D cA adK adV [.ref (ad 0)] (wX6 cA ad thrown tape taped value weight many block ties lines pastValue pastWeight pastMany undos fresh newValue newWeight newMany newBlock newTies newLines hasBlock hasTies size att place sort number fault faultPlace lastFault lastPlace toValue toWeight toMany often firstOf lastOf unlikes unlikeMany isCandidate modes fewest) (wX6 cA ad thrown tape taped value weight many block ties lines pastValue pastWeight pastMany undos fresh newValue q.1 newMany newBlock newTies newLines hasBlock hasTies size q.2.1 q.2.2.1 q.2.2.2.1 q.2.2.2.2.1 q.2.2.2.2.2.1 q.2.2.2.2.2.2 lastFault lastPlace toValue toWeight toMany often firstOf lastOf unlikes unlikeMany isCandidate modes fewest) := by
  refine MVe.of (cc := cX6_readWeight) (maxL := 3) (by decide) rfl rfl rfl (Nat.le_of_ble_eq_true rfl) ?_
  intro p e s m args below meth c A ls Q hx hb hml hts hown hK hP hD hA hS hE hR hl hret
  have hl : lv_has ls 3 [(0, .ref (ad 0))] := hl
  have f101 := hts (.fieldLink RX6 101 "ModeDeskModel" "number" "I") (by decide +kernel)
  have f118 := hts (.fieldLink RX6 118 "ModeDeskModel" "fault" "I") (by decide +kernel)
  have f134 := hts (.fieldLink RX6 134 "ModeDeskModel" "newMany" "I") (by decide +kernel)
  have f35 := hts (.fieldLink RX6 35 "ModeDeskModel" "newWeight" "[I") (by decide +kernel)
  have f91 := hts (.fieldLink RX6 91 "ModeDeskModel" "sort" "I") (by decide +kernel)
  have iX6 : ∀ w ∈ wsX60, w ∈ wsX6_readWeight := by decide +kernel
  unfold mX6_readWeight at h
  refine lv_aload_n hx hb dX6_readWeight_0 rfl (lv_at hl 0 rfl) ?_
  obtain ⟨q1, eq1, h⟩ := e_b h
  refine xv_ve (As := []) (rest := []) (b := ad 0) hE hR ⟨hx, hb, hml, hown, hts⟩ hl.1 (kX6_goOn l D cA adK adV ad thrown tape taped value weight many block ties lines pastValue pastWeight pastMany undos fresh newValue newWeight newMany newBlock newTies newLines hasBlock hasTies size att place sort number fault faultPlace lastFault lastPlace toValue toWeight toMany often firstOf lastOf unlikes unlikeMany isCandidate modes fewest   _ eq1) (cwV 0 hts gX6_readWeight_X6_goOn rfl rfl rfl (by decide +kernel) ⟨Nat.le_of_ble_eq_true rfl, Nat.le_of_ble_eq_true rfl⟩) rfl hK hP hD hS hA (va_recv hK hP (ci := 6) (q0 := 0) rfl rfl) [0, 1, 2, 3, 4, 5, 6, 7, 8, 9, 10, 11, 12, 13, 14, 15, 16, 17] rfl (by decide +kernel) rfl (Nat.le_of_ble_eq_true rfl) dX6_readWeight_1 ⟨Nat.zero_le _, Nat.zero_le _⟩ (fun H locs hP hD hS => ?_)
  have hP : va_P D vwCl (wX6 cA ad thrown tape taped value weight many block ties lines pastValue pastWeight pastMany undos fresh newValue newWeight newMany newBlock newTies newLines hasBlock hasTies size q1.1 q1.2.1 q1.2.2.1 q1.2.2.2 fault faultPlace lastFault lastPlace toValue toWeight toMany often firstOf lastOf unlikes unlikeMany isCandidate modes fewest) H := hP
  have hD : va_D A (wX6 cA ad thrown tape taped value weight many block ties lines pastValue pastWeight pastMany undos fresh newValue newWeight newMany newBlock newTies newLines hasBlock hasTies size q1.1 q1.2.1 q1.2.2.1 q1.2.2.2 fault faultPlace lastFault lastPlace toValue toWeight toMany often firstOf lastOf unlikes unlikeMany isCandidate modes fewest) := hD
  refine lv_aload_n hx hb dX6_readWeight_4 rfl (lv_at hl 0 rfl) ?_
  refine va_get (D := D) (ci := 6) (v := .int fault) (C := RX6) (T := TX6) (N := 42) hx hb hts iX6 hown hK hP 0 rfl rfl 27 (Nat.le_of_ble_eq_true rfl) f118 (fun _ h9 => h9) rfl dX6_readWeight_5 ?_
  obtain ⟨z2, ez2, h⟩ := e_b h
  have hJ3 : ∀ (ls : Array Slot) (H : Heap) (locs : List Loc), lv_has ls 3 [(0, .ref (ad 0))] → va_P D vwCl (wX6 cA ad thrown tape taped value weight many block ties lines pastValue pastWeight pastMany undos fresh newValue newWeight newMany newBlock newTies newLines hasBlock hasTies size q1.1 q1.2.1 q1.2.2.1 q1.2.2.2 z2.1 z2.2 lastFault lastPlace toValue toWeight toMany often firstOf lastOf unlikes unlikeMany isCandidate modes fewest) H → va_D A (wX6 cA ad thrown tape taped value weight many block ties lines pastValue pastWeight pastMany undos fresh newValue newWeight newMany newBlock newTies newLines hasBlock hasTies size q1.1 q1.2.1 q1.2.2.1 q1.2.2.2 z2.1 z2.2 lastFault lastPlace toValue toWeight toMany often firstOf lastOf unlikes unlikeMany isCandidate modes fewest) → va_S A s.heap H locs → W p l e (headSpec wsX6_readWeight { frames := 9, cells := 0, slots := 0, locals := 172 }).room s m args below meth c H locs 0 0 Q (F0 m 35 ls []) := by
    intro ls H locs hl hP hD hS
    refine lv_aload_n hx hb dX6_readWeight_35 rfl (lv_at hl 0 rfl) ?_
    refine va_get (D := D) (ci := 6) (v := .int q1.2.2.2) (C := RX6) (T := TX6) (N := 42) hx hb hts iX6 hown hK hP 0 rfl rfl 26 (Nat.le_of_ble_eq_true rfl) f101 (fun _ h9 => h9) rfl dX6_readWeight_36 ?_
    refine lv_istore_n (lv' := [(1, .int q1.2.2.2), (0, .ref (ad 0))]) hx hb dX6_readWeight_39 rfl hl (by decide) rfl (fun ls hl => ?_)
    refine lv_aload_n hx hb dX6_readWeight_40 rfl (lv_at hl 1 rfl) ?_
    obtain ⟨q4, eq4, h⟩ := e_b h
    refine xv_ve (As := []) (rest := []) (b := ad 0) hE hR ⟨hx, hb, hml, hown, hts⟩ hl.1 (kX6_goOn l D cA adK adV ad thrown tape taped value weight many block ties lines pastValue pastWeight pastMany undos fresh newValue newWeight newMany newBlock newTies newLines hasBlock hasTies size q1.1 q1.2.1 q1.2.2.1 q1.2.2.2 z2.1 z2.2 lastFault lastPlace toValue toWeight toMany often firstOf lastOf unlikes unlikeMany isCandidate modes fewest   _ eq4) (cwV 0 hts gX6_readWeight_X6_goOn rfl rfl rfl (by decide +kernel) ⟨Nat.le_of_ble_eq_true rfl, Nat.le_of_ble_eq_true rfl⟩) rfl hK hP hD hS hA (va_recv hK hP (ci := 6) (q0 := 0) rfl rfl) [0, 1, 2, 3, 4, 5, 6, 7, 8, 9, 10, 11, 12, 13, 14, 15, 16, 17] rfl (by decide +kernel) rfl (Nat.le_of_ble_eq_true rfl) dX6_readWeight_41 ⟨Nat.zero_le _, Nat.zero_le _⟩ (fun H locs hP hD hS => ?_)
    have hP : va_P D vwCl (wX6 cA ad thrown tape taped value weight many block ties lines pastValue pastWeight pastMany undos fresh newValue newWeight newMany newBlock newTies newLines hasBlock hasTies size q4.1 q4.2.1 q4.2.2.1 q4.2.2.2 z2.1 z2.2 lastFault lastPlace toValue toWeight toMany often firstOf lastOf unlikes unlikeMany isCandidate modes fewest) H := hP
    have hD : va_D A (wX6 cA ad thrown tape taped value weight many block ties lines pastValue pastWeight pastMany undos fresh newValue newWeight newMany newBlock newTies newLines hasBlock hasTies size q4.1 q4.2.1 q4.2.2.1 q4.2.2.2 z2.1 z2.2 lastFault lastPlace toValue toWeight toMany often firstOf lastOf unlikes unlikeMany isCandidate modes fewest) := hD
    refine lv_aload_n hx hb dX6_readWeight_44 rfl (lv_at hl 1 rfl) ?_
    refine lv_iconst (v := 1) hx hb dX6_readWeight_45 (by decide) ?_
    refine lv_bipush (v := 9) hx hb dX6_readWeight_46 (by decide) ?_
    obtain ⟨q5, eq5, h⟩ := e_b h
    refine xv_ie (As := [.int 1, .int 9]) (rest := []) (b := ad 0) hE hR ⟨hx, hb, hml, hown, hts⟩ hl.1 (kX6_within l D cA adK adV ad thrown tape taped value weight many block ties lines pastValue pastWeight pastMany undos fresh newValue newWeight newMany newBlock newTies newLines hasBlock hasTies size q4.1 q4.2.1 q4.2.2.1 q4.2.2.2 z2.1 z2.2 lastFault lastPlace toValue toWeight toMany often firstOf lastOf unlikes unlikeMany isCandidate modes fewest 1 9  _ eq5) (cwV 2 hts gX6_readWeight_X6_within rfl rfl rfl (by decide +kernel) ⟨Nat.le_of_ble_eq_true rfl, Nat.le_of_ble_eq_true rfl⟩) rfl hK hP hD hS hA (va_recv hK hP (ci := 6) (q0 := 0) rfl rfl) [0, 1, 2, 3, 4, 5, 6, 7, 8, 9, 10, 11, 12, 13, 14, 15, 16, 17] rfl (by decide +kernel) rfl (Nat.le_of_ble_eq_true rfl) dX6_readWeight_48 ⟨Nat.zero_le _, Nat.zero_le _⟩ (fun H locs hP hD hS hnq5 => ?_)
    have hP : va_P D vwCl (wX6 cA ad thrown tape taped value weight many block ties lines pastValue pastWeight pastMany undos fresh newValue newWeight newMany newBlock newTies newLines hasBlock hasTies size q5.2.1 q5.2.2.1 q5.2.2.2.1 q5.2.2.2.2.1 q5.2.2.2.2.2.1 q5.2.2.2.2.2.2 lastFault lastPlace toValue toWeight toMany often firstOf lastOf unlikes unlikeMany isCandidate modes fewest) H := hP
    have hD : va_D A (wX6 cA ad thrown tape taped value weight many block ties lines pastValue pastWeight pastMany undos fresh newValue newWeight newMany newBlock newTies newLines hasBlock hasTies size q5.2.1 q5.2.2.1 q5.2.2.2.1 q5.2.2.2.2.1 q5.2.2.2.2.2.1 q5.2.2.2.2.2.2 lastFault lastPlace toValue toWeight toMany often firstOf lastOf unlikes unlikeMany isCandidate modes fewest) := hD
    refine lv_istore_n (lv' := [(2, .int q5.1), (1, .int q1.2.2.2), (0, .ref (ad 0))]) hx hb dX6_readWeight_51 rfl hl (by decide) rfl (fun ls hl => ?_)
    refine lv_aload_n hx hb dX6_readWeight_52 rfl (lv_at hl 2 rfl) ?_
    refine va_get (D := D) (ci := 6) (v := .int q5.2.2.2.2.2.1) (C := RX6) (T := TX6) (N := 42) hx hb hts iX6 hown hK hP 0 rfl rfl 27 (Nat.le_of_ble_eq_true rfl) f118 (fun _ h9 => h9) rfl dX6_readWeight_53 ?_
    refine lv_if_ne (tgt := 66) hx hb dX6_readWeight_56 (by decide) (fun c6 => ?_) (fun c6 => ?_)
    · have h := e_t c6 h
      obtain rfl := e_s h
      exact hret hP hS dX6_readWeight_66
    · have h := e_f (not_not_intro c6) h
      refine lv_aload_n hx hb dX6_readWeight_59 rfl (lv_at hl 2 rfl) ?_
      refine va_get (D := D) (ci := 6) (v := .ref (ad 8)) (C := RX6) (T := TX6) (N := 42) hx hb hts iX6 hown hK hP 0 rfl rfl 15 (Nat.le_of_ble_eq_true rfl) f35 (fun _ h9 => h9) rfl dX6_readWeight_60 ?_
      refine lv_iload_n hx hb dX6_readWeight_63 rfl (lv_at hl 1 rfl) ?_
      refine lv_iload_n hx hb dX6_readWeight_64 rfl (lv_at hl 0 rfl) ?_
      obtain ⟨a7, ea7, na7, h⟩ := e_wr h
      refine xa_iast hx hb hK hP hD hS 8 rfl na7 ea7 dX6_readWeight_65 (fun H locs hP hD hS => ?_)
      have hP : va_P D vwCl (wX6 cA ad thrown tape taped value weight many block ties lines pastValue pastWeight pastMany undos fresh newValue a7 newMany newBlock newTies newLines hasBlock hasTies size q5.2.1 q5.2.2.1 q5.2.2.2.1 q5.2.2.2.2.1 q5.2.2.2.2.2.1 q5.2.2.2.2.2.2 lastFault lastPlace toValue toWeight toMany often firstOf lastOf unlikes unlikeMany isCandidate modes fewest) H := hP
      have hD : va_D A (wX6 cA ad thrown tape taped value weight many block ties lines pastValue pastWeight pastMany undos fresh newValue a7 newMany newBlock newTies newLines hasBlock hasTies size q5.2.1 q5.2.2.1 q5.2.2.2.1 q5.2.2.2.2.1 q5.2.2.2.2.2.1 q5.2.2.2.2.2.2 lastFault lastPlace toValue toWeight toMany often firstOf lastOf unlikes unlikeMany isCandidate modes fewest) := hD
      obtain rfl := e_s h
      exact hret hP hS dX6_readWeight_66
  have h := ez2
  refine lv_if_ne (tgt := 35) hx hb dX6_readWeight_8 (by decide) (fun c8 => ?_) (fun c8 => ?_)
  · have h := e_t c8 h
    obtain rfl := e_s h
    exact hJ3 _ _ _ (lv_sub hl [0] rfl) hP hD hS
  · have h := e_f (not_not_intro c8) h
    refine lv_aload_n hx hb dX6_readWeight_11 rfl (lv_at hl 0 rfl) ?_
    refine va_get (D := D) (ci := 6) (v := .int q1.2.2.1) (C := RX6) (T := TX6) (N := 42) hx hb hts iX6 hown hK hP 0 rfl rfl 25 (Nat.le_of_ble_eq_true rfl) f91 (fun _ h9 => h9) rfl dX6_readWeight_12 ?_
    refine lv_iconst (v := 1) hx hb dX6_readWeight_15 (by decide) ?_
    refine lv_icmp_ne (tgt := 30) hx hb dX6_readWeight_16 (by decide) (fun c9 => ?_) (fun c9 => ?_)
    · have h := e_t c9 h
      refine lv_aload_n hx hb dX6_readWeight_30 rfl (lv_at hl 0 rfl) ?_
      refine lv_iconst (v := 1) hx hb dX6_readWeight_31 (by decide) ?_
      obtain ⟨q10, eq10, h⟩ := e_b h
      refine xv_v0 (As := [.int 1]) (rest := []) (ci := 6) (b := ad 0) ⟨hx, hb, hml, hown, hts⟩ hl.1 (kX6_wrong l D cA ad thrown tape taped value weight many block ties lines pastValue pastWeight pastMany undos fresh newValue newWeight newMany newBlock newTies newLines hasBlock hasTies size q1.1 q1.2.1 q1.2.2.1 q1.2.2.2 fault faultPlace lastFault lastPlace toValue toWeight toMany often firstOf lastOf unlikes unlikeMany isCandidate modes fewest 1  _ eq10) (cwV 1 hts gX6_readWeight_X6_wrong rfl rfl rfl (by decide +kernel) ⟨Nat.le_of_ble_eq_true rfl, Nat.le_of_ble_eq_true rfl⟩) rfl hK hP hD hS hA 0 rfl rfl rfl rfl (Nat.le_of_ble_eq_true rfl) dX6_readWeight_32 ⟨Nat.zero_le _, Nat.zero_le _⟩ (fun H locs hP hD hS => ?_)
      have hP : va_P D vwCl (wX6 cA ad thrown tape taped value weight many block ties lines pastValue pastWeight pastMany undos fresh newValue newWeight newMany newBlock newTies newLines hasBlock hasTies size q1.1 q1.2.1 q1.2.2.1 q1.2.2.2 q10.1 q10.2 lastFault lastPlace toValue toWeight toMany often firstOf lastOf unlikes unlikeMany isCandidate modes fewest) H := hP
      have hD : va_D A (wX6 cA ad thrown tape taped value weight many block ties lines pastValue pastWeight pastMany undos fresh newValue newWeight newMany newBlock newTies newLines hasBlock hasTies size q1.1 q1.2.1 q1.2.2.1 q1.2.2.2 q10.1 q10.2 lastFault lastPlace toValue toWeight toMany often firstOf lastOf unlikes unlikeMany isCandidate modes fewest) := hD
      obtain rfl := e_s h
      exact hJ3 _ _ _ (lv_sub hl [0] rfl) hP hD hS
    · have h := e_f (not_not_intro c9) h
      refine lv_aload_n hx hb dX6_readWeight_19 rfl (lv_at hl 0 rfl) ?_
      refine va_get (D := D) (ci := 6) (v := .int q1.2.2.2) (C := RX6) (T := TX6) (N := 42) hx hb hts iX6 hown hK hP 0 rfl rfl 26 (Nat.le_of_ble_eq_true rfl) f101 (fun _ h9 => h9) rfl dX6_readWeight_20 ?_
      refine lv_aload_n hx hb dX6_readWeight_23 rfl (lv_at hl 0 rfl) ?_
      refine va_get (D := D) (ci := 6) (v := .int newMany) (C := RX6) (T := TX6) (N := 42) hx hb hts iX6 hown hK hP 0 rfl rfl 16 (Nat.le_of_ble_eq_true rfl) f134 (fun _ h9 => h9) rfl dX6_readWeight_24 ?_
      refine lv_icmp_lt (tgt := 35) hx hb dX6_readWeight_27 (by decide) (fun c11 => ?_) (fun c11 => ?_)
      · have h := e_t c11 h
        obtain rfl := e_s h
        exact hJ3 _ _ _ (lv_sub hl [0] rfl) hP hD hS
      · have h := e_f c11 h
        refine lv_aload_n hx hb dX6_readWeight_30 rfl (lv_at hl 0 rfl) ?_
        refine lv_iconst (v := 1) hx hb dX6_readWeight_31 (by decide) ?_
        obtain ⟨q12, eq12, h⟩ := e_b h
        refine xv_v0 (As := [.int 1]) (rest := []) (ci := 6) (b := ad 0) ⟨hx, hb, hml, hown, hts⟩ hl.1 (kX6_wrong l D cA ad thrown tape taped value weight many block ties lines pastValue pastWeight pastMany undos fresh newValue newWeight newMany newBlock newTies newLines hasBlock hasTies size q1.1 q1.2.1 q1.2.2.1 q1.2.2.2 fault faultPlace lastFault lastPlace toValue toWeight toMany often firstOf lastOf unlikes unlikeMany isCandidate modes fewest 1  _ eq12) (cwV 1 hts gX6_readWeight_X6_wrong rfl rfl rfl (by decide +kernel) ⟨Nat.le_of_ble_eq_true rfl, Nat.le_of_ble_eq_true rfl⟩) rfl hK hP hD hS hA 0 rfl rfl rfl rfl (Nat.le_of_ble_eq_true rfl) dX6_readWeight_32 ⟨Nat.zero_le _, Nat.zero_le _⟩ (fun H locs hP hD hS => ?_)
        have hP : va_P D vwCl (wX6 cA ad thrown tape taped value weight many block ties lines pastValue pastWeight pastMany undos fresh newValue newWeight newMany newBlock newTies newLines hasBlock hasTies size q1.1 q1.2.1 q1.2.2.1 q1.2.2.2 q12.1 q12.2 lastFault lastPlace toValue toWeight toMany often firstOf lastOf unlikes unlikeMany isCandidate modes fewest) H := hP
        have hD : va_D A (wX6 cA ad thrown tape taped value weight many block ties lines pastValue pastWeight pastMany undos fresh newValue newWeight newMany newBlock newTies newLines hasBlock hasTies size q1.1 q1.2.1 q1.2.2.1 q1.2.2.2 q12.1 q12.2 lastFault lastPlace toValue toWeight toMany often firstOf lastOf unlikes unlikeMany isCandidate modes fewest) := hD
        obtain rfl := e_s h
        exact hJ3 _ _ _ (lv_sub hl [0] rfl) hP hD hS
set_option maxHeartbeats 4000000 in
set_option maxRecDepth 100000 in
theorem kX6_readBlock (l : Launch) (D : va_G) (cA : Nat → ClassId) (adK adV : Nat → Nat) (ad : Nat → Nat) (thrown : Int32) (tape : Nat → Int32) (taped : Int32) (value : Nat → Int32) (weight : Nat → Int32) (many : Int32) (block : Int32) (ties : Int32) (lines : Int32) (pastValue : Nat → Int32) (pastWeight : Nat → Int32) (pastMany : Nat → Int32) (undos : Int32) (fresh : Int32) (newValue : Nat → Int32) (newWeight : Nat → Int32) (newMany : Int32) (newBlock : Int32) (newTies : Int32) (newLines : Int32) (hasBlock : Int32) (hasTies : Int32) (size : Int32) (att : Int32) (place : Int32) (sort : Int32) (number : Int32) (fault : Int32) (faultPlace : Int32) (lastFault : Int32) (lastPlace : Int32) (toValue : Nat → Int32) (toWeight : Nat → Int32) (toMany : Int32) (often : Nat → Int32) (firstOf : Nat → Int32) (lastOf : Nat → Int32) (unlikes : Nat → Int32) (unlikeMany : Int32) (isCandidate : Nat → Int32) (modes : Nat → Int32) (fewest : Nat → Int32)  (q : Int32 × Int32 × Int32 × Int32 × Int32 × Int32 × Int32 × Int32) (h : mX6_readBlock tape newBlock hasBlock size att place sort number fault faultPlace  = some q) : MVe l yX6_readBlock wsX6_readBlock { frames := 9, cells := 0, slots := 0, locals := 172 } D cA adK adV [.ref (ad 0)] (wX6 cA ad thrown tape taped value weight many block ties lines pastValue pastWeight pastMany undos fresh newValue newWeight newMany newBlock newTies newLines hasBlock hasTies size att place sort number fault faultPlace lastFault lastPlace toValue toWeight toMany often firstOf lastOf unlikes unlikeMany isCandidate modes fewest) (wX6 cA ad thrown tape taped value weight many block ties lines pastValue pastWeight pastMany undos fresh newValue newWeight newMany q.1 newTies newLines q.2.1 hasTies size q.2.2.1 q.2.2.2.1 q.2.2.2.2.1 q.2.2.2.2.2.1 q.2.2.2.2.2.2.1 q.2.2.2.2.2.2.2 lastFault lastPlace toValue toWeight toMany often firstOf lastOf unlikes unlikeMany isCandidate modes fewest) := by
  refine MVe.of (cc := cX6_readBlock) (maxL := 1) (by decide) rfl rfl rfl (Nat.le_of_ble_eq_true rfl) ?_
  intro p e s m args below meth c A ls Q hx hb hml hts hown hK hP hD hA hS hE hR hl hret
  have hl : lv_has ls 1 [(0, .ref (ad 0))] := hl
  have f141 := hts (.fieldLink RX6 141 "ModeDeskModel" "hasBlock" "Z") (by decide +kernel)
  have f145 := hts (.fieldLink RX6 145 "ModeDeskModel" "newBlock" "I") (by decide +kernel)
  have iX6 : ∀ w ∈ wsX60, w ∈ wsX6_readBlock := by decide +kernel
  unfold mX6_readBlock at h
  refine lv_aload_n hx hb dX6_readBlock_0 rfl (lv_at hl 0 rfl) ?_
  refine va_get (D := D) (ci := 6) (v := .int hasBlock) (C := RX6) (T := TX6) (N := 42) hx hb hts iX6 hown hK hP 0 rfl rfl 20 (Nat.le_of_ble_eq_true rfl) f141 (fun _ h9 => h9) rfl dX6_readBlock_1 ?_
  obtain ⟨z1, ez1, h⟩ := e_b h
  have hJ2 : ∀ (ls : Array Slot) (H : Heap) (locs : List Loc), lv_has ls 1 [(0, .ref (ad 0))] → va_P D vwCl (wX6 cA ad thrown tape taped value weight many block ties lines pastValue pastWeight pastMany undos fresh newValue newWeight newMany newBlock newTies newLines hasBlock hasTies size att place sort number z1.1 z1.2 lastFault lastPlace toValue toWeight toMany often firstOf lastOf unlikes unlikeMany isCandidate modes fewest) H → va_D A (wX6 cA ad thrown tape taped value weight many block ties lines pastValue pastWeight pastMany undos fresh newValue newWeight newMany newBlock newTies newLines hasBlock hasTies size att place sort number z1.1 z1.2 lastFault lastPlace toValue toWeight toMany often firstOf lastOf unlikes unlikeMany isCandidate modes fewest) → va_S A s.heap H locs → W p l e (headSpec wsX6_readBlock { frames := 9, cells := 0, slots := 0, locals := 172 }).room s m args below meth c H locs 0 0 Q (F0 m 12 ls []) := by
    intro ls H locs hl hP hD hS
    refine lv_aload_n hx hb dX6_readBlock_12 rfl (lv_at hl 0 rfl) ?_
    refine lv_iconst (v := 1) hx hb dX6_readBlock_13 (by decide) ?_
    refine va_put (D := D) (ci := 6) (v := .int 1) (ty := .boolean) (C := RX6) (T := TX6) (N := 42) hx hb hts iX6 tyX6 tyX6_ok nmX6 hown hK hP hD hS 0 rfl rfl 20 (Nat.le_of_ble_eq_true rfl) f141 (fun _ h9 => h9) rfl (tyX6_ok 20 (Nat.le_of_ble_eq_true rfl)) rfl rfl (Nat.le_of_ble_eq_true rfl) dX6_readBlock_14 (fun H locs hP hD hS => ?_)
    have hP : va_P D vwCl (wX6 cA ad thrown tape taped value weight many block ties lines pastValue pastWeight pastMany undos fresh newValue newWeight newMany newBlock newTies newLines 1 hasTies size att place sort number z1.1 z1.2 lastFault lastPlace toValue toWeight toMany often firstOf lastOf unlikes unlikeMany isCandidate modes fewest) H := hP
    have hD : va_D A (wX6 cA ad thrown tape taped value weight many block ties lines pastValue pastWeight pastMany undos fresh newValue newWeight newMany newBlock newTies newLines 1 hasTies size att place sort number z1.1 z1.2 lastFault lastPlace toValue toWeight toMany often firstOf lastOf unlikes unlikeMany isCandidate modes fewest) := hD
    refine lv_aload_n hx hb dX6_readBlock_17 rfl (lv_at hl 0 rfl) ?_
    obtain ⟨q3, eq3, h⟩ := e_b h
    refine xv_ve (As := []) (rest := []) (b := ad 0) hE hR ⟨hx, hb, hml, hown, hts⟩ hl.1 (kX6_goOn l D cA adK adV ad thrown tape taped value weight many block ties lines pastValue pastWeight pastMany undos fresh newValue newWeight newMany newBlock newTies newLines 1 hasTies size att place sort number z1.1 z1.2 lastFault lastPlace toValue toWeight toMany often firstOf lastOf unlikes unlikeMany isCandidate modes fewest   _ eq3) (cwV 0 hts gX6_readBlock_X6_goOn rfl rfl rfl (by decide +kernel) ⟨Nat.le_of_ble_eq_true rfl, Nat.le_of_ble_eq_true rfl⟩) rfl hK hP hD hS hA (va_recv hK hP (ci := 6) (q0 := 0) rfl rfl) [0, 1, 2, 3, 4, 5, 6, 7, 8, 9, 10, 11, 12, 13, 14, 15, 16, 17] rfl (by decide +kernel) rfl (Nat.le_of_ble_eq_true rfl) dX6_readBlock_18 ⟨Nat.zero_le _, Nat.zero_le _⟩ (fun H locs hP hD hS => ?_)
    have hP : va_P D vwCl (wX6 cA ad thrown tape taped value weight many block ties lines pastValue pastWeight pastMany undos fresh newValue newWeight newMany newBlock newTies newLines 1 hasTies size q3.1 q3.2.1 q3.2.2.1 q3.2.2.2 z1.1 z1.2 lastFault lastPlace toValue toWeight toMany often firstOf lastOf unlikes unlikeMany isCandidate modes fewest) H := hP
    have hD : va_D A (wX6 cA ad thrown tape taped value weight many block ties lines pastValue pastWeight pastMany undos fresh newValue newWeight newMany newBlock newTies newLines 1 hasTies size q3.1 q3.2.1 q3.2.2.1 q3.2.2.2 z1.1 z1.2 lastFault lastPlace toValue toWeight toMany often firstOf lastOf unlikes unlikeMany isCandidate modes fewest) := hD
    refine lv_aload_n hx hb dX6_readBlock_21 rfl (lv_at hl 0 rfl) ?_
    refine lv_aload_n hx hb dX6_readBlock_22 rfl (lv_at hl 0 rfl) ?_
    refine lv_iconst (v := 2) hx hb dX6_readBlock_23 (by decide) ?_
    refine lv_bipush (v := 20) hx hb dX6_readBlock_24 (by decide) ?_
    obtain ⟨q4, eq4, h⟩ := e_b h
    refine xv_ie (As := [.int 2, .int 20]) (rest := [.ref (ad 0)]) (b := ad 0) hE hR ⟨hx, hb, hml, hown, hts⟩ hl.1 (kX6_within l D cA adK adV ad thrown tape taped value weight many block ties lines pastValue pastWeight pastMany undos fresh newValue newWeight newMany newBlock newTies newLines 1 hasTies size q3.1 q3.2.1 q3.2.2.1 q3.2.2.2 z1.1 z1.2 lastFault lastPlace toValue toWeight toMany often firstOf lastOf unlikes unlikeMany isCandidate modes fewest 2 20  _ eq4) (cwV 2 hts gX6_readBlock_X6_within rfl rfl rfl (by decide +kernel) ⟨Nat.le_of_ble_eq_true rfl, Nat.le_of_ble_eq_true rfl⟩) rfl hK hP hD hS hA (va_recv hK hP (ci := 6) (q0 := 0) rfl rfl) [0, 1, 2, 3, 4, 5, 6, 7, 8, 9, 10, 11, 12, 13, 14, 15, 16, 17] rfl (by decide +kernel) rfl (Nat.le_of_ble_eq_true rfl) dX6_readBlock_26 ⟨Nat.zero_le _, Nat.zero_le _⟩ (fun H locs hP hD hS hnq4 => ?_)
    have hP : va_P D vwCl (wX6 cA ad thrown tape taped value weight many block ties lines pastValue pastWeight pastMany undos fresh newValue newWeight newMany newBlock newTies newLines 1 hasTies size q4.2.1 q4.2.2.1 q4.2.2.2.1 q4.2.2.2.2.1 q4.2.2.2.2.2.1 q4.2.2.2.2.2.2 lastFault lastPlace toValue toWeight toMany often firstOf lastOf unlikes unlikeMany isCandidate modes fewest) H := hP
    have hD : va_D A (wX6 cA ad thrown tape taped value weight many block ties lines pastValue pastWeight pastMany undos fresh newValue newWeight newMany newBlock newTies newLines 1 hasTies size q4.2.1 q4.2.2.1 q4.2.2.2.1 q4.2.2.2.2.1 q4.2.2.2.2.2.1 q4.2.2.2.2.2.2 lastFault lastPlace toValue toWeight toMany often firstOf lastOf unlikes unlikeMany isCandidate modes fewest) := hD
    refine va_put (D := D) (ci := 6) (v := .int q4.1) (ty := .int) (C := RX6) (T := TX6) (N := 42) hx hb hts iX6 tyX6 tyX6_ok nmX6 hown hK hP hD hS 0 rfl rfl 17 (Nat.le_of_ble_eq_true rfl) f145 (fun _ h9 => h9) rfl (tyX6_ok 17 (Nat.le_of_ble_eq_true rfl)) rfl rfl (Nat.le_of_ble_eq_true rfl) dX6_readBlock_29 (fun H locs hP hD hS => ?_)
    have hP : va_P D vwCl (wX6 cA ad thrown tape taped value weight many block ties lines pastValue pastWeight pastMany undos fresh newValue newWeight newMany q4.1 newTies newLines 1 hasTies size q4.2.1 q4.2.2.1 q4.2.2.2.1 q4.2.2.2.2.1 q4.2.2.2.2.2.1 q4.2.2.2.2.2.2 lastFault lastPlace toValue toWeight toMany often firstOf lastOf unlikes unlikeMany isCandidate modes fewest) H := hP
    have hD : va_D A (wX6 cA ad thrown tape taped value weight many block ties lines pastValue pastWeight pastMany undos fresh newValue newWeight newMany q4.1 newTies newLines 1 hasTies size q4.2.1 q4.2.2.1 q4.2.2.2.1 q4.2.2.2.2.1 q4.2.2.2.2.2.1 q4.2.2.2.2.2.2 lastFault lastPlace toValue toWeight toMany often firstOf lastOf unlikes unlikeMany isCandidate modes fewest) := hD
    obtain rfl := e_s h
    exact hret hP hS dX6_readBlock_32
  have h := ez1
  refine lv_if_eq (tgt := 12) hx hb dX6_readBlock_4 (by decide) (fun c5 => ?_) (fun c5 => ?_)
  · have h := e_t c5 h
    obtain rfl := e_s h
    exact hJ2 _ _ _ (lv_sub hl [0] rfl) hP hD hS
  · have h := e_f c5 h
    refine lv_aload_n hx hb dX6_readBlock_7 rfl (lv_at hl 0 rfl) ?_
    refine lv_iconst (v := 3) hx hb dX6_readBlock_8 (by decide) ?_
    obtain ⟨q6, eq6, h⟩ := e_b h
    refine xv_v0 (As := [.int 3]) (rest := []) (ci := 6) (b := ad 0) ⟨hx, hb, hml, hown, hts⟩ hl.1 (kX6_wrong l D cA ad thrown tape taped value weight many block ties lines pastValue pastWeight pastMany undos fresh newValue newWeight newMany newBlock newTies newLines hasBlock hasTies size att place sort number fault faultPlace lastFault lastPlace toValue toWeight toMany often firstOf lastOf unlikes unlikeMany isCandidate modes fewest 3  _ eq6) (cwV 1 hts gX6_readBlock_X6_wrong rfl rfl rfl (by decide +kernel) ⟨Nat.le_of_ble_eq_true rfl, Nat.le_of_ble_eq_true rfl⟩) rfl hK hP hD hS hA 0 rfl rfl rfl rfl (Nat.le_of_ble_eq_true rfl) dX6_readBlock_9 ⟨Nat.zero_le _, Nat.zero_le _⟩ (fun H locs hP hD hS => ?_)
    have hP : va_P D vwCl (wX6 cA ad thrown tape taped value weight many block ties lines pastValue pastWeight pastMany undos fresh newValue newWeight newMany newBlock newTies newLines hasBlock hasTies size att place sort number q6.1 q6.2 lastFault lastPlace toValue toWeight toMany often firstOf lastOf unlikes unlikeMany isCandidate modes fewest) H := hP
    have hD : va_D A (wX6 cA ad thrown tape taped value weight many block ties lines pastValue pastWeight pastMany undos fresh newValue newWeight newMany newBlock newTies newLines hasBlock hasTies size att place sort number q6.1 q6.2 lastFault lastPlace toValue toWeight toMany often firstOf lastOf unlikes unlikeMany isCandidate modes fewest) := hD
    obtain rfl := e_s h
    exact hJ2 _ _ _ (lv_sub hl [0] rfl) hP hD hS
set_option maxHeartbeats 4000000 in
set_option maxRecDepth 100000 in
theorem kX6_readTies (l : Launch) (D : va_G) (cA : Nat → ClassId) (adK adV : Nat → Nat) (ad : Nat → Nat) (thrown : Int32) (tape : Nat → Int32) (taped : Int32) (value : Nat → Int32) (weight : Nat → Int32) (many : Int32) (block : Int32) (ties : Int32) (lines : Int32) (pastValue : Nat → Int32) (pastWeight : Nat → Int32) (pastMany : Nat → Int32) (undos : Int32) (fresh : Int32) (newValue : Nat → Int32) (newWeight : Nat → Int32) (newMany : Int32) (newBlock : Int32) (newTies : Int32) (newLines : Int32) (hasBlock : Int32) (hasTies : Int32) (size : Int32) (att : Int32) (place : Int32) (sort : Int32) (number : Int32) (fault : Int32) (faultPlace : Int32) (lastFault : Int32) (lastPlace : Int32) (toValue : Nat → Int32) (toWeight : Nat → Int32) (toMany : Int32) (often : Nat → Int32) (firstOf : Nat → Int32) (lastOf : Nat → Int32) (unlikes : Nat → Int32) (unlikeMany : Int32) (isCandidate : Nat → Int32) (modes : Nat → Int32) (fewest : Nat → Int32)  (q : Int32 × Int32 × Int32 × Int32 × Int32 × Int32 × Int32 × Int32) (h : mX6_readTies tape newTies hasTies size att place sort number fault faultPlace  = some q) : MVe l yX6_readTies wsX6_readTies { frames := 8, cells := 0, slots := 0, locals := 149 } D cA adK adV [.ref (ad 0)] (wX6 cA ad thrown tape taped value weight many block ties lines pastValue pastWeight pastMany undos fresh newValue newWeight newMany newBlock newTies newLines hasBlock hasTies size att place sort number fault faultPlace lastFault lastPlace toValue toWeight toMany often firstOf lastOf unlikes unlikeMany isCandidate modes fewest) (wX6 cA ad thrown tape taped value weight many block ties lines pastValue pastWeight pastMany undos fresh newValue newWeight newMany newBlock q.1 newLines hasBlock q.2.1 size q.2.2.1 q.2.2.2.1 q.2.2.2.2.1 q.2.2.2.2.2.1 q.2.2.2.2.2.2.1 q.2.2.2.2.2.2.2 lastFault lastPlace toValue toWeight toMany often firstOf lastOf unlikes unlikeMany isCandidate modes fewest) := by
  refine MVe.of (cc := cX6_readTies) (maxL := 1) (by decide) rfl rfl rfl (Nat.le_of_ble_eq_true rfl) ?_
  intro p e s m args below meth c A ls Q hx hb hml hts hown hK hP hD hA hS hE hR hl hret
  have hl : lv_has ls 1 [(0, .ref (ad 0))] := hl
  have f101 := hts (.fieldLink RX6 101 "ModeDeskModel" "number" "I") (by decide +kernel)
  have f118 := hts (.fieldLink RX6 118 "ModeDeskModel" "fault" "I") (by decide +kernel)
  have f148 := hts (.fieldLink RX6 148 "ModeDeskModel" "hasTies" "Z") (by decide +kernel)
  have f151 := hts (.fieldLink RX6 151 "ModeDeskModel" "newTies" "I") (by decide +kernel)
  have f91 := hts (.fieldLink RX6 91 "ModeDeskModel" "sort" "I") (by decide +kernel)
  have iX6 : ∀ w ∈ wsX60, w ∈ wsX6_readTies := by decide +kernel
  unfold mX6_readTies at h
  refine lv_aload_n hx hb dX6_readTies_0 rfl (lv_at hl 0 rfl) ?_
  refine va_get (D := D) (ci := 6) (v := .int hasTies) (C := RX6) (T := TX6) (N := 42) hx hb hts iX6 hown hK hP 0 rfl rfl 21 (Nat.le_of_ble_eq_true rfl) f148 (fun _ h9 => h9) rfl dX6_readTies_1 ?_
  obtain ⟨z1, ez1, h⟩ := e_b h
  have hJ2 : ∀ (ls : Array Slot) (H : Heap) (locs : List Loc), lv_has ls 1 [(0, .ref (ad 0))] → va_P D vwCl (wX6 cA ad thrown tape taped value weight many block ties lines pastValue pastWeight pastMany undos fresh newValue newWeight newMany newBlock newTies newLines hasBlock hasTies size att place sort number z1.1 z1.2 lastFault lastPlace toValue toWeight toMany often firstOf lastOf unlikes unlikeMany isCandidate modes fewest) H → va_D A (wX6 cA ad thrown tape taped value weight many block ties lines pastValue pastWeight pastMany undos fresh newValue newWeight newMany newBlock newTies newLines hasBlock hasTies size att place sort number z1.1 z1.2 lastFault lastPlace toValue toWeight toMany often firstOf lastOf unlikes unlikeMany isCandidate modes fewest) → va_S A s.heap H locs → W p l e (headSpec wsX6_readTies { frames := 8, cells := 0, slots := 0, locals := 149 }).room s m args below meth c H locs 0 0 Q (F0 m 12 ls []) := by
    intro ls H locs hl hP hD hS
    refine lv_aload_n hx hb dX6_readTies_12 rfl (lv_at hl 0 rfl) ?_
    refine lv_iconst (v := 1) hx hb dX6_readTies_13 (by decide) ?_
    refine va_put (D := D) (ci := 6) (v := .int 1) (ty := .boolean) (C := RX6) (T := TX6) (N := 42) hx hb hts iX6 tyX6 tyX6_ok nmX6 hown hK hP hD hS 0 rfl rfl 21 (Nat.le_of_ble_eq_true rfl) f148 (fun _ h9 => h9) rfl (tyX6_ok 21 (Nat.le_of_ble_eq_true rfl)) rfl rfl (Nat.le_of_ble_eq_true rfl) dX6_readTies_14 (fun H locs hP hD hS => ?_)
    have hP : va_P D vwCl (wX6 cA ad thrown tape taped value weight many block ties lines pastValue pastWeight pastMany undos fresh newValue newWeight newMany newBlock newTies newLines hasBlock 1 size att place sort number z1.1 z1.2 lastFault lastPlace toValue toWeight toMany often firstOf lastOf unlikes unlikeMany isCandidate modes fewest) H := hP
    have hD : va_D A (wX6 cA ad thrown tape taped value weight many block ties lines pastValue pastWeight pastMany undos fresh newValue newWeight newMany newBlock newTies newLines hasBlock 1 size att place sort number z1.1 z1.2 lastFault lastPlace toValue toWeight toMany often firstOf lastOf unlikes unlikeMany isCandidate modes fewest) := hD
    refine lv_aload_n hx hb dX6_readTies_17 rfl (lv_at hl 0 rfl) ?_
    obtain ⟨q3, eq3, h⟩ := e_b h
    refine xv_ve (As := []) (rest := []) (b := ad 0) hE hR ⟨hx, hb, hml, hown, hts⟩ hl.1 (kX6_goOn l D cA adK adV ad thrown tape taped value weight many block ties lines pastValue pastWeight pastMany undos fresh newValue newWeight newMany newBlock newTies newLines hasBlock 1 size att place sort number z1.1 z1.2 lastFault lastPlace toValue toWeight toMany often firstOf lastOf unlikes unlikeMany isCandidate modes fewest   _ eq3) (cwV 0 hts gX6_readTies_X6_goOn rfl rfl rfl (by decide +kernel) ⟨Nat.le_of_ble_eq_true rfl, Nat.le_of_ble_eq_true rfl⟩) rfl hK hP hD hS hA (va_recv hK hP (ci := 6) (q0 := 0) rfl rfl) [0, 1, 2, 3, 4, 5, 6, 7, 8, 9, 10, 11, 12, 13, 14, 15, 16, 17] rfl (by decide +kernel) rfl (Nat.le_of_ble_eq_true rfl) dX6_readTies_18 ⟨Nat.zero_le _, Nat.zero_le _⟩ (fun H locs hP hD hS => ?_)
    have hP : va_P D vwCl (wX6 cA ad thrown tape taped value weight many block ties lines pastValue pastWeight pastMany undos fresh newValue newWeight newMany newBlock newTies newLines hasBlock 1 size q3.1 q3.2.1 q3.2.2.1 q3.2.2.2 z1.1 z1.2 lastFault lastPlace toValue toWeight toMany often firstOf lastOf unlikes unlikeMany isCandidate modes fewest) H := hP
    have hD : va_D A (wX6 cA ad thrown tape taped value weight many block ties lines pastValue pastWeight pastMany undos fresh newValue newWeight newMany newBlock newTies newLines hasBlock 1 size q3.1 q3.2.1 q3.2.2.1 q3.2.2.2 z1.1 z1.2 lastFault lastPlace toValue toWeight toMany often firstOf lastOf unlikes unlikeMany isCandidate modes fewest) := hD
    refine lv_aload_n hx hb dX6_readTies_21 rfl (lv_at hl 0 rfl) ?_
    refine va_get (D := D) (ci := 6) (v := .int z1.1) (C := RX6) (T := TX6) (N := 42) hx hb hts iX6 hown hK hP 0 rfl rfl 27 (Nat.le_of_ble_eq_true rfl) f118 (fun _ h9 => h9) rfl dX6_readTies_22 ?_
    obtain ⟨z4, ez4, h⟩ := e_b h
    have hJ5 : ∀ (ls : Array Slot) (H : Heap) (locs : List Loc), lv_has ls 1 [(0, .ref (ad 0))] → va_P D vwCl (wX6 cA ad thrown tape taped value weight many block ties lines pastValue pastWeight pastMany undos fresh newValue newWeight newMany newBlock newTies newLines hasBlock 1 size q3.1 q3.2.1 q3.2.2.1 q3.2.2.2 z4.1 z4.2 lastFault lastPlace toValue toWeight toMany often firstOf lastOf unlikes unlikeMany isCandidate modes fewest) H → va_D A (wX6 cA ad thrown tape taped value weight many block ties lines pastValue pastWeight pastMany undos fresh newValue newWeight newMany newBlock newTies newLines hasBlock 1 size q3.1 q3.2.1 q3.2.2.1 q3.2.2.2 z4.1 z4.2 lastFault lastPlace toValue toWeight toMany often firstOf lastOf unlikes unlikeMany isCandidate modes fewest) → va_S A s.heap H locs → W p l e (headSpec wsX6_readTies { frames := 8, cells := 0, slots := 0, locals := 149 }).room s m args below meth c H locs 0 0 Q (F0 m 55 ls []) := by
      intro ls H locs hl hP hD hS
      refine lv_aload_n hx hb dX6_readTies_55 rfl (lv_at hl 0 rfl) ?_
      refine lv_aload_n hx hb dX6_readTies_56 rfl (lv_at hl 0 rfl) ?_
      refine va_get (D := D) (ci := 6) (v := .int z4.1) (C := RX6) (T := TX6) (N := 42) hx hb hts iX6 hown hK hP 0 rfl rfl 27 (Nat.le_of_ble_eq_true rfl) f118 (fun _ h9 => h9) rfl dX6_readTies_57 ?_
      obtain ⟨z6, ez6, h⟩ := e_b h
      have hJ7 : ∀ (ls : Array Slot) (H : Heap) (locs : List Loc), lv_has ls 1 [(0, .ref (ad 0))] → va_P D vwCl (wX6 cA ad thrown tape taped value weight many block ties lines pastValue pastWeight pastMany undos fresh newValue newWeight newMany newBlock newTies newLines hasBlock 1 size q3.1 q3.2.1 q3.2.2.1 q3.2.2.2 z4.1 z4.2 lastFault lastPlace toValue toWeight toMany often firstOf lastOf unlikes unlikeMany isCandidate modes fewest) H → va_D A (wX6 cA ad thrown tape taped value weight many block ties lines pastValue pastWeight pastMany undos fresh newValue newWeight newMany newBlock newTies newLines hasBlock 1 size q3.1 q3.2.1 q3.2.2.1 q3.2.2.2 z4.1 z4.2 lastFault lastPlace toValue toWeight toMany often firstOf lastOf unlikes unlikeMany isCandidate modes fewest) → va_S A s.heap H locs → W p l e (headSpec wsX6_readTies { frames := 8, cells := 0, slots := 0, locals := 149 }).room s m args below meth c H locs 0 0 Q (F0 m 71 ls [.int z6, .ref (ad 0)]) := by
        intro ls H locs hl hP hD hS
        refine va_put (D := D) (ci := 6) (v := .int z6) (ty := .int) (C := RX6) (T := TX6) (N := 42) hx hb hts iX6 tyX6 tyX6_ok nmX6 hown hK hP hD hS 0 rfl rfl 18 (Nat.le_of_ble_eq_true rfl) f151 (fun _ h9 => h9) rfl (tyX6_ok 18 (Nat.le_of_ble_eq_true rfl)) rfl rfl (Nat.le_of_ble_eq_true rfl) dX6_readTies_71 (fun H locs hP hD hS => ?_)
        have hP : va_P D vwCl (wX6 cA ad thrown tape taped value weight many block ties lines pastValue pastWeight pastMany undos fresh newValue newWeight newMany newBlock z6 newLines hasBlock 1 size q3.1 q3.2.1 q3.2.2.1 q3.2.2.2 z4.1 z4.2 lastFault lastPlace toValue toWeight toMany often firstOf lastOf unlikes unlikeMany isCandidate modes fewest) H := hP
        have hD : va_D A (wX6 cA ad thrown tape taped value weight many block ties lines pastValue pastWeight pastMany undos fresh newValue newWeight newMany newBlock z6 newLines hasBlock 1 size q3.1 q3.2.1 q3.2.2.1 q3.2.2.2 z4.1 z4.2 lastFault lastPlace toValue toWeight toMany often firstOf lastOf unlikes unlikeMany isCandidate modes fewest) := hD
        refine lv_aload_n hx hb dX6_readTies_74 rfl (lv_at hl 0 rfl) ?_
        obtain ⟨q8, eq8, h⟩ := e_b h
        refine xv_ve (As := []) (rest := []) (b := ad 0) hE hR ⟨hx, hb, hml, hown, hts⟩ hl.1 (kX6_goOn l D cA adK adV ad thrown tape taped value weight many block ties lines pastValue pastWeight pastMany undos fresh newValue newWeight newMany newBlock z6 newLines hasBlock 1 size q3.1 q3.2.1 q3.2.2.1 q3.2.2.2 z4.1 z4.2 lastFault lastPlace toValue toWeight toMany often firstOf lastOf unlikes unlikeMany isCandidate modes fewest   _ eq8) (cwV 0 hts gX6_readTies_X6_goOn rfl rfl rfl (by decide +kernel) ⟨Nat.le_of_ble_eq_true rfl, Nat.le_of_ble_eq_true rfl⟩) rfl hK hP hD hS hA (va_recv hK hP (ci := 6) (q0 := 0) rfl rfl) [0, 1, 2, 3, 4, 5, 6, 7, 8, 9, 10, 11, 12, 13, 14, 15, 16, 17] rfl (by decide +kernel) rfl (Nat.le_of_ble_eq_true rfl) dX6_readTies_75 ⟨Nat.zero_le _, Nat.zero_le _⟩ (fun H locs hP hD hS => ?_)
        have hP : va_P D vwCl (wX6 cA ad thrown tape taped value weight many block ties lines pastValue pastWeight pastMany undos fresh newValue newWeight newMany newBlock z6 newLines hasBlock 1 size q8.1 q8.2.1 q8.2.2.1 q8.2.2.2 z4.1 z4.2 lastFault lastPlace toValue toWeight toMany often firstOf lastOf unlikes unlikeMany isCandidate modes fewest) H := hP
        have hD : va_D A (wX6 cA ad thrown tape taped value weight many block ties lines pastValue pastWeight pastMany undos fresh newValue newWeight newMany newBlock z6 newLines hasBlock 1 size q8.1 q8.2.1 q8.2.2.1 q8.2.2.2 z4.1 z4.2 lastFault lastPlace toValue toWeight toMany often firstOf lastOf unlikes unlikeMany isCandidate modes fewest) := hD
        obtain rfl := e_s h
        exact hret hP hS dX6_readTies_78
      have h := ez6
      refine lv_if_ne (tgt := 70) hx hb dX6_readTies_60 (by decide) (fun c9 => ?_) (fun c9 => ?_)
      · have h := e_t c9 h
        refine lv_iconst (v := 0) hx hb dX6_readTies_70 (by decide) ?_
        obtain rfl := e_s h
        exact hJ7 _ _ _ (lv_sub hl [0] rfl) hP hD hS
      · have h := e_f (not_not_intro c9) h
        refine lv_aload_n hx hb dX6_readTies_63 rfl (lv_at hl 0 rfl) ?_
        refine va_get (D := D) (ci := 6) (v := .int q3.2.2.2) (C := RX6) (T := TX6) (N := 42) hx hb hts iX6 hown hK hP 0 rfl rfl 26 (Nat.le_of_ble_eq_true rfl) f101 (fun _ h9 => h9) rfl dX6_readTies_64 ?_
        refine lv_goto (tgt := 71) hx hb dX6_readTies_67 (by decide) ?_
        obtain rfl := e_s h
        exact hJ7 _ _ _ (lv_sub hl [0] rfl) hP hD hS
    have h := ez4
    refine lv_if_ne (tgt := 55) hx hb dX6_readTies_25 (by decide) (fun c10 => ?_) (fun c10 => ?_)
    · have h := e_t c10 h
      obtain rfl := e_s h
      exact hJ5 _ _ _ (lv_sub hl [0] rfl) hP hD hS
    · have h := e_f (not_not_intro c10) h
      refine lv_aload_n hx hb dX6_readTies_28 rfl (lv_at hl 0 rfl) ?_
      refine va_get (D := D) (ci := 6) (v := .int q3.2.2.1) (C := RX6) (T := TX6) (N := 42) hx hb hts iX6 hown hK hP 0 rfl rfl 25 (Nat.le_of_ble_eq_true rfl) f91 (fun _ h9 => h9) rfl dX6_readTies_29 ?_
      refine lv_if_ne (tgt := 50) hx hb dX6_readTies_32 (by decide) (fun c11 => ?_) (fun c11 => ?_)
      · have h := e_t c11 h
        refine lv_aload_n hx hb dX6_readTies_50 rfl (lv_at hl 0 rfl) ?_
        refine lv_iconst (v := 1) hx hb dX6_readTies_51 (by decide) ?_
        obtain ⟨q12, eq12, h⟩ := e_b h
        refine xv_v0 (As := [.int 1]) (rest := []) (ci := 6) (b := ad 0) ⟨hx, hb, hml, hown, hts⟩ hl.1 (kX6_wrong l D cA ad thrown tape taped value weight many block ties lines pastValue pastWeight pastMany undos fresh newValue newWeight newMany newBlock newTies newLines hasBlock 1 size q3.1 q3.2.1 q3.2.2.1 q3.2.2.2 z1.1 z1.2 lastFault lastPlace toValue toWeight toMany often firstOf lastOf unlikes unlikeMany isCandidate modes fewest 1  _ eq12) (cwV 1 hts gX6_readTies_X6_wrong rfl rfl rfl (by decide +kernel) ⟨Nat.le_of_ble_eq_true rfl, Nat.le_of_ble_eq_true rfl⟩) rfl hK hP hD hS hA 0 rfl rfl rfl rfl (Nat.le_of_ble_eq_true rfl) dX6_readTies_52 ⟨Nat.zero_le _, Nat.zero_le _⟩ (fun H locs hP hD hS => ?_)
        have hP : va_P D vwCl (wX6 cA ad thrown tape taped value weight many block ties lines pastValue pastWeight pastMany undos fresh newValue newWeight newMany newBlock newTies newLines hasBlock 1 size q3.1 q3.2.1 q3.2.2.1 q3.2.2.2 q12.1 q12.2 lastFault lastPlace toValue toWeight toMany often firstOf lastOf unlikes unlikeMany isCandidate modes fewest) H := hP
        have hD : va_D A (wX6 cA ad thrown tape taped value weight many block ties lines pastValue pastWeight pastMany undos fresh newValue newWeight newMany newBlock newTies newLines hasBlock 1 size q3.1 q3.2.1 q3.2.2.1 q3.2.2.2 q12.1 q12.2 lastFault lastPlace toValue toWeight toMany often firstOf lastOf unlikes unlikeMany isCandidate modes fewest) := hD
        obtain rfl := e_s h
        exact hJ5 _ _ _ (lv_sub hl [0] rfl) hP hD hS
      · have h := e_f (not_not_intro c11) h
        refine lv_aload_n hx hb dX6_readTies_35 rfl (lv_at hl 0 rfl) ?_
        refine va_get (D := D) (ci := 6) (v := .int q3.2.2.2) (C := RX6) (T := TX6) (N := 42) hx hb hts iX6 hown hK hP 0 rfl rfl 26 (Nat.le_of_ble_eq_true rfl) f101 (fun _ h9 => h9) rfl dX6_readTies_36 ?_
        refine lv_if_lt (tgt := 50) hx hb dX6_readTies_39 (by decide) (fun c13 => ?_) (fun c13 => ?_)
        · have h := e_t c13 h
          refine lv_aload_n hx hb dX6_readTies_50 rfl (lv_at hl 0 rfl) ?_
          refine lv_iconst (v := 1) hx hb dX6_readTies_51 (by decide) ?_
          obtain ⟨q14, eq14, h⟩ := e_b h
          refine xv_v0 (As := [.int 1]) (rest := []) (ci := 6) (b := ad 0) ⟨hx, hb, hml, hown, hts⟩ hl.1 (kX6_wrong l D cA ad thrown tape taped value weight many block ties lines pastValue pastWeight pastMany undos fresh newValue newWeight newMany newBlock newTies newLines hasBlock 1 size q3.1 q3.2.1 q3.2.2.1 q3.2.2.2 z1.1 z1.2 lastFault lastPlace toValue toWeight toMany often firstOf lastOf unlikes unlikeMany isCandidate modes fewest 1  _ eq14) (cwV 1 hts gX6_readTies_X6_wrong rfl rfl rfl (by decide +kernel) ⟨Nat.le_of_ble_eq_true rfl, Nat.le_of_ble_eq_true rfl⟩) rfl hK hP hD hS hA 0 rfl rfl rfl rfl (Nat.le_of_ble_eq_true rfl) dX6_readTies_52 ⟨Nat.zero_le _, Nat.zero_le _⟩ (fun H locs hP hD hS => ?_)
          have hP : va_P D vwCl (wX6 cA ad thrown tape taped value weight many block ties lines pastValue pastWeight pastMany undos fresh newValue newWeight newMany newBlock newTies newLines hasBlock 1 size q3.1 q3.2.1 q3.2.2.1 q3.2.2.2 q14.1 q14.2 lastFault lastPlace toValue toWeight toMany often firstOf lastOf unlikes unlikeMany isCandidate modes fewest) H := hP
          have hD : va_D A (wX6 cA ad thrown tape taped value weight many block ties lines pastValue pastWeight pastMany undos fresh newValue newWeight newMany newBlock newTies newLines hasBlock 1 size q3.1 q3.2.1 q3.2.2.1 q3.2.2.2 q14.1 q14.2 lastFault lastPlace toValue toWeight toMany often firstOf lastOf unlikes unlikeMany isCandidate modes fewest) := hD
          obtain rfl := e_s h
          exact hJ5 _ _ _ (lv_sub hl [0] rfl) hP hD hS
        · have h := e_f c13 h
          refine lv_aload_n hx hb dX6_readTies_42 rfl (lv_at hl 0 rfl) ?_
          refine va_get (D := D) (ci := 6) (v := .int q3.2.2.2) (C := RX6) (T := TX6) (N := 42) hx hb hts iX6 hown hK hP 0 rfl rfl 26 (Nat.le_of_ble_eq_true rfl) f101 (fun _ h9 => h9) rfl dX6_readTies_43 ?_
          refine lv_iconst (v := 3) hx hb dX6_readTies_46 (by decide) ?_
          refine lv_icmp_le (tgt := 55) hx hb dX6_readTies_47 (by decide) (fun c15 => ?_) (fun c15 => ?_)
          · have h := e_t c15 h
            obtain rfl := e_s h
            exact hJ5 _ _ _ (lv_sub hl [0] rfl) hP hD hS
          · have h := e_f c15 h
            refine lv_aload_n hx hb dX6_readTies_50 rfl (lv_at hl 0 rfl) ?_
            refine lv_iconst (v := 1) hx hb dX6_readTies_51 (by decide) ?_
            obtain ⟨q16, eq16, h⟩ := e_b h
            refine xv_v0 (As := [.int 1]) (rest := []) (ci := 6) (b := ad 0) ⟨hx, hb, hml, hown, hts⟩ hl.1 (kX6_wrong l D cA ad thrown tape taped value weight many block ties lines pastValue pastWeight pastMany undos fresh newValue newWeight newMany newBlock newTies newLines hasBlock 1 size q3.1 q3.2.1 q3.2.2.1 q3.2.2.2 z1.1 z1.2 lastFault lastPlace toValue toWeight toMany often firstOf lastOf unlikes unlikeMany isCandidate modes fewest 1  _ eq16) (cwV 1 hts gX6_readTies_X6_wrong rfl rfl rfl (by decide +kernel) ⟨Nat.le_of_ble_eq_true rfl, Nat.le_of_ble_eq_true rfl⟩) rfl hK hP hD hS hA 0 rfl rfl rfl rfl (Nat.le_of_ble_eq_true rfl) dX6_readTies_52 ⟨Nat.zero_le _, Nat.zero_le _⟩ (fun H locs hP hD hS => ?_)
            have hP : va_P D vwCl (wX6 cA ad thrown tape taped value weight many block ties lines pastValue pastWeight pastMany undos fresh newValue newWeight newMany newBlock newTies newLines hasBlock 1 size q3.1 q3.2.1 q3.2.2.1 q3.2.2.2 q16.1 q16.2 lastFault lastPlace toValue toWeight toMany often firstOf lastOf unlikes unlikeMany isCandidate modes fewest) H := hP
            have hD : va_D A (wX6 cA ad thrown tape taped value weight many block ties lines pastValue pastWeight pastMany undos fresh newValue newWeight newMany newBlock newTies newLines hasBlock 1 size q3.1 q3.2.1 q3.2.2.1 q3.2.2.2 q16.1 q16.2 lastFault lastPlace toValue toWeight toMany often firstOf lastOf unlikes unlikeMany isCandidate modes fewest) := hD
            obtain rfl := e_s h
            exact hJ5 _ _ _ (lv_sub hl [0] rfl) hP hD hS
  have h := ez1
  refine lv_if_eq (tgt := 12) hx hb dX6_readTies_4 (by decide) (fun c17 => ?_) (fun c17 => ?_)
  · have h := e_t c17 h
    obtain rfl := e_s h
    exact hJ2 _ _ _ (lv_sub hl [0] rfl) hP hD hS
  · have h := e_f c17 h
    refine lv_aload_n hx hb dX6_readTies_7 rfl (lv_at hl 0 rfl) ?_
    refine lv_iconst (v := 3) hx hb dX6_readTies_8 (by decide) ?_
    obtain ⟨q18, eq18, h⟩ := e_b h
    refine xv_v0 (As := [.int 3]) (rest := []) (ci := 6) (b := ad 0) ⟨hx, hb, hml, hown, hts⟩ hl.1 (kX6_wrong l D cA ad thrown tape taped value weight many block ties lines pastValue pastWeight pastMany undos fresh newValue newWeight newMany newBlock newTies newLines hasBlock hasTies size att place sort number fault faultPlace lastFault lastPlace toValue toWeight toMany often firstOf lastOf unlikes unlikeMany isCandidate modes fewest 3  _ eq18) (cwV 1 hts gX6_readTies_X6_wrong rfl rfl rfl (by decide +kernel) ⟨Nat.le_of_ble_eq_true rfl, Nat.le_of_ble_eq_true rfl⟩) rfl hK hP hD hS hA 0 rfl rfl rfl rfl (Nat.le_of_ble_eq_true rfl) dX6_readTies_9 ⟨Nat.zero_le _, Nat.zero_le _⟩ (fun H locs hP hD hS => ?_)
    have hP : va_P D vwCl (wX6 cA ad thrown tape taped value weight many block ties lines pastValue pastWeight pastMany undos fresh newValue newWeight newMany newBlock newTies newLines hasBlock hasTies size att place sort number q18.1 q18.2 lastFault lastPlace toValue toWeight toMany often firstOf lastOf unlikes unlikeMany isCandidate modes fewest) H := hP
    have hD : va_D A (wX6 cA ad thrown tape taped value weight many block ties lines pastValue pastWeight pastMany undos fresh newValue newWeight newMany newBlock newTies newLines hasBlock hasTies size att place sort number q18.1 q18.2 lastFault lastPlace toValue toWeight toMany often firstOf lastOf unlikes unlikeMany isCandidate modes fewest) := hD
    obtain rfl := e_s h
    exact hJ2 _ _ _ (lv_sub hl [0] rfl) hP hD hS
set_option maxHeartbeats 4000000 in
set_option maxRecDepth 100000 in
theorem kX6_readLine (l : Launch) (D : va_G) (cA : Nat → ClassId) (adK adV : Nat → Nat) (ad : Nat → Nat) (thrown : Int32) (tape : Nat → Int32) (taped : Int32) (value : Nat → Int32) (weight : Nat → Int32) (many : Int32) (block : Int32) (ties : Int32) (lines : Int32) (pastValue : Nat → Int32) (pastWeight : Nat → Int32) (pastMany : Nat → Int32) (undos : Int32) (fresh : Int32) (newValue : Nat → Int32) (newWeight : Nat → Int32) (newMany : Int32) (newBlock : Int32) (newTies : Int32) (newLines : Int32) (hasBlock : Int32) (hasTies : Int32) (size : Int32) (att : Int32) (place : Int32) (sort : Int32) (number : Int32) (fault : Int32) (faultPlace : Int32) (lastFault : Int32) (lastPlace : Int32) (toValue : Nat → Int32) (toWeight : Nat → Int32) (toMany : Int32) (often : Nat → Int32) (firstOf : Nat → Int32) (lastOf : Nat → Int32) (unlikes : Nat → Int32) (unlikeMany : Int32) (isCandidate : Nat → Int32) (modes : Nat → Int32) (fewest : Nat → Int32)  (q : (Nat → Int32) × (Nat → Int32) × Int32 × Int32 × Int32 × Int32 × Int32 × Int32 × Int32 × Int32 × Int32 × Int32 × Int32 × Int32) (h : mX6_readLine tape newValue newWeight newMany newBlock newTies newLines hasBlock hasTies size att place sort number fault faultPlace  = some q) : MVe l yX6_readLine wsX6_readLine { frames := 10, cells := 0, slots := 0, locals := 194 } D cA adK adV [.ref (ad 0)] (wX6 cA ad thrown tape taped value weight many block ties lines pastValue pastWeight pastMany undos fresh newValue newWeight newMany newBlock newTies newLines hasBlock hasTies size att place sort number fault faultPlace lastFault lastPlace toValue toWeight toMany often firstOf lastOf unlikes unlikeMany isCandidate modes fewest) (wX6 cA ad thrown tape taped value weight many block ties lines pastValue pastWeight pastMany undos fresh q.1 q.2.1 q.2.2.1 q.2.2.2.1 q.2.2.2.2.1 q.2.2.2.2.2.1 q.2.2.2.2.2.2.1 q.2.2.2.2.2.2.2.1 size q.2.2.2.2.2.2.2.2.1 q.2.2.2.2.2.2.2.2.2.1 q.2.2.2.2.2.2.2.2.2.2.1 q.2.2.2.2.2.2.2.2.2.2.2.1 q.2.2.2.2.2.2.2.2.2.2.2.2.1 q.2.2.2.2.2.2.2.2.2.2.2.2.2 lastFault lastPlace toValue toWeight toMany often firstOf lastOf unlikes unlikeMany isCandidate modes fewest) := by
  refine MVe.of (cc := cX6_readLine) (maxL := 2) (by decide) rfl rfl rfl (Nat.le_of_ble_eq_true rfl) ?_
  intro p e s m args below meth c A ls Q hx hb hml hts hown hK hP hD hA hS hE hR hl hret
  have hl : lv_has ls 2 [(0, .ref (ad 0))] := hl
  have f101 := hts (.fieldLink RX6 101 "ModeDeskModel" "number" "I") (by decide +kernel)
  have f118 := hts (.fieldLink RX6 118 "ModeDeskModel" "fault" "I") (by decide +kernel)
  have f166 := hts (.fieldLink RX6 166 "ModeDeskModel" "newLines" "I") (by decide +kernel)
  have f91 := hts (.fieldLink RX6 91 "ModeDeskModel" "sort" "I") (by decide +kernel)
  have iX6 : ∀ w ∈ wsX60, w ∈ wsX6_readLine := by decide +kernel
  unfold mX6_readLine at h
  refine lv_aload_n hx hb dX6_readLine_0 rfl (lv_at hl 0 rfl) ?_
  refine va_get (D := D) (ci := 6) (v := .int sort) (C := RX6) (T := TX6) (N := 42) hx hb hts iX6 hown hK hP 0 rfl rfl 25 (Nat.le_of_ble_eq_true rfl) f91 (fun _ h9 => h9) rfl dX6_readLine_1 ?_
  obtain ⟨z1, ez1, h⟩ := e_b h
  have hJ2 : ∀ (ls : Array Slot) (H : Heap) (locs : List Loc), lv_has ls 2 [(0, .ref (ad 0))] → va_P D vwCl (wX6 cA ad thrown tape taped value weight many block ties lines pastValue pastWeight pastMany undos fresh newValue newWeight newMany newBlock newTies newLines hasBlock hasTies size att place sort number fault faultPlace lastFault lastPlace toValue toWeight toMany often firstOf lastOf unlikes unlikeMany isCandidate modes fewest) H → va_D A (wX6 cA ad thrown tape taped value weight many block ties lines pastValue pastWeight pastMany undos fresh newValue newWeight newMany newBlock newTies newLines hasBlock hasTies size att place sort number fault faultPlace lastFault lastPlace toValue toWeight toMany often firstOf lastOf unlikes unlikeMany isCandidate modes fewest) → va_S A s.heap H locs → W p l e (headSpec wsX6_readLine { frames := 10, cells := 0, slots := 0, locals := 194 }).room s m args below meth c H locs 0 0 Q (F0 m 15 ls [.int z1]) := by
    intro ls H locs hl hP hD hS
    refine lv_istore_n (lv' := [(1, .int z1), (0, .ref (ad 0))]) hx hb dX6_readLine_15 rfl hl (by decide) rfl (fun ls hl => ?_)
    refine lv_iload_n hx hb dX6_readLine_16 rfl (lv_at hl 0 rfl) ?_
    refine lv_iconst (v := 4) hx hb dX6_readLine_17 (by decide) ?_
    obtain ⟨z3, ez3, h⟩ := e_b h
    have hJ4 : ∀ (ls : Array Slot) (H : Heap) (locs : List Loc), lv_has ls 2 [(0, .ref (ad 0))] → va_P D vwCl (wX6 cA ad thrown tape taped value weight many block ties lines pastValue pastWeight pastMany undos fresh z3.1 z3.2.1 z3.2.2.1 z3.2.2.2.1 z3.2.2.2.2.1 newLines z3.2.2.2.2.2.1 z3.2.2.2.2.2.2.1 size z3.2.2.2.2.2.2.2.1 z3.2.2.2.2.2.2.2.2.1 z3.2.2.2.2.2.2.2.2.2.1 z3.2.2.2.2.2.2.2.2.2.2.1 z3.2.2.2.2.2.2.2.2.2.2.2.1 z3.2.2.2.2.2.2.2.2.2.2.2.2 lastFault lastPlace toValue toWeight toMany often firstOf lastOf unlikes unlikeMany isCandidate modes fewest) H → va_D A (wX6 cA ad thrown tape taped value weight many block ties lines pastValue pastWeight pastMany undos fresh z3.1 z3.2.1 z3.2.2.1 z3.2.2.2.1 z3.2.2.2.2.1 newLines z3.2.2.2.2.2.1 z3.2.2.2.2.2.2.1 size z3.2.2.2.2.2.2.2.1 z3.2.2.2.2.2.2.2.2.1 z3.2.2.2.2.2.2.2.2.2.1 z3.2.2.2.2.2.2.2.2.2.2.1 z3.2.2.2.2.2.2.2.2.2.2.2.1 z3.2.2.2.2.2.2.2.2.2.2.2.2 lastFault lastPlace toValue toWeight toMany often firstOf lastOf unlikes unlikeMany isCandidate modes fewest) → va_S A s.heap H locs → W p l e (headSpec wsX6_readLine { frames := 10, cells := 0, slots := 0, locals := 194 }).room s m args below meth c H locs 0 0 Q (F0 m 71 ls []) := by
      intro ls H locs hl hP hD hS
      refine lv_aload_n hx hb dX6_readLine_71 rfl (lv_at hl 0 rfl) ?_
      refine va_get (D := D) (ci := 6) (v := .int z3.2.2.2.2.2.2.2.2.2.2.2.1) (C := RX6) (T := TX6) (N := 42) hx hb hts iX6 hown hK hP 0 rfl rfl 27 (Nat.le_of_ble_eq_true rfl) f118 (fun _ h9 => h9) rfl dX6_readLine_72 ?_
      obtain ⟨z5, ez5, h⟩ := e_b h
      have hJ6 : ∀ (ls : Array Slot) (H : Heap) (locs : List Loc), lv_has ls 2 [(0, .ref (ad 0))] → va_P D vwCl (wX6 cA ad thrown tape taped value weight many block ties lines pastValue pastWeight pastMany undos fresh z3.1 z3.2.1 z3.2.2.1 z3.2.2.2.1 z3.2.2.2.2.1 newLines z3.2.2.2.2.2.1 z3.2.2.2.2.2.2.1 size z3.2.2.2.2.2.2.2.1 z3.2.2.2.2.2.2.2.2.1 z3.2.2.2.2.2.2.2.2.2.1 z3.2.2.2.2.2.2.2.2.2.2.1 z5.1 z5.2 lastFault lastPlace toValue toWeight toMany often firstOf lastOf unlikes unlikeMany isCandidate modes fewest) H → va_D A (wX6 cA ad thrown tape taped value weight many block ties lines pastValue pastWeight pastMany undos fresh z3.1 z3.2.1 z3.2.2.1 z3.2.2.2.1 z3.2.2.2.2.1 newLines z3.2.2.2.2.2.1 z3.2.2.2.2.2.2.1 size z3.2.2.2.2.2.2.2.1 z3.2.2.2.2.2.2.2.2.1 z3.2.2.2.2.2.2.2.2.2.1 z3.2.2.2.2.2.2.2.2.2.2.1 z5.1 z5.2 lastFault lastPlace toValue toWeight toMany often firstOf lastOf unlikes unlikeMany isCandidate modes fewest) → va_S A s.heap H locs → W p l e (headSpec wsX6_readLine { frames := 10, cells := 0, slots := 0, locals := 194 }).room s m args below meth c H locs 0 0 Q (F0 m 91 ls []) := by
        intro ls H locs hl hP hD hS
        refine lv_aload_n hx hb dX6_readLine_91 rfl (lv_at hl 0 rfl) ?_
        obtain ⟨q7, eq7, h⟩ := e_b h
        refine xv_ve (As := []) (rest := []) (b := ad 0) hE hR ⟨hx, hb, hml, hown, hts⟩ hl.1 (kX6_goOn l D cA adK adV ad thrown tape taped value weight many block ties lines pastValue pastWeight pastMany undos fresh z3.1 z3.2.1 z3.2.2.1 z3.2.2.2.1 z3.2.2.2.2.1 newLines z3.2.2.2.2.2.1 z3.2.2.2.2.2.2.1 size z3.2.2.2.2.2.2.2.1 z3.2.2.2.2.2.2.2.2.1 z3.2.2.2.2.2.2.2.2.2.1 z3.2.2.2.2.2.2.2.2.2.2.1 z5.1 z5.2 lastFault lastPlace toValue toWeight toMany often firstOf lastOf unlikes unlikeMany isCandidate modes fewest   _ eq7) (cwV 0 hts gX6_readLine_X6_goOn rfl rfl rfl (by decide +kernel) ⟨Nat.le_of_ble_eq_true rfl, Nat.le_of_ble_eq_true rfl⟩) rfl hK hP hD hS hA (va_recv hK hP (ci := 6) (q0 := 0) rfl rfl) [0, 1, 2, 3, 4, 5, 6, 7, 8, 9, 10, 11, 12, 13, 14, 15, 16, 17] rfl (by decide +kernel) rfl (Nat.le_of_ble_eq_true rfl) dX6_readLine_92 ⟨Nat.zero_le _, Nat.zero_le _⟩ (fun H locs hP hD hS => ?_)
        have hP : va_P D vwCl (wX6 cA ad thrown tape taped value weight many block ties lines pastValue pastWeight pastMany undos fresh z3.1 z3.2.1 z3.2.2.1 z3.2.2.2.1 z3.2.2.2.2.1 newLines z3.2.2.2.2.2.1 z3.2.2.2.2.2.2.1 size q7.1 q7.2.1 q7.2.2.1 q7.2.2.2 z5.1 z5.2 lastFault lastPlace toValue toWeight toMany often firstOf lastOf unlikes unlikeMany isCandidate modes fewest) H := hP
        have hD : va_D A (wX6 cA ad thrown tape taped value weight many block ties lines pastValue pastWeight pastMany undos fresh z3.1 z3.2.1 z3.2.2.1 z3.2.2.2.1 z3.2.2.2.2.1 newLines z3.2.2.2.2.2.1 z3.2.2.2.2.2.2.1 size q7.1 q7.2.1 q7.2.2.1 q7.2.2.2 z5.1 z5.2 lastFault lastPlace toValue toWeight toMany often firstOf lastOf unlikes unlikeMany isCandidate modes fewest) := hD
        refine lv_aload_n hx hb dX6_readLine_95 rfl (lv_at hl 0 rfl) ?_
        refine lv_dup hx hb dX6_readLine_96 rfl ?_
        refine va_get (D := D) (ci := 6) (v := .int newLines) (C := RX6) (T := TX6) (N := 42) hx hb hts iX6 hown hK hP 0 rfl rfl 19 (Nat.le_of_ble_eq_true rfl) f166 (fun _ h9 => h9) rfl dX6_readLine_97 ?_
        refine lv_iconst (v := 1) hx hb dX6_readLine_100 (by decide) ?_
        refine lv_iadd hx hb dX6_readLine_101 ?_
        refine va_put (D := D) (ci := 6) (v := .int (newLines + 1)) (ty := .int) (C := RX6) (T := TX6) (N := 42) hx hb hts iX6 tyX6 tyX6_ok nmX6 hown hK hP hD hS 0 rfl rfl 19 (Nat.le_of_ble_eq_true rfl) f166 (fun _ h9 => h9) rfl (tyX6_ok 19 (Nat.le_of_ble_eq_true rfl)) rfl rfl (Nat.le_of_ble_eq_true rfl) dX6_readLine_102 (fun H locs hP hD hS => ?_)
        have hP : va_P D vwCl (wX6 cA ad thrown tape taped value weight many block ties lines pastValue pastWeight pastMany undos fresh z3.1 z3.2.1 z3.2.2.1 z3.2.2.2.1 z3.2.2.2.2.1 (newLines + 1) z3.2.2.2.2.2.1 z3.2.2.2.2.2.2.1 size q7.1 q7.2.1 q7.2.2.1 q7.2.2.2 z5.1 z5.2 lastFault lastPlace toValue toWeight toMany often firstOf lastOf unlikes unlikeMany isCandidate modes fewest) H := hP
        have hD : va_D A (wX6 cA ad thrown tape taped value weight many block ties lines pastValue pastWeight pastMany undos fresh z3.1 z3.2.1 z3.2.2.1 z3.2.2.2.1 z3.2.2.2.2.1 (newLines + 1) z3.2.2.2.2.2.1 z3.2.2.2.2.2.2.1 size q7.1 q7.2.1 q7.2.2.1 q7.2.2.2 z5.1 z5.2 lastFault lastPlace toValue toWeight toMany often firstOf lastOf unlikes unlikeMany isCandidate modes fewest) := hD
        obtain rfl := e_s h
        exact hret hP hS dX6_readLine_105
      have h := ez5
      refine lv_if_ne (tgt := 91) hx hb dX6_readLine_75 (by decide) (fun c8 => ?_) (fun c8 => ?_)
      · have h := e_t c8 h
        obtain rfl := e_s h
        exact hJ6 _ _ _ (lv_sub hl [0] rfl) hP hD hS
      · have h := e_f (not_not_intro c8) h
        refine lv_aload_n hx hb dX6_readLine_78 rfl (lv_at hl 0 rfl) ?_
        refine va_get (D := D) (ci := 6) (v := .int z3.2.2.2.2.2.2.2.2.2.1) (C := RX6) (T := TX6) (N := 42) hx hb hts iX6 hown hK hP 0 rfl rfl 25 (Nat.le_of_ble_eq_true rfl) f91 (fun _ h9 => h9) rfl dX6_readLine_79 ?_
        refine lv_iconst (v := 2) hx hb dX6_readLine_82 (by decide) ?_
        refine lv_icmp_eq (tgt := 91) hx hb dX6_readLine_83 (by decide) (fun c9 => ?_) (fun c9 => ?_)
        · have h := e_t c9 h
          obtain rfl := e_s h
          exact hJ6 _ _ _ (lv_sub hl [0] rfl) hP hD hS
        · have h := e_f c9 h
          refine lv_aload_n hx hb dX6_readLine_86 rfl (lv_at hl 0 rfl) ?_
          refine lv_iconst (v := 1) hx hb dX6_readLine_87 (by decide) ?_
          obtain ⟨q10, eq10, h⟩ := e_b h
          refine xv_v0 (As := [.int 1]) (rest := []) (ci := 6) (b := ad 0) ⟨hx, hb, hml, hown, hts⟩ hl.1 (kX6_wrong l D cA ad thrown tape taped value weight many block ties lines pastValue pastWeight pastMany undos fresh z3.1 z3.2.1 z3.2.2.1 z3.2.2.2.1 z3.2.2.2.2.1 newLines z3.2.2.2.2.2.1 z3.2.2.2.2.2.2.1 size z3.2.2.2.2.2.2.2.1 z3.2.2.2.2.2.2.2.2.1 z3.2.2.2.2.2.2.2.2.2.1 z3.2.2.2.2.2.2.2.2.2.2.1 z3.2.2.2.2.2.2.2.2.2.2.2.1 z3.2.2.2.2.2.2.2.2.2.2.2.2 lastFault lastPlace toValue toWeight toMany often firstOf lastOf unlikes unlikeMany isCandidate modes fewest 1  _ eq10) (cwV 1 hts gX6_readLine_X6_wrong rfl rfl rfl (by decide +kernel) ⟨Nat.le_of_ble_eq_true rfl, Nat.le_of_ble_eq_true rfl⟩) rfl hK hP hD hS hA 0 rfl rfl rfl rfl (Nat.le_of_ble_eq_true rfl) dX6_readLine_88 ⟨Nat.zero_le _, Nat.zero_le _⟩ (fun H locs hP hD hS => ?_)
          have hP : va_P D vwCl (wX6 cA ad thrown tape taped value weight many block ties lines pastValue pastWeight pastMany undos fresh z3.1 z3.2.1 z3.2.2.1 z3.2.2.2.1 z3.2.2.2.2.1 newLines z3.2.2.2.2.2.1 z3.2.2.2.2.2.2.1 size z3.2.2.2.2.2.2.2.1 z3.2.2.2.2.2.2.2.2.1 z3.2.2.2.2.2.2.2.2.2.1 z3.2.2.2.2.2.2.2.2.2.2.1 q10.1 q10.2 lastFault lastPlace toValue toWeight toMany often firstOf lastOf unlikes unlikeMany isCandidate modes fewest) H := hP
          have hD : va_D A (wX6 cA ad thrown tape taped value weight many block ties lines pastValue pastWeight pastMany undos fresh z3.1 z3.2.1 z3.2.2.1 z3.2.2.2.1 z3.2.2.2.2.1 newLines z3.2.2.2.2.2.1 z3.2.2.2.2.2.2.1 size z3.2.2.2.2.2.2.2.1 z3.2.2.2.2.2.2.2.2.1 z3.2.2.2.2.2.2.2.2.2.1 z3.2.2.2.2.2.2.2.2.2.2.1 q10.1 q10.2 lastFault lastPlace toValue toWeight toMany often firstOf lastOf unlikes unlikeMany isCandidate modes fewest) := hD
          obtain rfl := e_s h
          exact hJ6 _ _ _ (lv_sub hl [0] rfl) hP hD hS
    have h := ez3
    refine lv_icmp_ne (tgt := 28) hx hb dX6_readLine_18 (by decide) (fun c11 => ?_) (fun c11 => ?_)
    · have h := e_t c11 h
      refine lv_iload_n hx hb dX6_readLine_28 rfl (lv_at hl 0 rfl) ?_
      refine lv_iconst (v := 5) hx hb dX6_readLine_29 (by decide) ?_
      refine lv_icmp_ne (tgt := 40) hx hb dX6_readLine_30 (by decide) (fun c12 => ?_) (fun c12 => ?_)
      · have h := e_t c12 h
        refine lv_iload_n hx hb dX6_readLine_40 rfl (lv_at hl 0 rfl) ?_
        refine lv_bipush (v := 6) hx hb dX6_readLine_41 (by decide) ?_
        refine lv_icmp_ne (tgt := 53) hx hb dX6_readLine_43 (by decide) (fun c13 => ?_) (fun c13 => ?_)
        · have h := e_t c13 h
          refine lv_iload_n hx hb dX6_readLine_53 rfl (lv_at hl 0 rfl) ?_
          refine lv_bipush (v := 7) hx hb dX6_readLine_54 (by decide) ?_
          refine lv_icmp_ne (tgt := 66) hx hb dX6_readLine_56 (by decide) (fun c14 => ?_) (fun c14 => ?_)
          · have h := e_t c14 h
            refine lv_aload_n hx hb dX6_readLine_66 rfl (lv_at hl 1 rfl) ?_
            refine lv_iconst (v := 1) hx hb dX6_readLine_67 (by decide) ?_
            obtain ⟨q15, eq15, h⟩ := e_b h
            refine xv_v0 (As := [.int 1]) (rest := []) (ci := 6) (b := ad 0) ⟨hx, hb, hml, hown, hts⟩ hl.1 (kX6_wrong l D cA ad thrown tape taped value weight many block ties lines pastValue pastWeight pastMany undos fresh newValue newWeight newMany newBlock newTies newLines hasBlock hasTies size att place sort number fault faultPlace lastFault lastPlace toValue toWeight toMany often firstOf lastOf unlikes unlikeMany isCandidate modes fewest 1  _ eq15) (cwV 1 hts gX6_readLine_X6_wrong rfl rfl rfl (by decide +kernel) ⟨Nat.le_of_ble_eq_true rfl, Nat.le_of_ble_eq_true rfl⟩) rfl hK hP hD hS hA 0 rfl rfl rfl rfl (Nat.le_of_ble_eq_true rfl) dX6_readLine_68 ⟨Nat.zero_le _, Nat.zero_le _⟩ (fun H locs hP hD hS => ?_)
            have hP : va_P D vwCl (wX6 cA ad thrown tape taped value weight many block ties lines pastValue pastWeight pastMany undos fresh newValue newWeight newMany newBlock newTies newLines hasBlock hasTies size att place sort number q15.1 q15.2 lastFault lastPlace toValue toWeight toMany often firstOf lastOf unlikes unlikeMany isCandidate modes fewest) H := hP
            have hD : va_D A (wX6 cA ad thrown tape taped value weight many block ties lines pastValue pastWeight pastMany undos fresh newValue newWeight newMany newBlock newTies newLines hasBlock hasTies size att place sort number q15.1 q15.2 lastFault lastPlace toValue toWeight toMany often firstOf lastOf unlikes unlikeMany isCandidate modes fewest) := hD
            obtain rfl := e_s h
            exact hJ4 _ _ _ (lv_sub hl [1] rfl) hP hD hS
          · have h := e_f (not_not_intro c14) h
            refine lv_aload_n hx hb dX6_readLine_59 rfl (lv_at hl 1 rfl) ?_
            obtain ⟨q16, eq16, h⟩ := e_b h
            refine xv_ve (As := []) (rest := []) (b := ad 0) hE hR ⟨hx, hb, hml, hown, hts⟩ hl.1 (kX6_readTies l D cA adK adV ad thrown tape taped value weight many block ties lines pastValue pastWeight pastMany undos fresh newValue newWeight newMany newBlock newTies newLines hasBlock hasTies size att place sort number fault faultPlace lastFault lastPlace toValue toWeight toMany often firstOf lastOf unlikes unlikeMany isCandidate modes fewest   _ eq16) (cwV 0 hts gX6_readLine_X6_readTies rfl rfl rfl (by decide +kernel) ⟨Nat.le_of_ble_eq_true rfl, Nat.le_of_ble_eq_true rfl⟩) rfl hK hP hD hS hA (va_recv hK hP (ci := 6) (q0 := 0) rfl rfl) [0, 1, 2, 3, 4, 5, 6, 7, 8, 9, 10, 11, 12, 13, 14, 15, 16, 17] rfl (by decide +kernel) rfl (Nat.le_of_ble_eq_true rfl) dX6_readLine_60 ⟨Nat.zero_le _, Nat.zero_le _⟩ (fun H locs hP hD hS => ?_)
            have hP : va_P D vwCl (wX6 cA ad thrown tape taped value weight many block ties lines pastValue pastWeight pastMany undos fresh newValue newWeight newMany newBlock q16.1 newLines hasBlock q16.2.1 size q16.2.2.1 q16.2.2.2.1 q16.2.2.2.2.1 q16.2.2.2.2.2.1 q16.2.2.2.2.2.2.1 q16.2.2.2.2.2.2.2 lastFault lastPlace toValue toWeight toMany often firstOf lastOf unlikes unlikeMany isCandidate modes fewest) H := hP
            have hD : va_D A (wX6 cA ad thrown tape taped value weight many block ties lines pastValue pastWeight pastMany undos fresh newValue newWeight newMany newBlock q16.1 newLines hasBlock q16.2.1 size q16.2.2.1 q16.2.2.2.1 q16.2.2.2.2.1 q16.2.2.2.2.2.1 q16.2.2.2.2.2.2.1 q16.2.2.2.2.2.2.2 lastFault lastPlace toValue toWeight toMany often firstOf lastOf unlikes unlikeMany isCandidate modes fewest) := hD
            refine lv_goto (tgt := 71) hx hb dX6_readLine_63 (by decide) ?_
            obtain rfl := e_s h
            exact hJ4 _ _ _ (lv_sub hl [1] rfl) hP hD hS
        · have h := e_f (not_not_intro c13) h
          refine lv_aload_n hx hb dX6_readLine_46 rfl (lv_at hl 1 rfl) ?_
          obtain ⟨q17, eq17, h⟩ := e_b h
          refine xv_ve (As := []) (rest := []) (b := ad 0) hE hR ⟨hx, hb, hml, hown, hts⟩ hl.1 (kX6_readBlock l D cA adK adV ad thrown tape taped value weight many block ties lines pastValue pastWeight pastMany undos fresh newValue newWeight newMany newBlock newTies newLines hasBlock hasTies size att place sort number fault faultPlace lastFault lastPlace toValue toWeight toMany often firstOf lastOf unlikes unlikeMany isCandidate modes fewest   _ eq17) (cwV 0 hts gX6_readLine_X6_readBlock rfl rfl rfl (by decide +kernel) ⟨Nat.le_of_ble_eq_true rfl, Nat.le_of_ble_eq_true rfl⟩) rfl hK hP hD hS hA (va_recv hK hP (ci := 6) (q0 := 0) rfl rfl) [0, 1, 2, 3, 4, 5, 6, 7, 8, 9, 10, 11, 12, 13, 14, 15, 16, 17] rfl (by decide +kernel) rfl (Nat.le_of_ble_eq_true rfl) dX6_readLine_47 ⟨Nat.zero_le _, Nat.zero_le _⟩ (fun H locs hP hD hS => ?_)
          have hP : va_P D vwCl (wX6 cA ad thrown tape taped value weight many block ties lines pastValue pastWeight pastMany undos fresh newValue newWeight newMany q17.1 newTies newLines q17.2.1 hasTies size q17.2.2.1 q17.2.2.2.1 q17.2.2.2.2.1 q17.2.2.2.2.2.1 q17.2.2.2.2.2.2.1 q17.2.2.2.2.2.2.2 lastFault lastPlace toValue toWeight toMany often firstOf lastOf unlikes unlikeMany isCandidate modes fewest) H := hP
          have hD : va_D A (wX6 cA ad thrown tape taped value weight many block ties lines pastValue pastWeight pastMany undos fresh newValue newWeight newMany q17.1 newTies newLines q17.2.1 hasTies size q17.2.2.1 q17.2.2.2.1 q17.2.2.2.2.1 q17.2.2.2.2.2.1 q17.2.2.2.2.2.2.1 q17.2.2.2.2.2.2.2 lastFault lastPlace toValue toWeight toMany often firstOf lastOf unlikes unlikeMany isCandidate modes fewest) := hD
          refine lv_goto (tgt := 71) hx hb dX6_readLine_50 (by decide) ?_
          obtain rfl := e_s h
          exact hJ4 _ _ _ (lv_sub hl [1] rfl) hP hD hS
      · have h := e_f (not_not_intro c12) h
        refine lv_aload_n hx hb dX6_readLine_33 rfl (lv_at hl 1 rfl) ?_
        obtain ⟨q18, eq18, h⟩ := e_b h
        refine xv_ve (As := []) (rest := []) (b := ad 0) hE hR ⟨hx, hb, hml, hown, hts⟩ hl.1 (kX6_readWeight l D cA adK adV ad thrown tape taped value weight many block ties lines pastValue pastWeight pastMany undos fresh newValue newWeight newMany newBlock newTies newLines hasBlock hasTies size att place sort number fault faultPlace lastFault lastPlace toValue toWeight toMany often firstOf lastOf unlikes unlikeMany isCandidate modes fewest   _ eq18) (cwV 0 hts gX6_readLine_X6_readWeight rfl rfl rfl (by decide +kernel) ⟨Nat.le_of_ble_eq_true rfl, Nat.le_of_ble_eq_true rfl⟩) rfl hK hP hD hS hA (va_recv hK hP (ci := 6) (q0 := 0) rfl rfl) [0, 1, 2, 3, 4, 5, 6, 7, 8, 9, 10, 11, 12, 13, 14, 15, 16, 17] rfl (by decide +kernel) rfl (Nat.le_of_ble_eq_true rfl) dX6_readLine_34 ⟨Nat.zero_le _, Nat.zero_le _⟩ (fun H locs hP hD hS => ?_)
        have hP : va_P D vwCl (wX6 cA ad thrown tape taped value weight many block ties lines pastValue pastWeight pastMany undos fresh newValue q18.1 newMany newBlock newTies newLines hasBlock hasTies size q18.2.1 q18.2.2.1 q18.2.2.2.1 q18.2.2.2.2.1 q18.2.2.2.2.2.1 q18.2.2.2.2.2.2 lastFault lastPlace toValue toWeight toMany often firstOf lastOf unlikes unlikeMany isCandidate modes fewest) H := hP
        have hD : va_D A (wX6 cA ad thrown tape taped value weight many block ties lines pastValue pastWeight pastMany undos fresh newValue q18.1 newMany newBlock newTies newLines hasBlock hasTies size q18.2.1 q18.2.2.1 q18.2.2.2.1 q18.2.2.2.2.1 q18.2.2.2.2.2.1 q18.2.2.2.2.2.2 lastFault lastPlace toValue toWeight toMany often firstOf lastOf unlikes unlikeMany isCandidate modes fewest) := hD
        refine lv_goto (tgt := 71) hx hb dX6_readLine_37 (by decide) ?_
        obtain rfl := e_s h
        exact hJ4 _ _ _ (lv_sub hl [1] rfl) hP hD hS
    · have h := e_f (not_not_intro c11) h
      refine lv_aload_n hx hb dX6_readLine_21 rfl (lv_at hl 1 rfl) ?_
      obtain ⟨q19, eq19, h⟩ := e_b h
      refine xv_ve (As := []) (rest := []) (b := ad 0) hE hR ⟨hx, hb, hml, hown, hts⟩ hl.1 (kX6_readRow l D cA adK adV ad thrown tape taped value weight many block ties lines pastValue pastWeight pastMany undos fresh newValue newWeight newMany newBlock newTies newLines hasBlock hasTies size att place sort number fault faultPlace lastFault lastPlace toValue toWeight toMany often firstOf lastOf unlikes unlikeMany isCandidate modes fewest   _ eq19) (cwV 0 hts gX6_readLine_X6_readRow rfl rfl rfl (by decide +kernel) ⟨Nat.le_of_ble_eq_true rfl, Nat.le_of_ble_eq_true rfl⟩) rfl hK hP hD hS hA (va_recv hK hP (ci := 6) (q0 := 0) rfl rfl) [0, 1, 2, 3, 4, 5, 6, 7, 8, 9, 10, 11, 12, 13, 14, 15, 16, 17] rfl (by decide +kernel) rfl (Nat.le_of_ble_eq_true rfl) dX6_readLine_22 ⟨Nat.zero_le _, Nat.zero_le _⟩ (fun H locs hP hD hS => ?_)
      have hP : va_P D vwCl (wX6 cA ad thrown tape taped value weight many block ties lines pastValue pastWeight pastMany undos fresh q19.1 q19.2.1 q19.2.2.1 newBlock newTies newLines hasBlock hasTies size q19.2.2.2.1 q19.2.2.2.2.1 q19.2.2.2.2.2.1 q19.2.2.2.2.2.2.1 q19.2.2.2.2.2.2.2.1 q19.2.2.2.2.2.2.2.2 lastFault lastPlace toValue toWeight toMany often firstOf lastOf unlikes unlikeMany isCandidate modes fewest) H := hP
      have hD : va_D A (wX6 cA ad thrown tape taped value weight many block ties lines pastValue pastWeight pastMany undos fresh q19.1 q19.2.1 q19.2.2.1 newBlock newTies newLines hasBlock hasTies size q19.2.2.2.1 q19.2.2.2.2.1 q19.2.2.2.2.2.1 q19.2.2.2.2.2.2.1 q19.2.2.2.2.2.2.2.1 q19.2.2.2.2.2.2.2.2 lastFault lastPlace toValue toWeight toMany often firstOf lastOf unlikes unlikeMany isCandidate modes fewest) := hD
      refine lv_goto (tgt := 71) hx hb dX6_readLine_25 (by decide) ?_
      obtain rfl := e_s h
      exact hJ4 _ _ _ (lv_sub hl [1] rfl) hP hD hS
  have h := ez1
  refine lv_if_ne (tgt := 14) hx hb dX6_readLine_4 (by decide) (fun c20 => ?_) (fun c20 => ?_)
  · have h := e_t c20 h
    refine lv_iconst (v := (-1)) hx hb dX6_readLine_14 (by decide) ?_
    obtain rfl := e_s h
    exact hJ2 _ _ _ (lv_sub hl [0] rfl) hP hD hS
  · have h := e_f (not_not_intro c20) h
    refine lv_aload_n hx hb dX6_readLine_7 rfl (lv_at hl 0 rfl) ?_
    refine va_get (D := D) (ci := 6) (v := .int number) (C := RX6) (T := TX6) (N := 42) hx hb hts iX6 hown hK hP 0 rfl rfl 26 (Nat.le_of_ble_eq_true rfl) f101 (fun _ h9 => h9) rfl dX6_readLine_8 ?_
    refine lv_goto (tgt := 15) hx hb dX6_readLine_11 (by decide) ?_
    obtain rfl := e_s h
    exact hJ2 _ _ _ (lv_sub hl [0] rfl) hP hD hS
set_option maxHeartbeats 4000000 in
set_option maxRecDepth 100000 in
theorem kX6_text (l : Launch) (D : va_G) (cA : Nat → ClassId) (adK adV : Nat → Nat) (ad : Nat → Nat) (thrown : Int32) (tape : Nat → Int32) (taped : Int32) (value : Nat → Int32) (weight : Nat → Int32) (many : Int32) (block : Int32) (ties : Int32) (lines : Int32) (pastValue : Nat → Int32) (pastWeight : Nat → Int32) (pastMany : Nat → Int32) (undos : Int32) (fresh : Int32) (newValue : Nat → Int32) (newWeight : Nat → Int32) (newMany : Int32) (newBlock : Int32) (newTies : Int32) (newLines : Int32) (hasBlock : Int32) (hasTies : Int32) (size : Int32) (att : Int32) (place : Int32) (sort : Int32) (number : Int32) (fault : Int32) (faultPlace : Int32) (lastFault : Int32) (lastPlace : Int32) (toValue : Nat → Int32) (toWeight : Nat → Int32) (toMany : Int32) (often : Nat → Int32) (firstOf : Nat → Int32) (lastOf : Nat → Int32) (unlikes : Nat → Int32) (unlikeMany : Int32) (isCandidate : Nat → Int32) (modes : Nat → Int32) (fewest : Nat → Int32) (x1 : Int32) (q : Int32 × Int32 × Int32 × (Nat → Int32) × (Nat → Int32) × Int32 × Int32 × Int32 × Int32 × Int32 × Int32 × (Nat → Int32) × (Nat → Int32) × Int32 × Int32 × Int32 × Int32 × Int32 × Int32 × Int32 × Int32 × Int32 × Int32 × Int32 × Int32 × Int32 × Int32 × Int32) (h : mX6_text thrown tape taped value weight many block ties lines undos fresh newValue newWeight newMany newBlock newTies newLines hasBlock hasTies size att place sort number fault faultPlace lastFault lastPlace x1 = some q) : MIe l yX6_text wsX6_text { frames := 11, cells := 0, slots := 0, locals := 215 } D cA adK adV .int [.ref (ad 0), .int x1] (wX6 cA ad thrown tape taped value weight many block ties lines pastValue pastWeight pastMany undos fresh newValue newWeight newMany newBlock newTies newLines hasBlock hasTies size att place sort number fault faultPlace lastFault lastPlace toValue toWeight toMany often firstOf lastOf unlikes unlikeMany isCandidate modes fewest) (wX6 cA ad q.2.1 tape q.2.2.1 q.2.2.2.1 q.2.2.2.2.1 q.2.2.2.2.2.1 q.2.2.2.2.2.2.1 q.2.2.2.2.2.2.2.1 q.2.2.2.2.2.2.2.2.1 pastValue pastWeight pastMany q.2.2.2.2.2.2.2.2.2.1 q.2.2.2.2.2.2.2.2.2.2.1 q.2.2.2.2.2.2.2.2.2.2.2.1 q.2.2.2.2.2.2.2.2.2.2.2.2.1 q.2.2.2.2.2.2.2.2.2.2.2.2.2.1 q.2.2.2.2.2.2.2.2.2.2.2.2.2.2.1 q.2.2.2.2.2.2.2.2.2.2.2.2.2.2.2.1 q.2.2.2.2.2.2.2.2.2.2.2.2.2.2.2.2.1 q.2.2.2.2.2.2.2.2.2.2.2.2.2.2.2.2.2.1 q.2.2.2.2.2.2.2.2.2.2.2.2.2.2.2.2.2.2.1 q.2.2.2.2.2.2.2.2.2.2.2.2.2.2.2.2.2.2.2.1 q.2.2.2.2.2.2.2.2.2.2.2.2.2.2.2.2.2.2.2.2.1 q.2.2.2.2.2.2.2.2.2.2.2.2.2.2.2.2.2.2.2.2.2.1 q.2.2.2.2.2.2.2.2.2.2.2.2.2.2.2.2.2.2.2.2.2.2.1 q.2.2.2.2.2.2.2.2.2.2.2.2.2.2.2.2.2.2.2.2.2.2.2.1 q.2.2.2.2.2.2.2.2.2.2.2.2.2.2.2.2.2.2.2.2.2.2.2.2.1 q.2.2.2.2.2.2.2.2.2.2.2.2.2.2.2.2.2.2.2.2.2.2.2.2.2.1 q.2.2.2.2.2.2.2.2.2.2.2.2.2.2.2.2.2.2.2.2.2.2.2.2.2.2.1 q.2.2.2.2.2.2.2.2.2.2.2.2.2.2.2.2.2.2.2.2.2.2.2.2.2.2.2 toValue toWeight toMany often firstOf lastOf unlikes unlikeMany isCandidate modes fewest) q.1 := by
  refine MIe.of (cc := cX6_text) (maxL := 3) (by decide +kernel) rfl rfl rfl (Nat.le_of_ble_eq_true rfl) ?_
  intro p e s m args below meth c A ls Q hx hb hml hts hown hK hP hD hA hS hE hR hl hret
  have hl : lv_has ls 3 [(0, .ref (ad 0)), (1, .int x1)] := hl
  have f118 := hts (.fieldLink RX6 118 "ModeDeskModel" "fault" "I") (by decide +kernel)
  have f121 := hts (.fieldLink RX6 121 "ModeDeskModel" "faultPlace" "I") (by decide +kernel)
  have f13 := hts (.fieldLink RX6 13 "ModeDeskModel" "value" "[I") (by decide +kernel)
  have f134 := hts (.fieldLink RX6 134 "ModeDeskModel" "newMany" "I") (by decide +kernel)
  have f141 := hts (.fieldLink RX6 141 "ModeDeskModel" "hasBlock" "Z") (by decide +kernel)
  have f145 := hts (.fieldLink RX6 145 "ModeDeskModel" "newBlock" "I") (by decide +kernel)
  have f148 := hts (.fieldLink RX6 148 "ModeDeskModel" "hasTies" "Z") (by decide +kernel)
  have f151 := hts (.fieldLink RX6 151 "ModeDeskModel" "newTies" "I") (by decide +kernel)
  have f16 := hts (.fieldLink RX6 16 "ModeDeskModel" "weight" "[I") (by decide +kernel)
  have f166 := hts (.fieldLink RX6 166 "ModeDeskModel" "newLines" "I") (by decide +kernel)
  have f172 := hts (.fieldLink RX6 172 "ModeDeskModel" "lastFault" "I") (by decide +kernel)
  have f175 := hts (.fieldLink RX6 175 "ModeDeskModel" "many" "I") (by decide +kernel)
  have f178 := hts (.fieldLink RX6 178 "ModeDeskModel" "ties" "I") (by decide +kernel)
  have f181 := hts (.fieldLink RX6 181 "ModeDeskModel" "lines" "I") (by decide +kernel)
  have f184 := hts (.fieldLink RX6 184 "ModeDeskModel" "undos" "I") (by decide +kernel)
  have f28 := hts (.fieldLink RX6 28 "ModeDeskModel" "fresh" "I") (by decide +kernel)
  have f32 := hts (.fieldLink RX6 32 "ModeDeskModel" "newValue" "[I") (by decide +kernel)
  have f35 := hts (.fieldLink RX6 35 "ModeDeskModel" "newWeight" "[I") (by decide +kernel)
  have f38 := hts (.fieldLink RX6 38 "ModeDeskModel" "lastPlace" "I") (by decide +kernel)
  have f69 := hts (.fieldLink RX6 69 "ModeDeskModel" "block" "I") (by decide +kernel)
  have f72 := hts (.fieldLink RX6 72 "ModeDeskModel" "thrown" "I") (by decide +kernel)
  have f75 := hts (.fieldLink RX6 75 "ModeDeskModel" "taped" "I") (by decide +kernel)
  have f78 := hts (.fieldLink RX6 78 "ModeDeskModel" "at" "I") (by decide +kernel)
  have f81 := hts (.fieldLink RX6 81 "ModeDeskModel" "size" "I") (by decide +kernel)
  have f91 := hts (.fieldLink RX6 91 "ModeDeskModel" "sort" "I") (by decide +kernel)
  have iX6 : ∀ w ∈ wsX60, w ∈ wsX6_text := by decide +kernel
  unfold mX6_text at h
  refine lv_aload_n hx hb dX6_text_0 rfl (lv_at hl 0 rfl) ?_
  refine lv_iconst (v := 0) hx hb dX6_text_1 (by decide) ?_
  refine va_put (D := D) (ci := 6) (v := .int 0) (ty := .int) (C := RX6) (T := TX6) (N := 42) hx hb hts iX6 tyX6 tyX6_ok nmX6 hown hK hP hD hS 0 rfl rfl 0 (Nat.le_of_ble_eq_true rfl) f72 (fun _ h9 => h9) rfl (tyX6_ok 0 (Nat.le_of_ble_eq_true rfl)) rfl rfl (Nat.le_of_ble_eq_true rfl) dX6_text_2 (fun H locs hP hD hS => ?_)
  have hP : va_P D vwCl (wX6 cA ad 0 tape taped value weight many block ties lines pastValue pastWeight pastMany undos fresh newValue newWeight newMany newBlock newTies newLines hasBlock hasTies size att place sort number fault faultPlace lastFault lastPlace toValue toWeight toMany often firstOf lastOf unlikes unlikeMany isCandidate modes fewest) H := hP
  have hD : va_D A (wX6 cA ad 0 tape taped value weight many block ties lines pastValue pastWeight pastMany undos fresh newValue newWeight newMany newBlock newTies newLines hasBlock hasTies size att place sort number fault faultPlace lastFault lastPlace toValue toWeight toMany often firstOf lastOf unlikes unlikeMany isCandidate modes fewest) := hD
  refine lv_iload_n hx hb dX6_text_5 rfl (lv_at hl 1 rfl) ?_
  refine lv_if_lt (tgt := 17) hx hb dX6_text_6 (by decide) (fun c1 => ?_) (fun c1 => ?_)
  · have h := e_t c1 h
    refine lv_bipush (v := (-2)) hx hb dX6_text_17 (by decide) ?_
    obtain rfl := e_s h
    exact hret hP hS rfl dX6_text_19
  · have h := e_f c1 h
    refine lv_iload_n hx hb dX6_text_9 rfl (lv_at hl 1 rfl) ?_
    refine lv_aload_n hx hb dX6_text_10 rfl (lv_at hl 0 rfl) ?_
    refine va_get (D := D) (ci := 6) (v := .int taped) (C := RX6) (T := TX6) (N := 42) hx hb hts iX6 hown hK hP 0 rfl rfl 2 (Nat.le_of_ble_eq_true rfl) f75 (fun _ h9 => h9) rfl dX6_text_11 ?_
    refine lv_icmp_le (tgt := 20) hx hb dX6_text_14 (by decide) (fun c2 => ?_) (fun c2 => ?_)
    · have h := e_t c2 h
      refine lv_aload_n hx hb dX6_text_20 rfl (lv_at hl 0 rfl) ?_
      refine lv_iconst (v := 0) hx hb dX6_text_21 (by decide) ?_
      refine va_put (D := D) (ci := 6) (v := .int 0) (ty := .int) (C := RX6) (T := TX6) (N := 42) hx hb hts iX6 tyX6 tyX6_ok nmX6 hown hK hP hD hS 0 rfl rfl 16 (Nat.le_of_ble_eq_true rfl) f134 (fun _ h9 => h9) rfl (tyX6_ok 16 (Nat.le_of_ble_eq_true rfl)) rfl rfl (Nat.le_of_ble_eq_true rfl) dX6_text_22 (fun H locs hP hD hS => ?_)
      have hP : va_P D vwCl (wX6 cA ad 0 tape taped value weight many block ties lines pastValue pastWeight pastMany undos fresh newValue newWeight 0 newBlock newTies newLines hasBlock hasTies size att place sort number fault faultPlace lastFault lastPlace toValue toWeight toMany often firstOf lastOf unlikes unlikeMany isCandidate modes fewest) H := hP
      have hD : va_D A (wX6 cA ad 0 tape taped value weight many block ties lines pastValue pastWeight pastMany undos fresh newValue newWeight 0 newBlock newTies newLines hasBlock hasTies size att place sort number fault faultPlace lastFault lastPlace toValue toWeight toMany often firstOf lastOf unlikes unlikeMany isCandidate modes fewest) := hD
      refine lv_aload_n hx hb dX6_text_25 rfl (lv_at hl 0 rfl) ?_
      refine lv_bipush (v := 8) hx hb dX6_text_26 (by decide) ?_
      refine va_put (D := D) (ci := 6) (v := .int 8) (ty := .int) (C := RX6) (T := TX6) (N := 42) hx hb hts iX6 tyX6 tyX6_ok nmX6 hown hK hP hD hS 0 rfl rfl 17 (Nat.le_of_ble_eq_true rfl) f145 (fun _ h9 => h9) rfl (tyX6_ok 17 (Nat.le_of_ble_eq_true rfl)) rfl rfl (Nat.le_of_ble_eq_true rfl) dX6_text_28 (fun H locs hP hD hS => ?_)
      have hP : va_P D vwCl (wX6 cA ad 0 tape taped value weight many block ties lines pastValue pastWeight pastMany undos fresh newValue newWeight 0 8 newTies newLines hasBlock hasTies size att place sort number fault faultPlace lastFault lastPlace toValue toWeight toMany often firstOf lastOf unlikes unlikeMany isCandidate modes fewest) H := hP
      have hD : va_D A (wX6 cA ad 0 tape taped value weight many block ties lines pastValue pastWeight pastMany undos fresh newValue newWeight 0 8 newTies newLines hasBlock hasTies size att place sort number fault faultPlace lastFault lastPlace toValue toWeight toMany often firstOf lastOf unlikes unlikeMany isCandidate modes fewest) := hD
      refine lv_aload_n hx hb dX6_text_31 rfl (lv_at hl 0 rfl) ?_
      refine lv_iconst (v := 0) hx hb dX6_text_32 (by decide) ?_
      refine va_put (D := D) (ci := 6) (v := .int 0) (ty := .int) (C := RX6) (T := TX6) (N := 42) hx hb hts iX6 tyX6 tyX6_ok nmX6 hown hK hP hD hS 0 rfl rfl 18 (Nat.le_of_ble_eq_true rfl) f151 (fun _ h9 => h9) rfl (tyX6_ok 18 (Nat.le_of_ble_eq_true rfl)) rfl rfl (Nat.le_of_ble_eq_true rfl) dX6_text_33 (fun H locs hP hD hS => ?_)
      have hP : va_P D vwCl (wX6 cA ad 0 tape taped value weight many block ties lines pastValue pastWeight pastMany undos fresh newValue newWeight 0 8 0 newLines hasBlock hasTies size att place sort number fault faultPlace lastFault lastPlace toValue toWeight toMany often firstOf lastOf unlikes unlikeMany isCandidate modes fewest) H := hP
      have hD : va_D A (wX6 cA ad 0 tape taped value weight many block ties lines pastValue pastWeight pastMany undos fresh newValue newWeight 0 8 0 newLines hasBlock hasTies size att place sort number fault faultPlace lastFault lastPlace toValue toWeight toMany often firstOf lastOf unlikes unlikeMany isCandidate modes fewest) := hD
      refine lv_aload_n hx hb dX6_text_36 rfl (lv_at hl 0 rfl) ?_
      refine lv_iconst (v := 0) hx hb dX6_text_37 (by decide) ?_
      refine va_put (D := D) (ci := 6) (v := .int 0) (ty := .int) (C := RX6) (T := TX6) (N := 42) hx hb hts iX6 tyX6 tyX6_ok nmX6 hown hK hP hD hS 0 rfl rfl 19 (Nat.le_of_ble_eq_true rfl) f166 (fun _ h9 => h9) rfl (tyX6_ok 19 (Nat.le_of_ble_eq_true rfl)) rfl rfl (Nat.le_of_ble_eq_true rfl) dX6_text_38 (fun H locs hP hD hS => ?_)
      have hP : va_P D vwCl (wX6 cA ad 0 tape taped value weight many block ties lines pastValue pastWeight pastMany undos fresh newValue newWeight 0 8 0 0 hasBlock hasTies size att place sort number fault faultPlace lastFault lastPlace toValue toWeight toMany often firstOf lastOf unlikes unlikeMany isCandidate modes fewest) H := hP
      have hD : va_D A (wX6 cA ad 0 tape taped value weight many block ties lines pastValue pastWeight pastMany undos fresh newValue newWeight 0 8 0 0 hasBlock hasTies size att place sort number fault faultPlace lastFault lastPlace toValue toWeight toMany often firstOf lastOf unlikes unlikeMany isCandidate modes fewest) := hD
      refine lv_aload_n hx hb dX6_text_41 rfl (lv_at hl 0 rfl) ?_
      refine lv_iconst (v := 0) hx hb dX6_text_42 (by decide) ?_
      refine va_put (D := D) (ci := 6) (v := .int 0) (ty := .boolean) (C := RX6) (T := TX6) (N := 42) hx hb hts iX6 tyX6 tyX6_ok nmX6 hown hK hP hD hS 0 rfl rfl 20 (Nat.le_of_ble_eq_true rfl) f141 (fun _ h9 => h9) rfl (tyX6_ok 20 (Nat.le_of_ble_eq_true rfl)) rfl rfl (Nat.le_of_ble_eq_true rfl) dX6_text_43 (fun H locs hP hD hS => ?_)
      have hP : va_P D vwCl (wX6 cA ad 0 tape taped value weight many block ties lines pastValue pastWeight pastMany undos fresh newValue newWeight 0 8 0 0 0 hasTies size att place sort number fault faultPlace lastFault lastPlace toValue toWeight toMany often firstOf lastOf unlikes unlikeMany isCandidate modes fewest) H := hP
      have hD : va_D A (wX6 cA ad 0 tape taped value weight many block ties lines pastValue pastWeight pastMany undos fresh newValue newWeight 0 8 0 0 0 hasTies size att place sort number fault faultPlace lastFault lastPlace toValue toWeight toMany often firstOf lastOf unlikes unlikeMany isCandidate modes fewest) := hD
      refine lv_aload_n hx hb dX6_text_46 rfl (lv_at hl 0 rfl) ?_
      refine lv_iconst (v := 0) hx hb dX6_text_47 (by decide) ?_
      refine va_put (D := D) (ci := 6) (v := .int 0) (ty := .boolean) (C := RX6) (T := TX6) (N := 42) hx hb hts iX6 tyX6 tyX6_ok nmX6 hown hK hP hD hS 0 rfl rfl 21 (Nat.le_of_ble_eq_true rfl) f148 (fun _ h9 => h9) rfl (tyX6_ok 21 (Nat.le_of_ble_eq_true rfl)) rfl rfl (Nat.le_of_ble_eq_true rfl) dX6_text_48 (fun H locs hP hD hS => ?_)
      have hP : va_P D vwCl (wX6 cA ad 0 tape taped value weight many block ties lines pastValue pastWeight pastMany undos fresh newValue newWeight 0 8 0 0 0 0 size att place sort number fault faultPlace lastFault lastPlace toValue toWeight toMany often firstOf lastOf unlikes unlikeMany isCandidate modes fewest) H := hP
      have hD : va_D A (wX6 cA ad 0 tape taped value weight many block ties lines pastValue pastWeight pastMany undos fresh newValue newWeight 0 8 0 0 0 0 size att place sort number fault faultPlace lastFault lastPlace toValue toWeight toMany often firstOf lastOf unlikes unlikeMany isCandidate modes fewest) := hD
      refine lv_aload_n hx hb dX6_text_51 rfl (lv_at hl 0 rfl) ?_
      refine lv_iload_n hx hb dX6_text_52 rfl (lv_at hl 1 rfl) ?_
      refine va_put (D := D) (ci := 6) (v := .int x1) (ty := .int) (C := RX6) (T := TX6) (N := 42) hx hb hts iX6 tyX6 tyX6_ok nmX6 hown hK hP hD hS 0 rfl rfl 22 (Nat.le_of_ble_eq_true rfl) f81 (fun _ h9 => h9) rfl (tyX6_ok 22 (Nat.le_of_ble_eq_true rfl)) rfl rfl (Nat.le_of_ble_eq_true rfl) dX6_text_53 (fun H locs hP hD hS => ?_)
      have hP : va_P D vwCl (wX6 cA ad 0 tape taped value weight many block ties lines pastValue pastWeight pastMany undos fresh newValue newWeight 0 8 0 0 0 0 x1 att place sort number fault faultPlace lastFault lastPlace toValue toWeight toMany often firstOf lastOf unlikes unlikeMany isCandidate modes fewest) H := hP
      have hD : va_D A (wX6 cA ad 0 tape taped value weight many block ties lines pastValue pastWeight pastMany undos fresh newValue newWeight 0 8 0 0 0 0 x1 att place sort number fault faultPlace lastFault lastPlace toValue toWeight toMany often firstOf lastOf unlikes unlikeMany isCandidate modes fewest) := hD
      refine lv_aload_n hx hb dX6_text_56 rfl (lv_at hl 0 rfl) ?_
      refine lv_iconst (v := 0) hx hb dX6_text_57 (by decide) ?_
      refine va_put (D := D) (ci := 6) (v := .int 0) (ty := .int) (C := RX6) (T := TX6) (N := 42) hx hb hts iX6 tyX6 tyX6_ok nmX6 hown hK hP hD hS 0 rfl rfl 23 (Nat.le_of_ble_eq_true rfl) f78 (fun _ h9 => h9) rfl (tyX6_ok 23 (Nat.le_of_ble_eq_true rfl)) rfl rfl (Nat.le_of_ble_eq_true rfl) dX6_text_58 (fun H locs hP hD hS => ?_)
      have hP : va_P D vwCl (wX6 cA ad 0 tape taped value weight many block ties lines pastValue pastWeight pastMany undos fresh newValue newWeight 0 8 0 0 0 0 x1 0 place sort number fault faultPlace lastFault lastPlace toValue toWeight toMany often firstOf lastOf unlikes unlikeMany isCandidate modes fewest) H := hP
      have hD : va_D A (wX6 cA ad 0 tape taped value weight many block ties lines pastValue pastWeight pastMany undos fresh newValue newWeight 0 8 0 0 0 0 x1 0 place sort number fault faultPlace lastFault lastPlace toValue toWeight toMany often firstOf lastOf unlikes unlikeMany isCandidate modes fewest) := hD
      refine lv_aload_n hx hb dX6_text_61 rfl (lv_at hl 0 rfl) ?_
      refine lv_iconst (v := 0) hx hb dX6_text_62 (by decide) ?_
      refine va_put (D := D) (ci := 6) (v := .int 0) (ty := .int) (C := RX6) (T := TX6) (N := 42) hx hb hts iX6 tyX6 tyX6_ok nmX6 hown hK hP hD hS 0 rfl rfl 27 (Nat.le_of_ble_eq_true rfl) f118 (fun _ h9 => h9) rfl (tyX6_ok 27 (Nat.le_of_ble_eq_true rfl)) rfl rfl (Nat.le_of_ble_eq_true rfl) dX6_text_63 (fun H locs hP hD hS => ?_)
      have hP : va_P D vwCl (wX6 cA ad 0 tape taped value weight many block ties lines pastValue pastWeight pastMany undos fresh newValue newWeight 0 8 0 0 0 0 x1 0 place sort number 0 faultPlace lastFault lastPlace toValue toWeight toMany often firstOf lastOf unlikes unlikeMany isCandidate modes fewest) H := hP
      have hD : va_D A (wX6 cA ad 0 tape taped value weight many block ties lines pastValue pastWeight pastMany undos fresh newValue newWeight 0 8 0 0 0 0 x1 0 place sort number 0 faultPlace lastFault lastPlace toValue toWeight toMany often firstOf lastOf unlikes unlikeMany isCandidate modes fewest) := hD
      refine lv_aload_n hx hb dX6_text_66 rfl (lv_at hl 0 rfl) ?_
      obtain ⟨q3, eq3, h⟩ := e_b h
      refine xv_ve (As := []) (rest := []) (b := ad 0) hE hR ⟨hx, hb, hml, hown, hts⟩ hl.1 (kX6_token l D cA adK adV ad 0 tape taped value weight many block ties lines pastValue pastWeight pastMany undos fresh newValue newWeight 0 8 0 0 0 0 x1 0 place sort number 0 faultPlace lastFault lastPlace toValue toWeight toMany often firstOf lastOf unlikes unlikeMany isCandidate modes fewest   _ eq3) (cwV 0 hts gX6_text_X6_token rfl rfl rfl (by decide +kernel) ⟨Nat.le_of_ble_eq_true rfl, Nat.le_of_ble_eq_true rfl⟩) rfl hK hP hD hS hA (va_recv hK hP (ci := 6) (q0 := 0) rfl rfl) [0, 1, 2, 3, 4, 5, 6, 7, 8, 9, 10, 11, 12, 13, 14, 15, 16, 17] rfl (by decide +kernel) rfl (Nat.le_of_ble_eq_true rfl) dX6_text_67 ⟨Nat.zero_le _, Nat.zero_le _⟩ (fun H locs hP hD hS => ?_)
      have hP : va_P D vwCl (wX6 cA ad 0 tape taped value weight many block ties lines pastValue pastWeight pastMany undos fresh newValue newWeight 0 8 0 0 0 0 x1 q3.1 q3.2.1 q3.2.2.1 q3.2.2.2 0 faultPlace lastFault lastPlace toValue toWeight toMany often firstOf lastOf unlikes unlikeMany isCandidate modes fewest) H := hP
      have hD : va_D A (wX6 cA ad 0 tape taped value weight many block ties lines pastValue pastWeight pastMany undos fresh newValue newWeight 0 8 0 0 0 0 x1 q3.1 q3.2.1 q3.2.2.1 q3.2.2.2 0 faultPlace lastFault lastPlace toValue toWeight toMany often firstOf lastOf unlikes unlikeMany isCandidate modes fewest) := hD
      have hL70 : ∀ (n : Nat) (thrown : Int32) (tape : Nat → Int32) (taped : Int32) (value : Nat → Int32) (weight : Nat → Int32) (many : Int32) (block : Int32) (ties : Int32) (lines : Int32) (pastValue : Nat → Int32) (pastWeight : Nat → Int32) (pastMany : Nat → Int32) (undos : Int32) (fresh : Int32) (newValue : Nat → Int32) (newWeight : Nat → Int32) (newMany : Int32) (newBlock : Int32) (newTies : Int32) (newLines : Int32) (hasBlock : Int32) (hasTies : Int32) (size : Int32) (att : Int32) (place : Int32) (sort : Int32) (number : Int32) (fault : Int32) (faultPlace : Int32) (lastFault : Int32) (lastPlace : Int32) (toValue : Nat → Int32) (toWeight : Nat → Int32) (toMany : Int32) (often : Nat → Int32) (firstOf : Nat → Int32) (lastOf : Nat → Int32) (unlikes : Nat → Int32) (unlikeMany : Int32) (isCandidate : Nat → Int32) (modes : Nat → Int32) (fewest : Nat → Int32) (z4 : (Nat → Int32) × (Nat → Int32) × Int32 × Int32 × Int32 × Int32 × Int32 × Int32 × Int32 × Int32 × Int32 × Int32 × Int32 × Int32) (ls : Array Slot) (H : Heap) (locs : List Loc), lv_has ls 3 [(0, .ref (ad 0))] → va_P D vwCl (wX6 cA ad thrown tape taped value weight many block ties lines pastValue pastWeight pastMany undos fresh newValue newWeight newMany newBlock newTies newLines hasBlock hasTies size att place sort number fault faultPlace lastFault lastPlace toValue toWeight toMany often firstOf lastOf unlikes unlikeMany isCandidate modes fewest) H → va_D A (wX6 cA ad thrown tape taped value weight many block ties lines pastValue pastWeight pastMany undos fresh newValue newWeight newMany newBlock newTies newLines hasBlock hasTies size att place sort number fault faultPlace lastFault lastPlace toValue toWeight toMany often firstOf lastOf unlikes unlikeMany isCandidate modes fewest) → va_S A s.heap H locs → mX6_text_L70 tape size n newValue newWeight newMany newBlock newTies newLines hasBlock hasTies att place sort number fault faultPlace = some z4 → (∀ (ls : Array Slot) (H : Heap) (locs : List Loc), lv_has ls 3 [(0, .ref (ad 0))] → va_P D vwCl (wX6 cA ad thrown tape taped value weight many block ties lines pastValue pastWeight pastMany undos fresh z4.1 z4.2.1 z4.2.2.1 z4.2.2.2.1 z4.2.2.2.2.1 z4.2.2.2.2.2.1 z4.2.2.2.2.2.2.1 z4.2.2.2.2.2.2.2.1 size z4.2.2.2.2.2.2.2.2.1 z4.2.2.2.2.2.2.2.2.2.1 z4.2.2.2.2.2.2.2.2.2.2.1 z4.2.2.2.2.2.2.2.2.2.2.2.1 z4.2.2.2.2.2.2.2.2.2.2.2.2.1 z4.2.2.2.2.2.2.2.2.2.2.2.2.2 lastFault lastPlace toValue toWeight toMany often firstOf lastOf unlikes unlikeMany isCandidate modes fewest) H → va_D A (wX6 cA ad thrown tape taped value weight many block ties lines pastValue pastWeight pastMany undos fresh z4.1 z4.2.1 z4.2.2.1 z4.2.2.2.1 z4.2.2.2.2.1 z4.2.2.2.2.2.1 z4.2.2.2.2.2.2.1 z4.2.2.2.2.2.2.2.1 size z4.2.2.2.2.2.2.2.2.1 z4.2.2.2.2.2.2.2.2.2.1 z4.2.2.2.2.2.2.2.2.2.2.1 z4.2.2.2.2.2.2.2.2.2.2.2.1 z4.2.2.2.2.2.2.2.2.2.2.2.2.1 z4.2.2.2.2.2.2.2.2.2.2.2.2.2 lastFault lastPlace toValue toWeight toMany often firstOf lastOf unlikes unlikeMany isCandidate modes fewest) → va_S A s.heap H locs → W p l e (headSpec wsX6_text { frames := 11, cells := 0, slots := 0, locals := 215 }).room s m args below meth c H locs 0 0 Q (F0 m 92 ls [])) → W p l e (headSpec wsX6_text { frames := 11, cells := 0, slots := 0, locals := 215 }).room s m args below meth c H locs 0 0 Q (F0 m 70 ls []) := by
        intro n
        induction n with
        | zero => intro thrown tape taped value weight many block ties lines pastValue pastWeight pastMany undos fresh newValue newWeight newMany newBlock newTies newLines hasBlock hasTies size att place sort number fault faultPlace lastFault lastPlace toValue toWeight toMany often firstOf lastOf unlikes unlikeMany isCandidate modes fewest z4 ls H locs hl hP hD hS h hk70; exact e_n h
        | succ n ih70 =>
          intro thrown tape taped value weight many block ties lines pastValue pastWeight pastMany undos fresh newValue newWeight newMany newBlock newTies newLines hasBlock hasTies size att place sort number fault faultPlace lastFault lastPlace toValue toWeight toMany often firstOf lastOf unlikes unlikeMany isCandidate modes fewest z4 ls H locs hl hP hD hS h hk70
          rw [mX6_text_L70.eq_2] at h
          refine lv_aload_n hx hb dX6_text_70 rfl (lv_at hl 0 rfl) ?_
          refine va_get (D := D) (ci := 6) (v := .int fault) (C := RX6) (T := TX6) (N := 42) hx hb hts iX6 hown hK hP 0 rfl rfl 27 (Nat.le_of_ble_eq_true rfl) f118 (fun _ h9 => h9) rfl dX6_text_71 ?_
          refine lv_if_ne (tgt := 92) hx hb dX6_text_74 (by decide) (fun c5 => ?_) (fun c5 => ?_)
          · have h := e_t c5 h
            obtain rfl := e_s h
            exact hk70 _ _ _ (lv_sub hl [0] rfl) hP hD hS
          · have h := e_f (not_not_intro c5) h
            refine lv_aload_n hx hb dX6_text_77 rfl (lv_at hl 0 rfl) ?_
            refine va_get (D := D) (ci := 6) (v := .int sort) (C := RX6) (T := TX6) (N := 42) hx hb hts iX6 hown hK hP 0 rfl rfl 25 (Nat.le_of_ble_eq_true rfl) f91 (fun _ h9 => h9) rfl dX6_text_78 ?_
            refine lv_iconst (v := 3) hx hb dX6_text_81 (by decide) ?_
            refine lv_icmp_eq (tgt := 92) hx hb dX6_text_82 (by decide) (fun c6 => ?_) (fun c6 => ?_)
            · have h := e_t c6 h
              obtain rfl := e_s h
              exact hk70 _ _ _ (lv_sub hl [0] rfl) hP hD hS
            · have h := e_f c6 h
              refine lv_aload_n hx hb dX6_text_85 rfl (lv_at hl 0 rfl) ?_
              obtain ⟨q7, eq7, h⟩ := e_b h
              refine xv_ve (As := []) (rest := []) (b := ad 0) hE hR ⟨hx, hb, hml, hown, hts⟩ hl.1 (kX6_readLine l D cA adK adV ad thrown tape taped value weight many block ties lines pastValue pastWeight pastMany undos fresh newValue newWeight newMany newBlock newTies newLines hasBlock hasTies size att place sort number fault faultPlace lastFault lastPlace toValue toWeight toMany often firstOf lastOf unlikes unlikeMany isCandidate modes fewest   _ eq7) (cwV 0 hts gX6_text_X6_readLine rfl rfl rfl (by decide +kernel) ⟨Nat.le_of_ble_eq_true rfl, Nat.le_of_ble_eq_true rfl⟩) rfl hK hP hD hS hA (va_recv hK hP (ci := 6) (q0 := 0) rfl rfl) [0, 1, 2, 3, 4, 5, 6, 7, 8, 9, 10, 11, 12, 13, 14, 15, 16, 17] rfl (by decide +kernel) rfl (Nat.le_of_ble_eq_true rfl) dX6_text_86 ⟨Nat.zero_le _, Nat.zero_le _⟩ (fun H locs hP hD hS => ?_)
              have hP : va_P D vwCl (wX6 cA ad thrown tape taped value weight many block ties lines pastValue pastWeight pastMany undos fresh q7.1 q7.2.1 q7.2.2.1 q7.2.2.2.1 q7.2.2.2.2.1 q7.2.2.2.2.2.1 q7.2.2.2.2.2.2.1 q7.2.2.2.2.2.2.2.1 size q7.2.2.2.2.2.2.2.2.1 q7.2.2.2.2.2.2.2.2.2.1 q7.2.2.2.2.2.2.2.2.2.2.1 q7.2.2.2.2.2.2.2.2.2.2.2.1 q7.2.2.2.2.2.2.2.2.2.2.2.2.1 q7.2.2.2.2.2.2.2.2.2.2.2.2.2 lastFault lastPlace toValue toWeight toMany often firstOf lastOf unlikes unlikeMany isCandidate modes fewest) H := hP
              have hD : va_D A (wX6 cA ad thrown tape taped value weight many block ties lines pastValue pastWeight pastMany undos fresh q7.1 q7.2.1 q7.2.2.1 q7.2.2.2.1 q7.2.2.2.2.1 q7.2.2.2.2.2.1 q7.2.2.2.2.2.2.1 q7.2.2.2.2.2.2.2.1 size q7.2.2.2.2.2.2.2.2.1 q7.2.2.2.2.2.2.2.2.2.1 q7.2.2.2.2.2.2.2.2.2.2.1 q7.2.2.2.2.2.2.2.2.2.2.2.1 q7.2.2.2.2.2.2.2.2.2.2.2.2.1 q7.2.2.2.2.2.2.2.2.2.2.2.2.2 lastFault lastPlace toValue toWeight toMany often firstOf lastOf unlikes unlikeMany isCandidate modes fewest) := hD
              refine lv_goto (tgt := 70) hx hb dX6_text_89 (by decide) ?_
              exact ih70 thrown tape taped value weight many block ties lines pastValue pastWeight pastMany undos fresh q7.1 q7.2.1 q7.2.2.1 q7.2.2.2.1 q7.2.2.2.2.1 q7.2.2.2.2.2.1 q7.2.2.2.2.2.2.1 q7.2.2.2.2.2.2.2.1 size q7.2.2.2.2.2.2.2.2.1 q7.2.2.2.2.2.2.2.2.2.1 q7.2.2.2.2.2.2.2.2.2.2.1 q7.2.2.2.2.2.2.2.2.2.2.2.1 q7.2.2.2.2.2.2.2.2.2.2.2.2.1 q7.2.2.2.2.2.2.2.2.2.2.2.2.2 lastFault lastPlace toValue toWeight toMany often firstOf lastOf unlikes unlikeMany isCandidate modes fewest z4 _ _ _ (lv_sub hl [0] rfl) hP hD hS h hk70
      obtain ⟨z8, ez8, h⟩ := e_b h
      refine hL70 FU 0 tape taped value weight many block ties lines pastValue pastWeight pastMany undos fresh newValue newWeight 0 8 0 0 0 0 x1 q3.1 q3.2.1 q3.2.2.1 q3.2.2.2 0 faultPlace lastFault lastPlace toValue toWeight toMany often firstOf lastOf unlikes unlikeMany isCandidate modes fewest z8 _ _ _ (lv_sub hl [0] rfl) hP hD hS ez8 (fun ls H locs hl hP hD hS => ?_)
      refine lv_aload_n hx hb dX6_text_92 rfl (lv_at hl 0 rfl) ?_
      refine lv_iconst (v := 0) hx hb dX6_text_93 (by decide) ?_
      refine va_put (D := D) (ci := 6) (v := .int 0) (ty := .int) (C := RX6) (T := TX6) (N := 42) hx hb hts iX6 tyX6 tyX6_ok nmX6 hown hK hP hD hS 0 rfl rfl 2 (Nat.le_of_ble_eq_true rfl) f75 (fun _ h9 => h9) rfl (tyX6_ok 2 (Nat.le_of_ble_eq_true rfl)) rfl rfl (Nat.le_of_ble_eq_true rfl) dX6_text_94 (fun H locs hP hD hS => ?_)
      have hP : va_P D vwCl (wX6 cA ad 0 tape 0 value weight many block ties lines pastValue pastWeight pastMany undos fresh z8.1 z8.2.1 z8.2.2.1 z8.2.2.2.1 z8.2.2.2.2.1 z8.2.2.2.2.2.1 z8.2.2.2.2.2.2.1 z8.2.2.2.2.2.2.2.1 x1 z8.2.2.2.2.2.2.2.2.1 z8.2.2.2.2.2.2.2.2.2.1 z8.2.2.2.2.2.2.2.2.2.2.1 z8.2.2.2.2.2.2.2.2.2.2.2.1 z8.2.2.2.2.2.2.2.2.2.2.2.2.1 z8.2.2.2.2.2.2.2.2.2.2.2.2.2 lastFault lastPlace toValue toWeight toMany often firstOf lastOf unlikes unlikeMany isCandidate modes fewest) H := hP
      have hD : va_D A (wX6 cA ad 0 tape 0 value weight many block ties lines pastValue pastWeight pastMany undos fresh z8.1 z8.2.1 z8.2.2.1 z8.2.2.2.1 z8.2.2.2.2.1 z8.2.2.2.2.2.1 z8.2.2.2.2.2.2.1 z8.2.2.2.2.2.2.2.1 x1 z8.2.2.2.2.2.2.2.2.1 z8.2.2.2.2.2.2.2.2.2.1 z8.2.2.2.2.2.2.2.2.2.2.1 z8.2.2.2.2.2.2.2.2.2.2.2.1 z8.2.2.2.2.2.2.2.2.2.2.2.2.1 z8.2.2.2.2.2.2.2.2.2.2.2.2.2 lastFault lastPlace toValue toWeight toMany often firstOf lastOf unlikes unlikeMany isCandidate modes fewest) := hD
      refine lv_aload_n hx hb dX6_text_97 rfl (lv_at hl 0 rfl) ?_
      refine lv_aload_n hx hb dX6_text_98 rfl (lv_at hl 0 rfl) ?_
      refine va_get (D := D) (ci := 6) (v := .int z8.2.2.2.2.2.2.2.2.2.2.2.2.1) (C := RX6) (T := TX6) (N := 42) hx hb hts iX6 hown hK hP 0 rfl rfl 27 (Nat.le_of_ble_eq_true rfl) f118 (fun _ h9 => h9) rfl dX6_text_99 ?_
      refine va_put (D := D) (ci := 6) (v := .int z8.2.2.2.2.2.2.2.2.2.2.2.2.1) (ty := .int) (C := RX6) (T := TX6) (N := 42) hx hb hts iX6 tyX6 tyX6_ok nmX6 hown hK hP hD hS 0 rfl rfl 29 (Nat.le_of_ble_eq_true rfl) f172 (fun _ h9 => h9) rfl (tyX6_ok 29 (Nat.le_of_ble_eq_true rfl)) rfl rfl (Nat.le_of_ble_eq_true rfl) dX6_text_102 (fun H locs hP hD hS => ?_)
      have hP : va_P D vwCl (wX6 cA ad 0 tape 0 value weight many block ties lines pastValue pastWeight pastMany undos fresh z8.1 z8.2.1 z8.2.2.1 z8.2.2.2.1 z8.2.2.2.2.1 z8.2.2.2.2.2.1 z8.2.2.2.2.2.2.1 z8.2.2.2.2.2.2.2.1 x1 z8.2.2.2.2.2.2.2.2.1 z8.2.2.2.2.2.2.2.2.2.1 z8.2.2.2.2.2.2.2.2.2.2.1 z8.2.2.2.2.2.2.2.2.2.2.2.1 z8.2.2.2.2.2.2.2.2.2.2.2.2.1 z8.2.2.2.2.2.2.2.2.2.2.2.2.2 z8.2.2.2.2.2.2.2.2.2.2.2.2.1 lastPlace toValue toWeight toMany often firstOf lastOf unlikes unlikeMany isCandidate modes fewest) H := hP
      have hD : va_D A (wX6 cA ad 0 tape 0 value weight many block ties lines pastValue pastWeight pastMany undos fresh z8.1 z8.2.1 z8.2.2.1 z8.2.2.2.1 z8.2.2.2.2.1 z8.2.2.2.2.2.1 z8.2.2.2.2.2.2.1 z8.2.2.2.2.2.2.2.1 x1 z8.2.2.2.2.2.2.2.2.1 z8.2.2.2.2.2.2.2.2.2.1 z8.2.2.2.2.2.2.2.2.2.2.1 z8.2.2.2.2.2.2.2.2.2.2.2.1 z8.2.2.2.2.2.2.2.2.2.2.2.2.1 z8.2.2.2.2.2.2.2.2.2.2.2.2.2 z8.2.2.2.2.2.2.2.2.2.2.2.2.1 lastPlace toValue toWeight toMany often firstOf lastOf unlikes unlikeMany isCandidate modes fewest) := hD
      refine lv_aload_n hx hb dX6_text_105 rfl (lv_at hl 0 rfl) ?_
      refine lv_aload_n hx hb dX6_text_106 rfl (lv_at hl 0 rfl) ?_
      refine va_get (D := D) (ci := 6) (v := .int z8.2.2.2.2.2.2.2.2.2.2.2.2.1) (C := RX6) (T := TX6) (N := 42) hx hb hts iX6 hown hK hP 0 rfl rfl 27 (Nat.le_of_ble_eq_true rfl) f118 (fun _ h9 => h9) rfl dX6_text_107 ?_
      obtain ⟨z9, ez9, h⟩ := e_b h
      have hJ10 : ∀ (ls : Array Slot) (H : Heap) (locs : List Loc), lv_has ls 3 [(0, .ref (ad 0))] → va_P D vwCl (wX6 cA ad 0 tape 0 value weight many block ties lines pastValue pastWeight pastMany undos fresh z8.1 z8.2.1 z8.2.2.1 z8.2.2.2.1 z8.2.2.2.2.1 z8.2.2.2.2.2.1 z8.2.2.2.2.2.2.1 z8.2.2.2.2.2.2.2.1 x1 z8.2.2.2.2.2.2.2.2.1 z8.2.2.2.2.2.2.2.2.2.1 z8.2.2.2.2.2.2.2.2.2.2.1 z8.2.2.2.2.2.2.2.2.2.2.2.1 z8.2.2.2.2.2.2.2.2.2.2.2.2.1 z8.2.2.2.2.2.2.2.2.2.2.2.2.2 z8.2.2.2.2.2.2.2.2.2.2.2.2.1 lastPlace toValue toWeight toMany often firstOf lastOf unlikes unlikeMany isCandidate modes fewest) H → va_D A (wX6 cA ad 0 tape 0 value weight many block ties lines pastValue pastWeight pastMany undos fresh z8.1 z8.2.1 z8.2.2.1 z8.2.2.2.1 z8.2.2.2.2.1 z8.2.2.2.2.2.1 z8.2.2.2.2.2.2.1 z8.2.2.2.2.2.2.2.1 x1 z8.2.2.2.2.2.2.2.2.1 z8.2.2.2.2.2.2.2.2.2.1 z8.2.2.2.2.2.2.2.2.2.2.1 z8.2.2.2.2.2.2.2.2.2.2.2.1 z8.2.2.2.2.2.2.2.2.2.2.2.2.1 z8.2.2.2.2.2.2.2.2.2.2.2.2.2 z8.2.2.2.2.2.2.2.2.2.2.2.2.1 lastPlace toValue toWeight toMany often firstOf lastOf unlikes unlikeMany isCandidate modes fewest) → va_S A s.heap H locs → W p l e (headSpec wsX6_text { frames := 11, cells := 0, slots := 0, locals := 215 }).room s m args below meth c H locs 0 0 Q (F0 m 121 ls [.int z9, .ref (ad 0)]) := by
        intro ls H locs hl hP hD hS
        refine va_put (D := D) (ci := 6) (v := .int z9) (ty := .int) (C := RX6) (T := TX6) (N := 42) hx hb hts iX6 tyX6 tyX6_ok nmX6 hown hK hP hD hS 0 rfl rfl 30 (Nat.le_of_ble_eq_true rfl) f38 (fun _ h9 => h9) rfl (tyX6_ok 30 (Nat.le_of_ble_eq_true rfl)) rfl rfl (Nat.le_of_ble_eq_true rfl) dX6_text_121 (fun H locs hP hD hS => ?_)
        have hP : va_P D vwCl (wX6 cA ad 0 tape 0 value weight many block ties lines pastValue pastWeight pastMany undos fresh z8.1 z8.2.1 z8.2.2.1 z8.2.2.2.1 z8.2.2.2.2.1 z8.2.2.2.2.2.1 z8.2.2.2.2.2.2.1 z8.2.2.2.2.2.2.2.1 x1 z8.2.2.2.2.2.2.2.2.1 z8.2.2.2.2.2.2.2.2.2.1 z8.2.2.2.2.2.2.2.2.2.2.1 z8.2.2.2.2.2.2.2.2.2.2.2.1 z8.2.2.2.2.2.2.2.2.2.2.2.2.1 z8.2.2.2.2.2.2.2.2.2.2.2.2.2 z8.2.2.2.2.2.2.2.2.2.2.2.2.1 z9 toValue toWeight toMany often firstOf lastOf unlikes unlikeMany isCandidate modes fewest) H := hP
        have hD : va_D A (wX6 cA ad 0 tape 0 value weight many block ties lines pastValue pastWeight pastMany undos fresh z8.1 z8.2.1 z8.2.2.1 z8.2.2.2.1 z8.2.2.2.2.1 z8.2.2.2.2.2.1 z8.2.2.2.2.2.2.1 z8.2.2.2.2.2.2.2.1 x1 z8.2.2.2.2.2.2.2.2.1 z8.2.2.2.2.2.2.2.2.2.1 z8.2.2.2.2.2.2.2.2.2.2.1 z8.2.2.2.2.2.2.2.2.2.2.2.1 z8.2.2.2.2.2.2.2.2.2.2.2.2.1 z8.2.2.2.2.2.2.2.2.2.2.2.2.2 z8.2.2.2.2.2.2.2.2.2.2.2.2.1 z9 toValue toWeight toMany often firstOf lastOf unlikes unlikeMany isCandidate modes fewest) := hD
        refine lv_aload_n hx hb dX6_text_124 rfl (lv_at hl 0 rfl) ?_
        refine va_get (D := D) (ci := 6) (v := .int z8.2.2.2.2.2.2.2.2.2.2.2.2.1) (C := RX6) (T := TX6) (N := 42) hx hb hts iX6 hown hK hP 0 rfl rfl 27 (Nat.le_of_ble_eq_true rfl) f118 (fun _ h9 => h9) rfl dX6_text_125 ?_
        refine lv_if_eq (tgt := 133) hx hb dX6_text_128 (by decide) (fun c11 => ?_) (fun c11 => ?_)
        · have h := e_t c11 h
          refine lv_aload_n hx hb dX6_text_133 rfl (lv_at hl 0 rfl) ?_
          refine lv_aload_n hx hb dX6_text_134 rfl (lv_at hl 0 rfl) ?_
          refine va_get (D := D) (ci := 6) (v := .int z8.2.2.1) (C := RX6) (T := TX6) (N := 42) hx hb hts iX6 hown hK hP 0 rfl rfl 16 (Nat.le_of_ble_eq_true rfl) f134 (fun _ h9 => h9) rfl dX6_text_135 ?_
          refine va_put (D := D) (ci := 6) (v := .int z8.2.2.1) (ty := .int) (C := RX6) (T := TX6) (N := 42) hx hb hts iX6 tyX6 tyX6_ok nmX6 hown hK hP hD hS 0 rfl rfl 5 (Nat.le_of_ble_eq_true rfl) f175 (fun _ h9 => h9) rfl (tyX6_ok 5 (Nat.le_of_ble_eq_true rfl)) rfl rfl (Nat.le_of_ble_eq_true rfl) dX6_text_138 (fun H locs hP hD hS => ?_)
          have hP : va_P D vwCl (wX6 cA ad 0 tape 0 value weight z8.2.2.1 block ties lines pastValue pastWeight pastMany undos fresh z8.1 z8.2.1 z8.2.2.1 z8.2.2.2.1 z8.2.2.2.2.1 z8.2.2.2.2.2.1 z8.2.2.2.2.2.2.1 z8.2.2.2.2.2.2.2.1 x1 z8.2.2.2.2.2.2.2.2.1 z8.2.2.2.2.2.2.2.2.2.1 z8.2.2.2.2.2.2.2.2.2.2.1 z8.2.2.2.2.2.2.2.2.2.2.2.1 z8.2.2.2.2.2.2.2.2.2.2.2.2.1 z8.2.2.2.2.2.2.2.2.2.2.2.2.2 z8.2.2.2.2.2.2.2.2.2.2.2.2.1 z9 toValue toWeight toMany often firstOf lastOf unlikes unlikeMany isCandidate modes fewest) H := hP
          have hD : va_D A (wX6 cA ad 0 tape 0 value weight z8.2.2.1 block ties lines pastValue pastWeight pastMany undos fresh z8.1 z8.2.1 z8.2.2.1 z8.2.2.2.1 z8.2.2.2.2.1 z8.2.2.2.2.2.1 z8.2.2.2.2.2.2.1 z8.2.2.2.2.2.2.2.1 x1 z8.2.2.2.2.2.2.2.2.1 z8.2.2.2.2.2.2.2.2.2.1 z8.2.2.2.2.2.2.2.2.2.2.1 z8.2.2.2.2.2.2.2.2.2.2.2.1 z8.2.2.2.2.2.2.2.2.2.2.2.2.1 z8.2.2.2.2.2.2.2.2.2.2.2.2.2 z8.2.2.2.2.2.2.2.2.2.2.2.2.1 z9 toValue toWeight toMany often firstOf lastOf unlikes unlikeMany isCandidate modes fewest) := hD
          refine lv_iconst (v := 0) hx hb dX6_text_141 (by decide) ?_
          refine lv_istore_n (lv' := [(2, .int 0), (0, .ref (ad 0))]) hx hb dX6_text_142 rfl hl (by decide) rfl (fun ls hl => ?_)
          have hL143 : ∀ (n : Nat) (x2 : Int32) (thrown : Int32) (tape : Nat → Int32) (taped : Int32) (value : Nat → Int32) (weight : Nat → Int32) (many : Int32) (block : Int32) (ties : Int32) (lines : Int32) (pastValue : Nat → Int32) (pastWeight : Nat → Int32) (pastMany : Nat → Int32) (undos : Int32) (fresh : Int32) (newValue : Nat → Int32) (newWeight : Nat → Int32) (newMany : Int32) (newBlock : Int32) (newTies : Int32) (newLines : Int32) (hasBlock : Int32) (hasTies : Int32) (size : Int32) (att : Int32) (place : Int32) (sort : Int32) (number : Int32) (fault : Int32) (faultPlace : Int32) (lastFault : Int32) (lastPlace : Int32) (toValue : Nat → Int32) (toWeight : Nat → Int32) (toMany : Int32) (often : Nat → Int32) (firstOf : Nat → Int32) (lastOf : Nat → Int32) (unlikes : Nat → Int32) (unlikeMany : Int32) (isCandidate : Nat → Int32) (modes : Nat → Int32) (fewest : Nat → Int32) (z12 : (Nat → Int32) × (Nat → Int32)) (ls : Array Slot) (H : Heap) (locs : List Loc), lv_has ls 3 [(0, .ref (ad 0)), (2, .int x2)] → va_P D vwCl (wX6 cA ad thrown tape taped value weight many block ties lines pastValue pastWeight pastMany undos fresh newValue newWeight newMany newBlock newTies newLines hasBlock hasTies size att place sort number fault faultPlace lastFault lastPlace toValue toWeight toMany often firstOf lastOf unlikes unlikeMany isCandidate modes fewest) H → va_D A (wX6 cA ad thrown tape taped value weight many block ties lines pastValue pastWeight pastMany undos fresh newValue newWeight newMany newBlock newTies newLines hasBlock hasTies size att place sort number fault faultPlace lastFault lastPlace toValue toWeight toMany often firstOf lastOf unlikes unlikeMany isCandidate modes fewest) → va_S A s.heap H locs → mX6_text_L143 many newValue newWeight n x2 value weight = some z12 → (∀ (ls : Array Slot) (H : Heap) (locs : List Loc), lv_has ls 3 [(0, .ref (ad 0))] → va_P D vwCl (wX6 cA ad thrown tape taped z12.1 z12.2 many block ties lines pastValue pastWeight pastMany undos fresh newValue newWeight newMany newBlock newTies newLines hasBlock hasTies size att place sort number fault faultPlace lastFault lastPlace toValue toWeight toMany often firstOf lastOf unlikes unlikeMany isCandidate modes fewest) H → va_D A (wX6 cA ad thrown tape taped z12.1 z12.2 many block ties lines pastValue pastWeight pastMany undos fresh newValue newWeight newMany newBlock newTies newLines hasBlock hasTies size att place sort number fault faultPlace lastFault lastPlace toValue toWeight toMany often firstOf lastOf unlikes unlikeMany isCandidate modes fewest) → va_S A s.heap H locs → W p l e (headSpec wsX6_text { frames := 11, cells := 0, slots := 0, locals := 215 }).room s m args below meth c H locs 0 0 Q (F0 m 181 ls [])) → W p l e (headSpec wsX6_text { frames := 11, cells := 0, slots := 0, locals := 215 }).room s m args below meth c H locs 0 0 Q (F0 m 143 ls []) := by
            intro n
            induction n with
            | zero => intro x2 thrown tape taped value weight many block ties lines pastValue pastWeight pastMany undos fresh newValue newWeight newMany newBlock newTies newLines hasBlock hasTies size att place sort number fault faultPlace lastFault lastPlace toValue toWeight toMany often firstOf lastOf unlikes unlikeMany isCandidate modes fewest z12 ls H locs hl hP hD hS h hk143; exact e_n h
            | succ n ih143 =>
              intro x2 thrown tape taped value weight many block ties lines pastValue pastWeight pastMany undos fresh newValue newWeight newMany newBlock newTies newLines hasBlock hasTies size att place sort number fault faultPlace lastFault lastPlace toValue toWeight toMany often firstOf lastOf unlikes unlikeMany isCandidate modes fewest z12 ls H locs hl hP hD hS h hk143
              rw [mX6_text_L143.eq_2] at h
              refine lv_iload_n hx hb dX6_text_143 rfl (lv_at hl 1 rfl) ?_
              refine lv_aload_n hx hb dX6_text_144 rfl (lv_at hl 0 rfl) ?_
              refine va_get (D := D) (ci := 6) (v := .int many) (C := RX6) (T := TX6) (N := 42) hx hb hts iX6 hown hK hP 0 rfl rfl 5 (Nat.le_of_ble_eq_true rfl) f175 (fun _ h9 => h9) rfl dX6_text_145 ?_
              refine lv_icmp_ge (tgt := 181) hx hb dX6_text_148 (by decide) (fun c13 => ?_) (fun c13 => ?_)
              · have h := e_t c13 h
                obtain rfl := e_s h
                exact hk143 _ _ _ (lv_sub hl [0] rfl) hP hD hS
              · have h := e_f c13 h
                refine lv_aload_n hx hb dX6_text_151 rfl (lv_at hl 0 rfl) ?_
                refine va_get (D := D) (ci := 6) (v := .ref (ad 2)) (C := RX6) (T := TX6) (N := 42) hx hb hts iX6 hown hK hP 0 rfl rfl 3 (Nat.le_of_ble_eq_true rfl) f13 (fun _ h9 => h9) rfl dX6_text_152 ?_
                refine lv_iload_n hx hb dX6_text_155 rfl (lv_at hl 1 rfl) ?_
                refine lv_aload_n hx hb dX6_text_156 rfl (lv_at hl 0 rfl) ?_
                refine va_get (D := D) (ci := 6) (v := .ref (ad 7)) (C := RX6) (T := TX6) (N := 42) hx hb hts iX6 hown hK hP 0 rfl rfl 14 (Nat.le_of_ble_eq_true rfl) f32 (fun _ h9 => h9) rfl dX6_text_157 ?_
                refine lv_iload_n hx hb dX6_text_160 rfl (lv_at hl 1 rfl) ?_
                obtain ⟨v14, ev14, nv14, h⟩ := e_rd h
                refine xa_iald hx hb hK hP 7 rfl nv14 ev14 dX6_text_161 ?_
                obtain ⟨a15, ea15, na15, h⟩ := e_wr h
                refine xa_iast hx hb hK hP hD hS 2 rfl na15 ea15 dX6_text_162 (fun H locs hP hD hS => ?_)
                have hP : va_P D vwCl (wX6 cA ad thrown tape taped a15 weight many block ties lines pastValue pastWeight pastMany undos fresh newValue newWeight newMany newBlock newTies newLines hasBlock hasTies size att place sort number fault faultPlace lastFault lastPlace toValue toWeight toMany often firstOf lastOf unlikes unlikeMany isCandidate modes fewest) H := hP
                have hD : va_D A (wX6 cA ad thrown tape taped a15 weight many block ties lines pastValue pastWeight pastMany undos fresh newValue newWeight newMany newBlock newTies newLines hasBlock hasTies size att place sort number fault faultPlace lastFault lastPlace toValue toWeight toMany often firstOf lastOf unlikes unlikeMany isCandidate modes fewest) := hD
                refine lv_aload_n hx hb dX6_text_163 rfl (lv_at hl 0 rfl) ?_
                refine va_get (D := D) (ci := 6) (v := .ref (ad 3)) (C := RX6) (T := TX6) (N := 42) hx hb hts iX6 hown hK hP 0 rfl rfl 4 (Nat.le_of_ble_eq_true rfl) f16 (fun _ h9 => h9) rfl dX6_text_164 ?_
                refine lv_iload_n hx hb dX6_text_167 rfl (lv_at hl 1 rfl) ?_
                refine lv_aload_n hx hb dX6_text_168 rfl (lv_at hl 0 rfl) ?_
                refine va_get (D := D) (ci := 6) (v := .ref (ad 8)) (C := RX6) (T := TX6) (N := 42) hx hb hts iX6 hown hK hP 0 rfl rfl 15 (Nat.le_of_ble_eq_true rfl) f35 (fun _ h9 => h9) rfl dX6_text_169 ?_
                refine lv_iload_n hx hb dX6_text_172 rfl (lv_at hl 1 rfl) ?_
                obtain ⟨v16, ev16, nv16, h⟩ := e_rd h
                refine xa_iald hx hb hK hP 8 rfl nv16 ev16 dX6_text_173 ?_
                obtain ⟨a17, ea17, na17, h⟩ := e_wr h
                refine xa_iast hx hb hK hP hD hS 3 rfl na17 ea17 dX6_text_174 (fun H locs hP hD hS => ?_)
                have hP : va_P D vwCl (wX6 cA ad thrown tape taped a15 a17 many block ties lines pastValue pastWeight pastMany undos fresh newValue newWeight newMany newBlock newTies newLines hasBlock hasTies size att place sort number fault faultPlace lastFault lastPlace toValue toWeight toMany often firstOf lastOf unlikes unlikeMany isCandidate modes fewest) H := hP
                have hD : va_D A (wX6 cA ad thrown tape taped a15 a17 many block ties lines pastValue pastWeight pastMany undos fresh newValue newWeight newMany newBlock newTies newLines hasBlock hasTies size att place sort number fault faultPlace lastFault lastPlace toValue toWeight toMany often firstOf lastOf unlikes unlikeMany isCandidate modes fewest) := hD
                refine lv_iinc (v := (x2 + 1)) (lv' := [(2, .int (x2 + 1)), (0, .ref (ad 0))]) hx hb dX6_text_175 hl (k := 1) rfl rfl (by decide) rfl (fun ls hl => ?_)
                refine lv_goto (tgt := 143) hx hb dX6_text_178 (by decide) ?_
                exact ih143 (x2 + 1) thrown tape taped a15 a17 many block ties lines pastValue pastWeight pastMany undos fresh newValue newWeight newMany newBlock newTies newLines hasBlock hasTies size att place sort number fault faultPlace lastFault lastPlace toValue toWeight toMany often firstOf lastOf unlikes unlikeMany isCandidate modes fewest z12 _ _ _ (lv_sub hl [1, 0] rfl) hP hD hS h hk143
          obtain ⟨z18, ez18, h⟩ := e_b h
          refine hL143 FU 0 0 tape 0 value weight z8.2.2.1 block ties lines pastValue pastWeight pastMany undos fresh z8.1 z8.2.1 z8.2.2.1 z8.2.2.2.1 z8.2.2.2.2.1 z8.2.2.2.2.2.1 z8.2.2.2.2.2.2.1 z8.2.2.2.2.2.2.2.1 x1 z8.2.2.2.2.2.2.2.2.1 z8.2.2.2.2.2.2.2.2.2.1 z8.2.2.2.2.2.2.2.2.2.2.1 z8.2.2.2.2.2.2.2.2.2.2.2.1 z8.2.2.2.2.2.2.2.2.2.2.2.2.1 z8.2.2.2.2.2.2.2.2.2.2.2.2.2 z8.2.2.2.2.2.2.2.2.2.2.2.2.1 z9 toValue toWeight toMany often firstOf lastOf unlikes unlikeMany isCandidate modes fewest z18 _ _ _ (lv_sub hl [1, 0] rfl) hP hD hS ez18 (fun ls H locs hl hP hD hS => ?_)
          refine lv_aload_n hx hb dX6_text_181 rfl (lv_at hl 0 rfl) ?_
          refine lv_aload_n hx hb dX6_text_182 rfl (lv_at hl 0 rfl) ?_
          refine va_get (D := D) (ci := 6) (v := .int z8.2.2.2.1) (C := RX6) (T := TX6) (N := 42) hx hb hts iX6 hown hK hP 0 rfl rfl 17 (Nat.le_of_ble_eq_true rfl) f145 (fun _ h9 => h9) rfl dX6_text_183 ?_
          refine va_put (D := D) (ci := 6) (v := .int z8.2.2.2.1) (ty := .int) (C := RX6) (T := TX6) (N := 42) hx hb hts iX6 tyX6 tyX6_ok nmX6 hown hK hP hD hS 0 rfl rfl 6 (Nat.le_of_ble_eq_true rfl) f69 (fun _ h9 => h9) rfl (tyX6_ok 6 (Nat.le_of_ble_eq_true rfl)) rfl rfl (Nat.le_of_ble_eq_true rfl) dX6_text_186 (fun H locs hP hD hS => ?_)
          have hP : va_P D vwCl (wX6 cA ad 0 tape 0 z18.1 z18.2 z8.2.2.1 z8.2.2.2.1 ties lines pastValue pastWeight pastMany undos fresh z8.1 z8.2.1 z8.2.2.1 z8.2.2.2.1 z8.2.2.2.2.1 z8.2.2.2.2.2.1 z8.2.2.2.2.2.2.1 z8.2.2.2.2.2.2.2.1 x1 z8.2.2.2.2.2.2.2.2.1 z8.2.2.2.2.2.2.2.2.2.1 z8.2.2.2.2.2.2.2.2.2.2.1 z8.2.2.2.2.2.2.2.2.2.2.2.1 z8.2.2.2.2.2.2.2.2.2.2.2.2.1 z8.2.2.2.2.2.2.2.2.2.2.2.2.2 z8.2.2.2.2.2.2.2.2.2.2.2.2.1 z9 toValue toWeight toMany often firstOf lastOf unlikes unlikeMany isCandidate modes fewest) H := hP
          have hD : va_D A (wX6 cA ad 0 tape 0 z18.1 z18.2 z8.2.2.1 z8.2.2.2.1 ties lines pastValue pastWeight pastMany undos fresh z8.1 z8.2.1 z8.2.2.1 z8.2.2.2.1 z8.2.2.2.2.1 z8.2.2.2.2.2.1 z8.2.2.2.2.2.2.1 z8.2.2.2.2.2.2.2.1 x1 z8.2.2.2.2.2.2.2.2.1 z8.2.2.2.2.2.2.2.2.2.1 z8.2.2.2.2.2.2.2.2.2.2.1 z8.2.2.2.2.2.2.2.2.2.2.2.1 z8.2.2.2.2.2.2.2.2.2.2.2.2.1 z8.2.2.2.2.2.2.2.2.2.2.2.2.2 z8.2.2.2.2.2.2.2.2.2.2.2.2.1 z9 toValue toWeight toMany often firstOf lastOf unlikes unlikeMany isCandidate modes fewest) := hD
          refine lv_aload_n hx hb dX6_text_189 rfl (lv_at hl 0 rfl) ?_
          refine lv_aload_n hx hb dX6_text_190 rfl (lv_at hl 0 rfl) ?_
          refine va_get (D := D) (ci := 6) (v := .int z8.2.2.2.2.1) (C := RX6) (T := TX6) (N := 42) hx hb hts iX6 hown hK hP 0 rfl rfl 18 (Nat.le_of_ble_eq_true rfl) f151 (fun _ h9 => h9) rfl dX6_text_191 ?_
          refine va_put (D := D) (ci := 6) (v := .int z8.2.2.2.2.1) (ty := .int) (C := RX6) (T := TX6) (N := 42) hx hb hts iX6 tyX6 tyX6_ok nmX6 hown hK hP hD hS 0 rfl rfl 7 (Nat.le_of_ble_eq_true rfl) f178 (fun _ h9 => h9) rfl (tyX6_ok 7 (Nat.le_of_ble_eq_true rfl)) rfl rfl (Nat.le_of_ble_eq_true rfl) dX6_text_194 (fun H locs hP hD hS => ?_)
          have hP : va_P D vwCl (wX6 cA ad 0 tape 0 z18.1 z18.2 z8.2.2.1 z8.2.2.2.1 z8.2.2.2.2.1 lines pastValue pastWeight pastMany undos fresh z8.1 z8.2.1 z8.2.2.1 z8.2.2.2.1 z8.2.2.2.2.1 z8.2.2.2.2.2.1 z8.2.2.2.2.2.2.1 z8.2.2.2.2.2.2.2.1 x1 z8.2.2.2.2.2.2.2.2.1 z8.2.2.2.2.2.2.2.2.2.1 z8.2.2.2.2.2.2.2.2.2.2.1 z8.2.2.2.2.2.2.2.2.2.2.2.1 z8.2.2.2.2.2.2.2.2.2.2.2.2.1 z8.2.2.2.2.2.2.2.2.2.2.2.2.2 z8.2.2.2.2.2.2.2.2.2.2.2.2.1 z9 toValue toWeight toMany often firstOf lastOf unlikes unlikeMany isCandidate modes fewest) H := hP
          have hD : va_D A (wX6 cA ad 0 tape 0 z18.1 z18.2 z8.2.2.1 z8.2.2.2.1 z8.2.2.2.2.1 lines pastValue pastWeight pastMany undos fresh z8.1 z8.2.1 z8.2.2.1 z8.2.2.2.1 z8.2.2.2.2.1 z8.2.2.2.2.2.1 z8.2.2.2.2.2.2.1 z8.2.2.2.2.2.2.2.1 x1 z8.2.2.2.2.2.2.2.2.1 z8.2.2.2.2.2.2.2.2.2.1 z8.2.2.2.2.2.2.2.2.2.2.1 z8.2.2.2.2.2.2.2.2.2.2.2.1 z8.2.2.2.2.2.2.2.2.2.2.2.2.1 z8.2.2.2.2.2.2.2.2.2.2.2.2.2 z8.2.2.2.2.2.2.2.2.2.2.2.2.1 z9 toValue toWeight toMany often firstOf lastOf unlikes unlikeMany isCandidate modes fewest) := hD
          refine lv_aload_n hx hb dX6_text_197 rfl (lv_at hl 0 rfl) ?_
          refine lv_aload_n hx hb dX6_text_198 rfl (lv_at hl 0 rfl) ?_
          refine va_get (D := D) (ci := 6) (v := .int z8.2.2.2.2.2.1) (C := RX6) (T := TX6) (N := 42) hx hb hts iX6 hown hK hP 0 rfl rfl 19 (Nat.le_of_ble_eq_true rfl) f166 (fun _ h9 => h9) rfl dX6_text_199 ?_
          refine va_put (D := D) (ci := 6) (v := .int z8.2.2.2.2.2.1) (ty := .int) (C := RX6) (T := TX6) (N := 42) hx hb hts iX6 tyX6 tyX6_ok nmX6 hown hK hP hD hS 0 rfl rfl 8 (Nat.le_of_ble_eq_true rfl) f181 (fun _ h9 => h9) rfl (tyX6_ok 8 (Nat.le_of_ble_eq_true rfl)) rfl rfl (Nat.le_of_ble_eq_true rfl) dX6_text_202 (fun H locs hP hD hS => ?_)
          have hP : va_P D vwCl (wX6 cA ad 0 tape 0 z18.1 z18.2 z8.2.2.1 z8.2.2.2.1 z8.2.2.2.2.1 z8.2.2.2.2.2.1 pastValue pastWeight pastMany undos fresh z8.1 z8.2.1 z8.2.2.1 z8.2.2.2.1 z8.2.2.2.2.1 z8.2.2.2.2.2.1 z8.2.2.2.2.2.2.1 z8.2.2.2.2.2.2.2.1 x1 z8.2.2.2.2.2.2.2.2.1 z8.2.2.2.2.2.2.2.2.2.1 z8.2.2.2.2.2.2.2.2.2.2.1 z8.2.2.2.2.2.2.2.2.2.2.2.1 z8.2.2.2.2.2.2.2.2.2.2.2.2.1 z8.2.2.2.2.2.2.2.2.2.2.2.2.2 z8.2.2.2.2.2.2.2.2.2.2.2.2.1 z9 toValue toWeight toMany often firstOf lastOf unlikes unlikeMany isCandidate modes fewest) H := hP
          have hD : va_D A (wX6 cA ad 0 tape 0 z18.1 z18.2 z8.2.2.1 z8.2.2.2.1 z8.2.2.2.2.1 z8.2.2.2.2.2.1 pastValue pastWeight pastMany undos fresh z8.1 z8.2.1 z8.2.2.1 z8.2.2.2.1 z8.2.2.2.2.1 z8.2.2.2.2.2.1 z8.2.2.2.2.2.2.1 z8.2.2.2.2.2.2.2.1 x1 z8.2.2.2.2.2.2.2.2.1 z8.2.2.2.2.2.2.2.2.2.1 z8.2.2.2.2.2.2.2.2.2.2.1 z8.2.2.2.2.2.2.2.2.2.2.2.1 z8.2.2.2.2.2.2.2.2.2.2.2.2.1 z8.2.2.2.2.2.2.2.2.2.2.2.2.2 z8.2.2.2.2.2.2.2.2.2.2.2.2.1 z9 toValue toWeight toMany often firstOf lastOf unlikes unlikeMany isCandidate modes fewest) := hD
          refine lv_aload_n hx hb dX6_text_205 rfl (lv_at hl 0 rfl) ?_
          refine lv_iconst (v := 0) hx hb dX6_text_206 (by decide) ?_
          refine va_put (D := D) (ci := 6) (v := .int 0) (ty := .int) (C := RX6) (T := TX6) (N := 42) hx hb hts iX6 tyX6 tyX6_ok nmX6 hown hK hP hD hS 0 rfl rfl 12 (Nat.le_of_ble_eq_true rfl) f184 (fun _ h9 => h9) rfl (tyX6_ok 12 (Nat.le_of_ble_eq_true rfl)) rfl rfl (Nat.le_of_ble_eq_true rfl) dX6_text_207 (fun H locs hP hD hS => ?_)
          have hP : va_P D vwCl (wX6 cA ad 0 tape 0 z18.1 z18.2 z8.2.2.1 z8.2.2.2.1 z8.2.2.2.2.1 z8.2.2.2.2.2.1 pastValue pastWeight pastMany 0 fresh z8.1 z8.2.1 z8.2.2.1 z8.2.2.2.1 z8.2.2.2.2.1 z8.2.2.2.2.2.1 z8.2.2.2.2.2.2.1 z8.2.2.2.2.2.2.2.1 x1 z8.2.2.2.2.2.2.2.2.1 z8.2.2.2.2.2.2.2.2.2.1 z8.2.2.2.2.2.2.2.2.2.2.1 z8.2.2.2.2.2.2.2.2.2.2.2.1 z8.2.2.2.2.2.2.2.2.2.2.2.2.1 z8.2.2.2.2.2.2.2.2.2.2.2.2.2 z8.2.2.2.2.2.2.2.2.2.2.2.2.1 z9 toValue toWeight toMany often firstOf lastOf unlikes unlikeMany isCandidate modes fewest) H := hP
          have hD : va_D A (wX6 cA ad 0 tape 0 z18.1 z18.2 z8.2.2.1 z8.2.2.2.1 z8.2.2.2.2.1 z8.2.2.2.2.2.1 pastValue pastWeight pastMany 0 fresh z8.1 z8.2.1 z8.2.2.1 z8.2.2.2.1 z8.2.2.2.2.1 z8.2.2.2.2.2.1 z8.2.2.2.2.2.2.1 z8.2.2.2.2.2.2.2.1 x1 z8.2.2.2.2.2.2.2.2.1 z8.2.2.2.2.2.2.2.2.2.1 z8.2.2.2.2.2.2.2.2.2.2.1 z8.2.2.2.2.2.2.2.2.2.2.2.1 z8.2.2.2.2.2.2.2.2.2.2.2.2.1 z8.2.2.2.2.2.2.2.2.2.2.2.2.2 z8.2.2.2.2.2.2.2.2.2.2.2.2.1 z9 toValue toWeight toMany often firstOf lastOf unlikes unlikeMany isCandidate modes fewest) := hD
          refine lv_aload_n hx hb dX6_text_210 rfl (lv_at hl 0 rfl) ?_
          refine lv_bipush (v := (-2)) hx hb dX6_text_211 (by decide) ?_
          refine va_put (D := D) (ci := 6) (v := .int (-2)) (ty := .int) (C := RX6) (T := TX6) (N := 42) hx hb hts iX6 tyX6 tyX6_ok nmX6 hown hK hP hD hS 0 rfl rfl 13 (Nat.le_of_ble_eq_true rfl) f28 (fun _ h9 => h9) rfl (tyX6_ok 13 (Nat.le_of_ble_eq_true rfl)) rfl rfl (Nat.le_of_ble_eq_true rfl) dX6_text_213 (fun H locs hP hD hS => ?_)
          have hP : va_P D vwCl (wX6 cA ad 0 tape 0 z18.1 z18.2 z8.2.2.1 z8.2.2.2.1 z8.2.2.2.2.1 z8.2.2.2.2.2.1 pastValue pastWeight pastMany 0 (-2) z8.1 z8.2.1 z8.2.2.1 z8.2.2.2.1 z8.2.2.2.2.1 z8.2.2.2.2.2.1 z8.2.2.2.2.2.2.1 z8.2.2.2.2.2.2.2.1 x1 z8.2.2.2.2.2.2.2.2.1 z8.2.2.2.2.2.2.2.2.2.1 z8.2.2.2.2.2.2.2.2.2.2.1 z8.2.2.2.2.2.2.2.2.2.2.2.1 z8.2.2.2.2.2.2.2.2.2.2.2.2.1 z8.2.2.2.2.2.2.2.2.2.2.2.2.2 z8.2.2.2.2.2.2.2.2.2.2.2.2.1 z9 toValue toWeight toMany often firstOf lastOf unlikes unlikeMany isCandidate modes fewest) H := hP
          have hD : va_D A (wX6 cA ad 0 tape 0 z18.1 z18.2 z8.2.2.1 z8.2.2.2.1 z8.2.2.2.2.1 z8.2.2.2.2.2.1 pastValue pastWeight pastMany 0 (-2) z8.1 z8.2.1 z8.2.2.1 z8.2.2.2.1 z8.2.2.2.2.1 z8.2.2.2.2.2.1 z8.2.2.2.2.2.2.1 z8.2.2.2.2.2.2.2.1 x1 z8.2.2.2.2.2.2.2.2.1 z8.2.2.2.2.2.2.2.2.2.1 z8.2.2.2.2.2.2.2.2.2.2.1 z8.2.2.2.2.2.2.2.2.2.2.2.1 z8.2.2.2.2.2.2.2.2.2.2.2.2.1 z8.2.2.2.2.2.2.2.2.2.2.2.2.2 z8.2.2.2.2.2.2.2.2.2.2.2.2.1 z9 toValue toWeight toMany often firstOf lastOf unlikes unlikeMany isCandidate modes fewest) := hD
          refine lv_aload_n hx hb dX6_text_216 rfl (lv_at hl 0 rfl) ?_
          refine va_get (D := D) (ci := 6) (v := .int z8.2.2.2.2.2.1) (C := RX6) (T := TX6) (N := 42) hx hb hts iX6 hown hK hP 0 rfl rfl 8 (Nat.le_of_ble_eq_true rfl) f181 (fun _ h9 => h9) rfl dX6_text_217 ?_
          obtain rfl := e_s h
          exact hret hP hS rfl dX6_text_220
        · have h := e_f c11 h
          refine lv_iconst (v := (-1)) hx hb dX6_text_131 (by decide) ?_
          obtain rfl := e_s h
          exact hret hP hS rfl dX6_text_132
      have h := ez9
      refine lv_if_ne (tgt := 117) hx hb dX6_text_110 (by decide) (fun c19 => ?_) (fun c19 => ?_)
      · have h := e_t c19 h
        refine lv_aload_n hx hb dX6_text_117 rfl (lv_at hl 0 rfl) ?_
        refine va_get (D := D) (ci := 6) (v := .int z8.2.2.2.2.2.2.2.2.2.2.2.2.2) (C := RX6) (T := TX6) (N := 42) hx hb hts iX6 hown hK hP 0 rfl rfl 28 (Nat.le_of_ble_eq_true rfl) f121 (fun _ h9 => h9) rfl dX6_text_118 ?_
        obtain rfl := e_s h
        exact hJ10 _ _ _ (lv_sub hl [0] rfl) hP hD hS
      · have h := e_f (not_not_intro c19) h
        refine lv_iconst (v := (-1)) hx hb dX6_text_113 (by decide) ?_
        refine lv_goto (tgt := 121) hx hb dX6_text_114 (by decide) ?_
        obtain rfl := e_s h
        exact hJ10 _ _ _ (lv_sub hl [0] rfl) hP hD hS
    · have h := e_f c2 h
      refine lv_bipush (v := (-2)) hx hb dX6_text_17 (by decide) ?_
      obtain rfl := e_s h
      exact hret hP hS rfl dX6_text_19
set_option maxHeartbeats 4000000 in
set_option maxRecDepth 100000 in
theorem kX6_fault (l : Launch) (D : va_G) (cA : Nat → ClassId) (ad : Nat → Nat) (thrown : Int32) (tape : Nat → Int32) (taped : Int32) (value : Nat → Int32) (weight : Nat → Int32) (many : Int32) (block : Int32) (ties : Int32) (lines : Int32) (pastValue : Nat → Int32) (pastWeight : Nat → Int32) (pastMany : Nat → Int32) (undos : Int32) (fresh : Int32) (newValue : Nat → Int32) (newWeight : Nat → Int32) (newMany : Int32) (newBlock : Int32) (newTies : Int32) (newLines : Int32) (hasBlock : Int32) (hasTies : Int32) (size : Int32) (att : Int32) (place : Int32) (sort : Int32) (number : Int32) (fault : Int32) (faultPlace : Int32) (lastFault : Int32) (lastPlace : Int32) (toValue : Nat → Int32) (toWeight : Nat → Int32) (toMany : Int32) (often : Nat → Int32) (firstOf : Nat → Int32) (lastOf : Nat → Int32) (unlikes : Nat → Int32) (unlikeMany : Int32) (isCandidate : Nat → Int32) (modes : Nat → Int32) (fewest : Nat → Int32) (x1 : Int32) (q : Int32 × Int32) (h : mX6_fault thrown lastFault lastPlace x1 = some q) : MI l yX6_fault wsX6_fault { frames := 0, cells := 0, slots := 0, locals := 0 } D cA .int [.ref (ad 0), .int x1] (wX6 cA ad thrown tape taped value weight many block ties lines pastValue pastWeight pastMany undos fresh newValue newWeight newMany newBlock newTies newLines hasBlock hasTies size att place sort number fault faultPlace lastFault lastPlace toValue toWeight toMany often firstOf lastOf unlikes unlikeMany isCandidate modes fewest) (wX6 cA ad q.2 tape taped value weight many block ties lines pastValue pastWeight pastMany undos fresh newValue newWeight newMany newBlock newTies newLines hasBlock hasTies size att place sort number fault faultPlace lastFault lastPlace toValue toWeight toMany often firstOf lastOf unlikes unlikeMany isCandidate modes fewest) q.1 := by
  refine MI.of (cc := cX6_fault) (maxL := 2) (by decide +kernel) rfl rfl rfl (Nat.le_of_ble_eq_true rfl) ?_
  intro p e s m args below meth c A ls Q hx hb hml hts hown hK hP hD hA hS hl hret
  have hl : lv_has ls 2 [(0, .ref (ad 0)), (1, .int x1)] := hl
  have f172 := hts (.fieldLink RX6 172 "ModeDeskModel" "lastFault" "I") (by decide +kernel)
  have f38 := hts (.fieldLink RX6 38 "ModeDeskModel" "lastPlace" "I") (by decide +kernel)
  have f72 := hts (.fieldLink RX6 72 "ModeDeskModel" "thrown" "I") (by decide +kernel)
  have iX6 : ∀ w ∈ wsX60, w ∈ wsX6_fault := by decide +kernel
  unfold mX6_fault at h
  refine lv_aload_n hx hb dX6_fault_0 rfl (lv_at hl 0 rfl) ?_
  refine lv_iconst (v := 0) hx hb dX6_fault_1 (by decide) ?_
  refine va_put (D := D) (ci := 6) (v := .int 0) (ty := .int) (C := RX6) (T := TX6) (N := 42) hx hb hts iX6 tyX6 tyX6_ok nmX6 hown hK hP hD hS 0 rfl rfl 0 (Nat.le_of_ble_eq_true rfl) f72 (fun _ h9 => h9) rfl (tyX6_ok 0 (Nat.le_of_ble_eq_true rfl)) rfl rfl (Nat.le_of_ble_eq_true rfl) dX6_fault_2 (fun H locs hP hD hS => ?_)
  have hP : va_P D vwCl (wX6 cA ad 0 tape taped value weight many block ties lines pastValue pastWeight pastMany undos fresh newValue newWeight newMany newBlock newTies newLines hasBlock hasTies size att place sort number fault faultPlace lastFault lastPlace toValue toWeight toMany often firstOf lastOf unlikes unlikeMany isCandidate modes fewest) H := hP
  have hD : va_D A (wX6 cA ad 0 tape taped value weight many block ties lines pastValue pastWeight pastMany undos fresh newValue newWeight newMany newBlock newTies newLines hasBlock hasTies size att place sort number fault faultPlace lastFault lastPlace toValue toWeight toMany often firstOf lastOf unlikes unlikeMany isCandidate modes fewest) := hD
  refine lv_iload_n hx hb dX6_fault_5 rfl (lv_at hl 1 rfl) ?_
  refine lv_if_ne (tgt := 16) hx hb dX6_fault_6 (by decide) (fun c1 => ?_) (fun c1 => ?_)
  · have h := e_t c1 h
    refine lv_iload_n hx hb dX6_fault_16 rfl (lv_at hl 1 rfl) ?_
    refine lv_iconst (v := 1) hx hb dX6_fault_17 (by decide) ?_
    refine lv_icmp_ne (tgt := 28) hx hb dX6_fault_18 (by decide) (fun c2 => ?_) (fun c2 => ?_)
    · have h := e_t c2 h
      refine lv_iconst (v := (-1)) hx hb dX6_fault_28 (by decide) ?_
      obtain rfl := e_s h
      exact hret hP hS rfl dX6_fault_29
    · have h := e_f (not_not_intro c2) h
      refine lv_aload_n hx hb dX6_fault_21 rfl (lv_at hl 0 rfl) ?_
      refine va_get (D := D) (ci := 6) (v := .int lastPlace) (C := RX6) (T := TX6) (N := 42) hx hb hts iX6 hown hK hP 0 rfl rfl 30 (Nat.le_of_ble_eq_true rfl) f38 (fun _ h9 => h9) rfl dX6_fault_22 ?_
      refine lv_goto (tgt := 29) hx hb dX6_fault_25 (by decide) ?_
      obtain rfl := e_s h
      exact hret hP hS rfl dX6_fault_29
  · have h := e_f (not_not_intro c1) h
    refine lv_aload_n hx hb dX6_fault_9 rfl (lv_at hl 0 rfl) ?_
    refine va_get (D := D) (ci := 6) (v := .int lastFault) (C := RX6) (T := TX6) (N := 42) hx hb hts iX6 hown hK hP 0 rfl rfl 29 (Nat.le_of_ble_eq_true rfl) f172 (fun _ h9 => h9) rfl dX6_fault_10 ?_
    refine lv_goto (tgt := 29) hx hb dX6_fault_13 (by decide) ?_
    obtain rfl := e_s h
    exact hret hP hS rfl dX6_fault_29
set_option maxHeartbeats 4000000 in
set_option maxRecDepth 100000 in
theorem kX6_isPlace (l : Launch) (D : va_G) (cA : Nat → ClassId) (ad : Nat → Nat) (thrown : Int32) (tape : Nat → Int32) (taped : Int32) (value : Nat → Int32) (weight : Nat → Int32) (many : Int32) (block : Int32) (ties : Int32) (lines : Int32) (pastValue : Nat → Int32) (pastWeight : Nat → Int32) (pastMany : Nat → Int32) (undos : Int32) (fresh : Int32) (newValue : Nat → Int32) (newWeight : Nat → Int32) (newMany : Int32) (newBlock : Int32) (newTies : Int32) (newLines : Int32) (hasBlock : Int32) (hasTies : Int32) (size : Int32) (att : Int32) (place : Int32) (sort : Int32) (number : Int32) (fault : Int32) (faultPlace : Int32) (lastFault : Int32) (lastPlace : Int32) (toValue : Nat → Int32) (toWeight : Nat → Int32) (toMany : Int32) (often : Nat → Int32) (firstOf : Nat → Int32) (lastOf : Nat → Int32) (unlikes : Nat → Int32) (unlikeMany : Int32) (isCandidate : Nat → Int32) (modes : Nat → Int32) (fewest : Nat → Int32) (x1 : Int32) (q : Int32) (h : mX6_isPlace many x1 = some q) : MI l yX6_isPlace wsX6_isPlace { frames := 0, cells := 0, slots := 0, locals := 0 } D cA .boolean [.ref (ad 0), .int x1] (wX6 cA ad thrown tape taped value weight many block ties lines pastValue pastWeight pastMany undos fresh newValue newWeight newMany newBlock newTies newLines hasBlock hasTies size att place sort number fault faultPlace lastFault lastPlace toValue toWeight toMany often firstOf lastOf unlikes unlikeMany isCandidate modes fewest) (wX6 cA ad thrown tape taped value weight many block ties lines pastValue pastWeight pastMany undos fresh newValue newWeight newMany newBlock newTies newLines hasBlock hasTies size att place sort number fault faultPlace lastFault lastPlace toValue toWeight toMany often firstOf lastOf unlikes unlikeMany isCandidate modes fewest) q := by
  refine MI.of (cc := cX6_isPlace) (maxL := 2) (by decide +kernel) rfl rfl rfl (Nat.le_of_ble_eq_true rfl) ?_
  intro p e s m args below meth c A ls Q hx hb hml hts hown hK hP hD hA hS hl hret
  have hl : lv_has ls 2 [(0, .ref (ad 0)), (1, .int x1)] := hl
  have f175 := hts (.fieldLink RX6 175 "ModeDeskModel" "many" "I") (by decide +kernel)
  have iX6 : ∀ w ∈ wsX60, w ∈ wsX6_isPlace := by decide +kernel
  unfold mX6_isPlace at h
  refine lv_iload_n hx hb dX6_isPlace_0 rfl (lv_at hl 1 rfl) ?_
  refine lv_if_lt (tgt := 16) hx hb dX6_isPlace_1 (by decide) (fun c1 => ?_) (fun c1 => ?_)
  · have h := e_t c1 h
    refine lv_iconst (v := 0) hx hb dX6_isPlace_16 (by decide) ?_
    obtain rfl := e_s h
    exact hret hP hS (show narrow .boolean (.int 0) = .int 0 from rfl) dX6_isPlace_17
  · have h := e_f c1 h
    refine lv_iload_n hx hb dX6_isPlace_4 rfl (lv_at hl 1 rfl) ?_
    refine lv_aload_n hx hb dX6_isPlace_5 rfl (lv_at hl 0 rfl) ?_
    refine va_get (D := D) (ci := 6) (v := .int many) (C := RX6) (T := TX6) (N := 42) hx hb hts iX6 hown hK hP 0 rfl rfl 5 (Nat.le_of_ble_eq_true rfl) f175 (fun _ h9 => h9) rfl dX6_isPlace_6 ?_
    refine lv_icmp_ge (tgt := 16) hx hb dX6_isPlace_9 (by decide) (fun c2 => ?_) (fun c2 => ?_)
    · have h := e_t c2 h
      refine lv_iconst (v := 0) hx hb dX6_isPlace_16 (by decide) ?_
      obtain rfl := e_s h
      exact hret hP hS (show narrow .boolean (.int 0) = .int 0 from rfl) dX6_isPlace_17
    · have h := e_f c2 h
      refine lv_iconst (v := 1) hx hb dX6_isPlace_12 (by decide) ?_
      refine lv_goto (tgt := 17) hx hb dX6_isPlace_13 (by decide) ?_
      obtain rfl := e_s h
      exact hret hP hS (show narrow .boolean (.int 1) = .int 1 from rfl) dX6_isPlace_17
set_option maxHeartbeats 4000000 in
set_option maxRecDepth 100000 in
theorem kX6_isSpan (l : Launch) (D : va_G) (cA : Nat → ClassId) (ad : Nat → Nat) (thrown : Int32) (tape : Nat → Int32) (taped : Int32) (value : Nat → Int32) (weight : Nat → Int32) (many : Int32) (block : Int32) (ties : Int32) (lines : Int32) (pastValue : Nat → Int32) (pastWeight : Nat → Int32) (pastMany : Nat → Int32) (undos : Int32) (fresh : Int32) (newValue : Nat → Int32) (newWeight : Nat → Int32) (newMany : Int32) (newBlock : Int32) (newTies : Int32) (newLines : Int32) (hasBlock : Int32) (hasTies : Int32) (size : Int32) (att : Int32) (place : Int32) (sort : Int32) (number : Int32) (fault : Int32) (faultPlace : Int32) (lastFault : Int32) (lastPlace : Int32) (toValue : Nat → Int32) (toWeight : Nat → Int32) (toMany : Int32) (often : Nat → Int32) (firstOf : Nat → Int32) (lastOf : Nat → Int32) (unlikes : Nat → Int32) (unlikeMany : Int32) (isCandidate : Nat → Int32) (modes : Nat → Int32) (fewest : Nat → Int32) (x1 : Int32) (x2 : Int32) (q : Int32) (h : mX6_isSpan many x1 x2 = some q) : MI l yX6_isSpan wsX6_isSpan { frames := 0, cells := 0, slots := 0, locals := 0 } D cA .boolean [.ref (ad 0), .int x1, .int x2] (wX6 cA ad thrown tape taped value weight many block ties lines pastValue pastWeight pastMany undos fresh newValue newWeight newMany newBlock newTies newLines hasBlock hasTies size att place sort number fault faultPlace lastFault lastPlace toValue toWeight toMany often firstOf lastOf unlikes unlikeMany isCandidate modes fewest) (wX6 cA ad thrown tape taped value weight many block ties lines pastValue pastWeight pastMany undos fresh newValue newWeight newMany newBlock newTies newLines hasBlock hasTies size att place sort number fault faultPlace lastFault lastPlace toValue toWeight toMany often firstOf lastOf unlikes unlikeMany isCandidate modes fewest) q := by
  refine MI.of (cc := cX6_isSpan) (maxL := 3) (by decide +kernel) rfl rfl rfl (Nat.le_of_ble_eq_true rfl) ?_
  intro p e s m args below meth c A ls Q hx hb hml hts hown hK hP hD hA hS hl hret
  have hl : lv_has ls 3 [(0, .ref (ad 0)), (1, .int x1), (2, .int x2)] := hl
  have f175 := hts (.fieldLink RX6 175 "ModeDeskModel" "many" "I") (by decide +kernel)
  have iX6 : ∀ w ∈ wsX60, w ∈ wsX6_isSpan := by decide +kernel
  unfold mX6_isSpan at h
  refine lv_iload_n hx hb dX6_isSpan_0 rfl (lv_at hl 1 rfl) ?_
  refine lv_if_lt (tgt := 21) hx hb dX6_isSpan_1 (by decide) (fun c1 => ?_) (fun c1 => ?_)
  · have h := e_t c1 h
    refine lv_iconst (v := 0) hx hb dX6_isSpan_21 (by decide) ?_
    obtain rfl := e_s h
    exact hret hP hS (show narrow .boolean (.int 0) = .int 0 from rfl) dX6_isSpan_22
  · have h := e_f c1 h
    refine lv_iload_n hx hb dX6_isSpan_4 rfl (lv_at hl 1 rfl) ?_
    refine lv_iload_n hx hb dX6_isSpan_5 rfl (lv_at hl 2 rfl) ?_
    refine lv_icmp_gt (tgt := 21) hx hb dX6_isSpan_6 (by decide) (fun c2 => ?_) (fun c2 => ?_)
    · have h := e_t c2 h
      refine lv_iconst (v := 0) hx hb dX6_isSpan_21 (by decide) ?_
      obtain rfl := e_s h
      exact hret hP hS (show narrow .boolean (.int 0) = .int 0 from rfl) dX6_isSpan_22
    · have h := e_f c2 h
      refine lv_iload_n hx hb dX6_isSpan_9 rfl (lv_at hl 2 rfl) ?_
      refine lv_aload_n hx hb dX6_isSpan_10 rfl (lv_at hl 0 rfl) ?_
      refine va_get (D := D) (ci := 6) (v := .int many) (C := RX6) (T := TX6) (N := 42) hx hb hts iX6 hown hK hP 0 rfl rfl 5 (Nat.le_of_ble_eq_true rfl) f175 (fun _ h9 => h9) rfl dX6_isSpan_11 ?_
      refine lv_icmp_ge (tgt := 21) hx hb dX6_isSpan_14 (by decide) (fun c3 => ?_) (fun c3 => ?_)
      · have h := e_t c3 h
        refine lv_iconst (v := 0) hx hb dX6_isSpan_21 (by decide) ?_
        obtain rfl := e_s h
        exact hret hP hS (show narrow .boolean (.int 0) = .int 0 from rfl) dX6_isSpan_22
      · have h := e_f c3 h
        refine lv_iconst (v := 1) hx hb dX6_isSpan_17 (by decide) ?_
        refine lv_goto (tgt := 22) hx hb dX6_isSpan_18 (by decide) ?_
        obtain rfl := e_s h
        exact hret hP hS (show narrow .boolean (.int 1) = .int 1 from rfl) dX6_isSpan_22
set_option maxHeartbeats 4000000 in
set_option maxRecDepth 100000 in
theorem kX6_isValue (l : Launch) (D : va_G) (cA : Nat → ClassId)   (x0 : Int32) (q : Int32) (h : mX6_isValue  x0 = some q) : MI l yX6_isValue wsX6_isValue { frames := 0, cells := 0, slots := 0, locals := 0 } D cA .boolean [.int x0] [] [] q := by
  refine MI.of (cc := cX6_isValue) (maxL := 1) (by decide +kernel) rfl rfl rfl (Nat.le_of_ble_eq_true rfl) ?_
  intro p e s m args below meth c A ls Q hx hb hml hts hown hK hP hD hA hS hl hret
  have hl : lv_has ls 1 [(0, .int x0)] := hl
  unfold mX6_isValue at h
  refine lv_iload_n hx hb dX6_isValue_0 rfl (lv_at hl 0 rfl) ?_
  refine lv_if_lt (tgt := 15) hx hb dX6_isValue_1 (by decide) (fun c1 => ?_) (fun c1 => ?_)
  · have h := e_t c1 h
    refine lv_iconst (v := 0) hx hb dX6_isValue_15 (by decide) ?_
    obtain rfl := e_s h
    exact hret hP hS (show narrow .boolean (.int 0) = .int 0 from rfl) dX6_isValue_16
  · have h := e_f c1 h
    refine lv_iload_n hx hb dX6_isValue_4 rfl (lv_at hl 0 rfl) ?_
    refine lv_sipush (v := 1000) hx hb dX6_isValue_5 (by decide) ?_
    refine lv_icmp_ge (tgt := 15) hx hb dX6_isValue_8 (by decide) (fun c2 => ?_) (fun c2 => ?_)
    · have h := e_t c2 h
      refine lv_iconst (v := 0) hx hb dX6_isValue_15 (by decide) ?_
      obtain rfl := e_s h
      exact hret hP hS (show narrow .boolean (.int 0) = .int 0 from rfl) dX6_isValue_16
    · have h := e_f c2 h
      refine lv_iconst (v := 1) hx hb dX6_isValue_11 (by decide) ?_
      refine lv_goto (tgt := 16) hx hb dX6_isValue_12 (by decide) ?_
      obtain rfl := e_s h
      exact hret hP hS (show narrow .boolean (.int 1) = .int 1 from rfl) dX6_isValue_16
set_option maxHeartbeats 4000000 in
set_option maxRecDepth 100000 in
theorem kX6_blocks (l : Launch) (D : va_G) (cA : Nat → ClassId) (ad : Nat → Nat) (thrown : Int32) (tape : Nat → Int32) (taped : Int32) (value : Nat → Int32) (weight : Nat → Int32) (many : Int32) (block : Int32) (ties : Int32) (lines : Int32) (pastValue : Nat → Int32) (pastWeight : Nat → Int32) (pastMany : Nat → Int32) (undos : Int32) (fresh : Int32) (newValue : Nat → Int32) (newWeight : Nat → Int32) (newMany : Int32) (newBlock : Int32) (newTies : Int32) (newLines : Int32) (hasBlock : Int32) (hasTies : Int32) (size : Int32) (att : Int32) (place : Int32) (sort : Int32) (number : Int32) (fault : Int32) (faultPlace : Int32) (lastFault : Int32) (lastPlace : Int32) (toValue : Nat → Int32) (toWeight : Nat → Int32) (toMany : Int32) (often : Nat → Int32) (firstOf : Nat → Int32) (lastOf : Nat → Int32) (unlikes : Nat → Int32) (unlikeMany : Int32) (isCandidate : Nat → Int32) (modes : Nat → Int32) (fewest : Nat → Int32)  (q : Int32) (h : mX6_blocks many block  = some q) : MI l yX6_blocks wsX6_blocks { frames := 0, cells := 0, slots := 0, locals := 0 } D cA .int [.ref (ad 0)] (wX6 cA ad thrown tape taped value weight many block ties lines pastValue pastWeight pastMany undos fresh newValue newWeight newMany newBlock newTies newLines hasBlock hasTies size att place sort number fault faultPlace lastFault lastPlace toValue toWeight toMany often firstOf lastOf unlikes unlikeMany isCandidate modes fewest) (wX6 cA ad thrown tape taped value weight many block ties lines pastValue pastWeight pastMany undos fresh newValue newWeight newMany newBlock newTies newLines hasBlock hasTies size att place sort number fault faultPlace lastFault lastPlace toValue toWeight toMany often firstOf lastOf unlikes unlikeMany isCandidate modes fewest) q := by
  refine MI.of (cc := cX6_blocks) (maxL := 1) (by decide +kernel) rfl rfl rfl (Nat.le_of_ble_eq_true rfl) ?_
  intro p e s m args below meth c A ls Q hx hb hml hts hown hK hP hD hA hS hl hret
  have hl : lv_has ls 1 [(0, .ref (ad 0))] := hl
  have f175 := hts (.fieldLink RX6 175 "ModeDeskModel" "many" "I") (by decide +kernel)
  have f69 := hts (.fieldLink RX6 69 "ModeDeskModel" "block" "I") (by decide +kernel)
  have iX6 : ∀ w ∈ wsX60, w ∈ wsX6_blocks := by decide +kernel
  unfold mX6_blocks at h
  refine lv_aload_n hx hb dX6_blocks_0 rfl (lv_at hl 0 rfl) ?_
  refine va_get (D := D) (ci := 6) (v := .int many) (C := RX6) (T := TX6) (N := 42) hx hb hts iX6 hown hK hP 0 rfl rfl 5 (Nat.le_of_ble_eq_true rfl) f175 (fun _ h9 => h9) rfl dX6_blocks_1 ?_
  refine lv_aload_n hx hb dX6_blocks_4 rfl (lv_at hl 0 rfl) ?_
  refine va_get (D := D) (ci := 6) (v := .int block) (C := RX6) (T := TX6) (N := 42) hx hb hts iX6 hown hK hP 0 rfl rfl 6 (Nat.le_of_ble_eq_true rfl) f69 (fun _ h9 => h9) rfl dX6_blocks_5 ?_
  refine lv_iadd hx hb dX6_blocks_8 ?_
  refine lv_iconst (v := 1) hx hb dX6_blocks_9 (by decide) ?_
  refine lv_isub hx hb dX6_blocks_10 ?_
  refine lv_aload_n hx hb dX6_blocks_11 rfl (lv_at hl 0 rfl) ?_
  refine va_get (D := D) (ci := 6) (v := .int block) (C := RX6) (T := TX6) (N := 42) hx hb hts iX6 hown hK hP 0 rfl rfl 6 (Nat.le_of_ble_eq_true rfl) f69 (fun _ h9 => h9) rfl dX6_blocks_12 ?_
  obtain ⟨v1, ev1, nv1, h⟩ := e_dv h
  refine xa_idiv hx hb dX6_blocks_15 nv1 ev1 ?_
  obtain rfl := e_s h
  exact hret hP hS rfl dX6_blocks_16
set_option maxHeartbeats 4000000 in
set_option maxRecDepth 100000 in
theorem kX6_nextTo (l : Launch) (D : va_G) (cA : Nat → ClassId) (ad : Nat → Nat) (thrown : Int32) (tape : Nat → Int32) (taped : Int32) (value : Nat → Int32) (weight : Nat → Int32) (many : Int32) (block : Int32) (ties : Int32) (lines : Int32) (pastValue : Nat → Int32) (pastWeight : Nat → Int32) (pastMany : Nat → Int32) (undos : Int32) (fresh : Int32) (newValue : Nat → Int32) (newWeight : Nat → Int32) (newMany : Int32) (newBlock : Int32) (newTies : Int32) (newLines : Int32) (hasBlock : Int32) (hasTies : Int32) (size : Int32) (att : Int32) (place : Int32) (sort : Int32) (number : Int32) (fault : Int32) (faultPlace : Int32) (lastFault : Int32) (lastPlace : Int32) (toValue : Nat → Int32) (toWeight : Nat → Int32) (toMany : Int32) (often : Nat → Int32) (firstOf : Nat → Int32) (lastOf : Nat → Int32) (unlikes : Nat → Int32) (unlikeMany : Int32) (isCandidate : Nat → Int32) (modes : Nat → Int32) (fewest : Nat → Int32) (x1 : Int32) (x2 : Int32) (q : Int32) (h : mX6_nextTo value many x1 x2 = some q) : MI l yX6_nextTo wsX6_nextTo { frames := 1, cells := 0, slots := 0, locals := 21 } D cA .int [.ref (ad 0), .int x1, .int x2] (wX6 cA ad thrown tape taped value weight many block ties lines pastValue pastWeight pastMany undos fresh newValue newWeight newMany newBlock newTies newLines hasBlock hasTies size att place sort number fault faultPlace lastFault lastPlace toValue toWeight toMany often firstOf lastOf unlikes unlikeMany isCandidate modes fewest) (wX6 cA ad thrown tape taped value weight many block ties lines pastValue pastWeight pastMany undos fresh newValue newWeight newMany newBlock newTies newLines hasBlock hasTies size att place sort number fault faultPlace lastFault lastPlace toValue toWeight toMany often firstOf lastOf unlikes unlikeMany isCandidate modes fewest) q := by
  refine MI.of (cc := cX6_nextTo) (maxL := 4) (by decide +kernel) rfl rfl rfl (Nat.le_of_ble_eq_true rfl) ?_
  intro p e s m args below meth c A ls Q hx hb hml hts hown hK hP hD hA hS hl hret
  have hl : lv_has ls 4 [(0, .ref (ad 0)), (1, .int x1), (2, .int x2)] := hl
  have f13 := hts (.fieldLink RX6 13 "ModeDeskModel" "value" "[I") (by decide +kernel)
  have iX6 : ∀ w ∈ wsX60, w ∈ wsX6_nextTo := by decide +kernel
  unfold mX6_nextTo at h
  refine lv_iload_n hx hb dX6_nextTo_0 rfl (lv_at hl 1 rfl) ?_
  refine lv_iload_n hx hb dX6_nextTo_1 rfl (lv_at hl 2 rfl) ?_
  refine lv_iadd hx hb dX6_nextTo_2 ?_
  refine lv_istore_n (lv' := [(3, .int (x1 + x2)), (0, .ref (ad 0)), (1, .int x1), (2, .int x2)]) hx hb dX6_nextTo_3 rfl hl (by decide) rfl (fun ls hl => ?_)
  have hL4 : ∀ (n : Nat) (x1 : Int32) (x2 : Int32) (x3 : Int32) (thrown : Int32) (tape : Nat → Int32) (taped : Int32) (value : Nat → Int32) (weight : Nat → Int32) (many : Int32) (block : Int32) (ties : Int32) (lines : Int32) (pastValue : Nat → Int32) (pastWeight : Nat → Int32) (pastMany : Nat → Int32) (undos : Int32) (fresh : Int32) (newValue : Nat → Int32) (newWeight : Nat → Int32) (newMany : Int32) (newBlock : Int32) (newTies : Int32) (newLines : Int32) (hasBlock : Int32) (hasTies : Int32) (size : Int32) (att : Int32) (place : Int32) (sort : Int32) (number : Int32) (fault : Int32) (faultPlace : Int32) (lastFault : Int32) (lastPlace : Int32) (toValue : Nat → Int32) (toWeight : Nat → Int32) (toMany : Int32) (often : Nat → Int32) (firstOf : Nat → Int32) (lastOf : Nat → Int32) (unlikes : Nat → Int32) (unlikeMany : Int32) (isCandidate : Nat → Int32) (modes : Nat → Int32) (fewest : Nat → Int32) (z1 : Int32) (ls : Array Slot) (H : Heap) (locs : List Loc), lv_has ls 4 [(0, .ref (ad 0)), (1, .int x1), (2, .int x2), (3, .int x3)] → va_P D vwCl (wX6 cA ad thrown tape taped value weight many block ties lines pastValue pastWeight pastMany undos fresh newValue newWeight newMany newBlock newTies newLines hasBlock hasTies size att place sort number fault faultPlace lastFault lastPlace toValue toWeight toMany often firstOf lastOf unlikes unlikeMany isCandidate modes fewest) H → va_D A (wX6 cA ad thrown tape taped value weight many block ties lines pastValue pastWeight pastMany undos fresh newValue newWeight newMany newBlock newTies newLines hasBlock hasTies size att place sort number fault faultPlace lastFault lastPlace toValue toWeight toMany often firstOf lastOf unlikes unlikeMany isCandidate modes fewest) → va_S A s.heap H locs → mX6_nextTo_L4 value many x1 x2 n x3 = some z1 → (∀ (ls : Array Slot) (H : Heap) (locs : List Loc), lv_has ls 4 [(0, .ref (ad 0)), (3, .int z1)] → va_P D vwCl (wX6 cA ad thrown tape taped value weight many block ties lines pastValue pastWeight pastMany undos fresh newValue newWeight newMany newBlock newTies newLines hasBlock hasTies size att place sort number fault faultPlace lastFault lastPlace toValue toWeight toMany often firstOf lastOf unlikes unlikeMany isCandidate modes fewest) H → va_D A (wX6 cA ad thrown tape taped value weight many block ties lines pastValue pastWeight pastMany undos fresh newValue newWeight newMany newBlock newTies newLines hasBlock hasTies size att place sort number fault faultPlace lastFault lastPlace toValue toWeight toMany often firstOf lastOf unlikes unlikeMany isCandidate modes fewest) → va_S A s.heap H locs → W p l e (headSpec wsX6_nextTo { frames := 1, cells := 0, slots := 0, locals := 21 }).room s m args below meth c H locs 0 0 Q (F0 m 34 ls [])) → W p l e (headSpec wsX6_nextTo { frames := 1, cells := 0, slots := 0, locals := 21 }).room s m args below meth c H locs 0 0 Q (F0 m 4 ls []) := by
    intro n
    induction n with
    | zero => intro x1 x2 x3 thrown tape taped value weight many block ties lines pastValue pastWeight pastMany undos fresh newValue newWeight newMany newBlock newTies newLines hasBlock hasTies size att place sort number fault faultPlace lastFault lastPlace toValue toWeight toMany often firstOf lastOf unlikes unlikeMany isCandidate modes fewest z1 ls H locs hl hP hD hS h hk4; exact e_n h
    | succ n ih4 =>
      intro x1 x2 x3 thrown tape taped value weight many block ties lines pastValue pastWeight pastMany undos fresh newValue newWeight newMany newBlock newTies newLines hasBlock hasTies size att place sort number fault faultPlace lastFault lastPlace toValue toWeight toMany often firstOf lastOf unlikes unlikeMany isCandidate modes fewest z1 ls H locs hl hP hD hS h hk4
      rw [mX6_nextTo_L4.eq_2] at h
      refine lv_aload_n hx hb dX6_nextTo_4 rfl (lv_at hl 0 rfl) ?_
      refine lv_iload_n hx hb dX6_nextTo_5 rfl (lv_at hl 3 rfl) ?_
      obtain ⟨q2, eq2, h⟩ := e_b h
      refine xv_i0 (As := [.int x3]) (rest := []) (ci := 6) (b := ad 0) ⟨hx, hb, hml, hown, hts⟩ hl.1 (kX6_isPlace l D cA ad thrown tape taped value weight many block ties lines pastValue pastWeight pastMany undos fresh newValue newWeight newMany newBlock newTies newLines hasBlock hasTies size att place sort number fault faultPlace lastFault lastPlace toValue toWeight toMany often firstOf lastOf unlikes unlikeMany isCandidate modes fewest x3  _ eq2) (cwV 1 hts gX6_nextTo_X6_isPlace rfl rfl rfl (by decide +kernel) ⟨Nat.le_of_ble_eq_true rfl, Nat.le_of_ble_eq_true rfl⟩) rfl hK hP hD hS hA 0 rfl rfl rfl rfl (Nat.le_of_ble_eq_true rfl) dX6_nextTo_6 ⟨Nat.zero_le _, Nat.zero_le _⟩ (fun H locs hP hD hS hnq2 => ?_)
      have hP : va_P D vwCl (wX6 cA ad thrown tape taped value weight many block ties lines pastValue pastWeight pastMany undos fresh newValue newWeight newMany newBlock newTies newLines hasBlock hasTies size att place sort number fault faultPlace lastFault lastPlace toValue toWeight toMany often firstOf lastOf unlikes unlikeMany isCandidate modes fewest) H := hP
      have hD : va_D A (wX6 cA ad thrown tape taped value weight many block ties lines pastValue pastWeight pastMany undos fresh newValue newWeight newMany newBlock newTies newLines hasBlock hasTies size att place sort number fault faultPlace lastFault lastPlace toValue toWeight toMany often firstOf lastOf unlikes unlikeMany isCandidate modes fewest) := hD
      refine lv_if_eq (tgt := 34) hx hb dX6_nextTo_9 (by decide) (fun c3 => ?_) (fun c3 => ?_)
      · have h := e_t c3 h
        obtain rfl := e_s h
        exact hk4 _ _ _ (lv_sub hl [0, 3] rfl) hP hD hS
      · have h := e_f c3 h
        refine lv_aload_n hx hb dX6_nextTo_12 rfl (lv_at hl 0 rfl) ?_
        refine va_get (D := D) (ci := 6) (v := .ref (ad 2)) (C := RX6) (T := TX6) (N := 42) hx hb hts iX6 hown hK hP 0 rfl rfl 3 (Nat.le_of_ble_eq_true rfl) f13 (fun _ h9 => h9) rfl dX6_nextTo_13 ?_
        refine lv_iload_n hx hb dX6_nextTo_16 rfl (lv_at hl 3 rfl) ?_
        obtain ⟨v4, ev4, nv4, h⟩ := e_rd h
        refine xa_iald hx hb hK hP 2 rfl nv4 ev4 dX6_nextTo_17 ?_
        refine lv_aload_n hx hb dX6_nextTo_18 rfl (lv_at hl 0 rfl) ?_
        refine va_get (D := D) (ci := 6) (v := .ref (ad 2)) (C := RX6) (T := TX6) (N := 42) hx hb hts iX6 hown hK hP 0 rfl rfl 3 (Nat.le_of_ble_eq_true rfl) f13 (fun _ h9 => h9) rfl dX6_nextTo_19 ?_
        refine lv_iload_n hx hb dX6_nextTo_22 rfl (lv_at hl 1 rfl) ?_
        obtain ⟨v5, ev5, nv5, h⟩ := e_rd h
        refine xa_iald hx hb hK hP 2 rfl nv5 ev5 dX6_nextTo_23 ?_
        refine lv_icmp_eq (tgt := 34) hx hb dX6_nextTo_24 (by decide) (fun c6 => ?_) (fun c6 => ?_)
        · have h := e_t c6 h
          obtain rfl := e_s h
          exact hk4 _ _ _ (lv_sub hl [0, 3] rfl) hP hD hS
        · have h := e_f c6 h
          refine lv_iload_n hx hb dX6_nextTo_27 rfl (lv_at hl 3 rfl) ?_
          refine lv_iload_n hx hb dX6_nextTo_28 rfl (lv_at hl 2 rfl) ?_
          refine lv_iadd hx hb dX6_nextTo_29 ?_
          refine lv_istore_n (lv' := [(3, .int (x3 + x2)), (0, .ref (ad 0)), (1, .int x1), (2, .int x2)]) hx hb dX6_nextTo_30 rfl hl (by decide) rfl (fun ls hl => ?_)
          refine lv_goto (tgt := 4) hx hb dX6_nextTo_31 (by decide) ?_
          exact ih4 x1 x2 (x3 + x2) thrown tape taped value weight many block ties lines pastValue pastWeight pastMany undos fresh newValue newWeight newMany newBlock newTies newLines hasBlock hasTies size att place sort number fault faultPlace lastFault lastPlace toValue toWeight toMany often firstOf lastOf unlikes unlikeMany isCandidate modes fewest z1 _ _ _ (lv_sub hl [1, 2, 3, 0] rfl) hP hD hS h hk4
  obtain ⟨z7, ez7, h⟩ := e_b h
  refine hL4 FU x1 x2 (x1 + x2) thrown tape taped value weight many block ties lines pastValue pastWeight pastMany undos fresh newValue newWeight newMany newBlock newTies newLines hasBlock hasTies size att place sort number fault faultPlace lastFault lastPlace toValue toWeight toMany often firstOf lastOf unlikes unlikeMany isCandidate modes fewest z7 _ _ _ (lv_sub hl [1, 2, 3, 0] rfl) hP hD hS ez7 (fun ls H locs hl hP hD hS => ?_)
  refine lv_aload_n hx hb dX6_nextTo_34 rfl (lv_at hl 0 rfl) ?_
  refine lv_iload_n hx hb dX6_nextTo_35 rfl (lv_at hl 1 rfl) ?_
  obtain ⟨q8, eq8, h⟩ := e_b h
  refine xv_i0 (As := [.int z7]) (rest := []) (ci := 6) (b := ad 0) ⟨hx, hb, hml, hown, hts⟩ hl.1 (kX6_isPlace l D cA ad thrown tape taped value weight many block ties lines pastValue pastWeight pastMany undos fresh newValue newWeight newMany newBlock newTies newLines hasBlock hasTies size att place sort number fault faultPlace lastFault lastPlace toValue toWeight toMany often firstOf lastOf unlikes unlikeMany isCandidate modes fewest z7  _ eq8) (cwV 1 hts gX6_nextTo_X6_isPlace rfl rfl rfl (by decide +kernel) ⟨Nat.le_of_ble_eq_true rfl, Nat.le_of_ble_eq_true rfl⟩) rfl hK hP hD hS hA 0 rfl rfl rfl rfl (Nat.le_of_ble_eq_true rfl) dX6_nextTo_36 ⟨Nat.zero_le _, Nat.zero_le _⟩ (fun H locs hP hD hS hnq8 => ?_)
  have hP : va_P D vwCl (wX6 cA ad thrown tape taped value weight many block ties lines pastValue pastWeight pastMany undos fresh newValue newWeight newMany newBlock newTies newLines hasBlock hasTies size att place sort number fault faultPlace lastFault lastPlace toValue toWeight toMany often firstOf lastOf unlikes unlikeMany isCandidate modes fewest) H := hP
  have hD : va_D A (wX6 cA ad thrown tape taped value weight many block ties lines pastValue pastWeight pastMany undos fresh newValue newWeight newMany newBlock newTies newLines hasBlock hasTies size att place sort number fault faultPlace lastFault lastPlace toValue toWeight toMany often firstOf lastOf unlikes unlikeMany isCandidate modes fewest) := hD
  refine lv_if_eq (tgt := 46) hx hb dX6_nextTo_39 (by decide) (fun c9 => ?_) (fun c9 => ?_)
  · have h := e_t c9 h
    refine lv_bipush (v := (-2)) hx hb dX6_nextTo_46 (by decide) ?_
    obtain rfl := e_s h
    exact hret hP hS rfl dX6_nextTo_48
  · have h := e_f c9 h
    refine lv_iload_n hx hb dX6_nextTo_42 rfl (lv_at hl 1 rfl) ?_
    refine lv_goto (tgt := 48) hx hb dX6_nextTo_43 (by decide) ?_
    obtain rfl := e_s h
    exact hret hP hS rfl dX6_nextTo_48
set_option maxHeartbeats 4000000 in
set_option maxRecDepth 100000 in
theorem kX6_timesIn (l : Launch) (D : va_G) (cA : Nat → ClassId) (ad : Nat → Nat) (thrown : Int32) (tape : Nat → Int32) (taped : Int32) (value : Nat → Int32) (weight : Nat → Int32) (many : Int32) (block : Int32) (ties : Int32) (lines : Int32) (pastValue : Nat → Int32) (pastWeight : Nat → Int32) (pastMany : Nat → Int32) (undos : Int32) (fresh : Int32) (newValue : Nat → Int32) (newWeight : Nat → Int32) (newMany : Int32) (newBlock : Int32) (newTies : Int32) (newLines : Int32) (hasBlock : Int32) (hasTies : Int32) (size : Int32) (att : Int32) (place : Int32) (sort : Int32) (number : Int32) (fault : Int32) (faultPlace : Int32) (lastFault : Int32) (lastPlace : Int32) (toValue : Nat → Int32) (toWeight : Nat → Int32) (toMany : Int32) (often : Nat → Int32) (firstOf : Nat → Int32) (lastOf : Nat → Int32) (unlikes : Nat → Int32) (unlikeMany : Int32) (isCandidate : Nat → Int32) (modes : Nat → Int32) (fewest : Nat → Int32) (x1 : Int32) (x2 : Int32) (x3 : Int32) (q : Int32) (h : mX6_timesIn value x1 x2 x3 = some q) : MI l yX6_timesIn wsX6_timesIn { frames := 0, cells := 0, slots := 0, locals := 0 } D cA .int [.ref (ad 0), .int x1, .int x2, .int x3] (wX6 cA ad thrown tape taped value weight many block ties lines pastValue pastWeight pastMany undos fresh newValue newWeight newMany newBlock newTies newLines hasBlock hasTies size att place sort number fault faultPlace lastFault lastPlace toValue toWeight toMany often firstOf lastOf unlikes unlikeMany isCandidate modes fewest) (wX6 cA ad thrown tape taped value weight many block ties lines pastValue pastWeight pastMany undos fresh newValue newWeight newMany newBlock newTies newLines hasBlock hasTies size att place sort number fault faultPlace lastFault lastPlace toValue toWeight toMany often firstOf lastOf unlikes unlikeMany isCandidate modes fewest) q := by
  refine MI.of (cc := cX6_timesIn) (maxL := 6) (by decide +kernel) rfl rfl rfl (Nat.le_of_ble_eq_true rfl) ?_
  intro p e s m args below meth c A ls Q hx hb hml hts hown hK hP hD hA hS hl hret
  have hl : lv_has ls 6 [(0, .ref (ad 0)), (1, .int x1), (2, .int x2), (3, .int x3)] := hl
  have f13 := hts (.fieldLink RX6 13 "ModeDeskModel" "value" "[I") (by decide +kernel)
  have iX6 : ∀ w ∈ wsX60, w ∈ wsX6_timesIn := by decide +kernel
  unfold mX6_timesIn at h
  refine lv_iconst (v := 0) hx hb dX6_timesIn_0 (by decide) ?_
  refine lv_istore (lv' := [(4, .int 0), (0, .ref (ad 0)), (1, .int x1), (2, .int x2), (3, .int x3)]) hx hb dX6_timesIn_1 hl (by decide) rfl (fun ls hl => ?_)
  refine lv_iload_n hx hb dX6_timesIn_3 rfl (lv_at hl 2 rfl) ?_
  refine lv_istore (lv' := [(5, .int x1), (4, .int 0), (0, .ref (ad 0)), (1, .int x1), (2, .int x2), (3, .int x3)]) hx hb dX6_timesIn_4 hl (by decide) rfl (fun ls hl => ?_)
  have hL6 : ∀ (n : Nat) (x2 : Int32) (x3 : Int32) (x4 : Int32) (x5 : Int32) (thrown : Int32) (tape : Nat → Int32) (taped : Int32) (value : Nat → Int32) (weight : Nat → Int32) (many : Int32) (block : Int32) (ties : Int32) (lines : Int32) (pastValue : Nat → Int32) (pastWeight : Nat → Int32) (pastMany : Nat → Int32) (undos : Int32) (fresh : Int32) (newValue : Nat → Int32) (newWeight : Nat → Int32) (newMany : Int32) (newBlock : Int32) (newTies : Int32) (newLines : Int32) (hasBlock : Int32) (hasTies : Int32) (size : Int32) (att : Int32) (place : Int32) (sort : Int32) (number : Int32) (fault : Int32) (faultPlace : Int32) (lastFault : Int32) (lastPlace : Int32) (toValue : Nat → Int32) (toWeight : Nat → Int32) (toMany : Int32) (often : Nat → Int32) (firstOf : Nat → Int32) (lastOf : Nat → Int32) (unlikes : Nat → Int32) (unlikeMany : Int32) (isCandidate : Nat → Int32) (modes : Nat → Int32) (fewest : Nat → Int32) (z1 : Int32) (ls : Array Slot) (H : Heap) (locs : List Loc), lv_has ls 6 [(0, .ref (ad 0)), (2, .int x2), (3, .int x3), (4, .int x4), (5, .int x5)] → va_P D vwCl (wX6 cA ad thrown tape taped value weight many block ties lines pastValue pastWeight pastMany undos fresh newValue newWeight newMany newBlock newTies newLines hasBlock hasTies size att place sort number fault faultPlace lastFault lastPlace toValue toWeight toMany often firstOf lastOf unlikes unlikeMany isCandidate modes fewest) H → va_D A (wX6 cA ad thrown tape taped value weight many block ties lines pastValue pastWeight pastMany undos fresh newValue newWeight newMany newBlock newTies newLines hasBlock hasTies size att place sort number fault faultPlace lastFault lastPlace toValue toWeight toMany often firstOf lastOf unlikes unlikeMany isCandidate modes fewest) → va_S A s.heap H locs → mX6_timesIn_L6 value x2 x3 n x4 x5 = some z1 → (∀ (ls : Array Slot) (H : Heap) (locs : List Loc), lv_has ls 6 [(4, .int z1)] → va_P D vwCl (wX6 cA ad thrown tape taped value weight many block ties lines pastValue pastWeight pastMany undos fresh newValue newWeight newMany newBlock newTies newLines hasBlock hasTies size att place sort number fault faultPlace lastFault lastPlace toValue toWeight toMany often firstOf lastOf unlikes unlikeMany isCandidate modes fewest) H → va_D A (wX6 cA ad thrown tape taped value weight many block ties lines pastValue pastWeight pastMany undos fresh newValue newWeight newMany newBlock newTies newLines hasBlock hasTies size att place sort number fault faultPlace lastFault lastPlace toValue toWeight toMany often firstOf lastOf unlikes unlikeMany isCandidate modes fewest) → va_S A s.heap H locs → W p l e (headSpec wsX6_timesIn { frames := 0, cells := 0, slots := 0, locals := 0 }).room s m args below meth c H locs 0 0 Q (F0 m 39 ls [])) → W p l e (headSpec wsX6_timesIn { frames := 0, cells := 0, slots := 0, locals := 0 }).room s m args below meth c H locs 0 0 Q (F0 m 6 ls []) := by
    intro n
    induction n with
    | zero => intro x2 x3 x4 x5 thrown tape taped value weight many block ties lines pastValue pastWeight pastMany undos fresh newValue newWeight newMany newBlock newTies newLines hasBlock hasTies size att place sort number fault faultPlace lastFault lastPlace toValue toWeight toMany often firstOf lastOf unlikes unlikeMany isCandidate modes fewest z1 ls H locs hl hP hD hS h hk6; exact e_n h
    | succ n ih6 =>
      intro x2 x3 x4 x5 thrown tape taped value weight many block ties lines pastValue pastWeight pastMany undos fresh newValue newWeight newMany newBlock newTies newLines hasBlock hasTies size att place sort number fault faultPlace lastFault lastPlace toValue toWeight toMany often firstOf lastOf unlikes unlikeMany isCandidate modes fewest z1 ls H locs hl hP hD hS h hk6
      rw [mX6_timesIn_L6.eq_2] at h
      refine lv_iload hx hb dX6_timesIn_6 (lv_at hl 4 rfl) ?_
      refine lv_iload_n hx hb dX6_timesIn_8 rfl (lv_at hl 1 rfl) ?_
      refine lv_icmp_gt (tgt := 39) hx hb dX6_timesIn_9 (by decide) (fun c2 => ?_) (fun c2 => ?_)
      · have h := e_t c2 h
        obtain rfl := e_s h
        exact hk6 _ _ _ (lv_sub hl [3] rfl) hP hD hS
      · have h := e_f c2 h
        refine lv_iload hx hb dX6_timesIn_12 (lv_at hl 3 rfl) ?_
        refine lv_aload_n hx hb dX6_timesIn_14 rfl (lv_at hl 0 rfl) ?_
        refine va_get (D := D) (ci := 6) (v := .ref (ad 2)) (C := RX6) (T := TX6) (N := 42) hx hb hts iX6 hown hK hP 0 rfl rfl 3 (Nat.le_of_ble_eq_true rfl) f13 (fun _ h9 => h9) rfl dX6_timesIn_15 ?_
        refine lv_iload hx hb dX6_timesIn_18 (lv_at hl 4 rfl) ?_
        obtain ⟨v3, ev3, nv3, h⟩ := e_rd h
        refine xa_iald hx hb hK hP 2 rfl nv3 ev3 dX6_timesIn_20 ?_
        refine lv_iload_n hx hb dX6_timesIn_21 rfl (lv_at hl 2 rfl) ?_
        refine lv_icmp_ne (tgt := 29) hx hb dX6_timesIn_22 (by decide) (fun c4 => ?_) (fun c4 => ?_)
        · have h := e_t c4 h
          refine lv_iconst (v := 0) hx hb dX6_timesIn_29 (by decide) ?_
          refine lv_iadd hx hb dX6_timesIn_30 ?_
          refine lv_istore (lv' := [(4, .int (x4 + 0)), (0, .ref (ad 0)), (2, .int x2), (3, .int x3), (5, .int x5)]) hx hb dX6_timesIn_31 hl (by decide) rfl (fun ls hl => ?_)
          refine lv_iinc (v := (x5 + 1)) (lv' := [(5, .int (x5 + 1)), (4, .int (x4 + 0)), (0, .ref (ad 0)), (2, .int x2), (3, .int x3)]) hx hb dX6_timesIn_33 hl (k := 4) rfl rfl (by decide) rfl (fun ls hl => ?_)
          refine lv_goto (tgt := 6) hx hb dX6_timesIn_36 (by decide) ?_
          exact ih6 x2 x3 (x4 + 0) (x5 + 1) thrown tape taped value weight many block ties lines pastValue pastWeight pastMany undos fresh newValue newWeight newMany newBlock newTies newLines hasBlock hasTies size att place sort number fault faultPlace lastFault lastPlace toValue toWeight toMany often firstOf lastOf unlikes unlikeMany isCandidate modes fewest z1 _ _ _ (lv_sub hl [2, 3, 4, 1, 0] rfl) hP hD hS h hk6
        · have h := e_f (not_not_intro c4) h
          refine lv_iconst (v := 1) hx hb dX6_timesIn_25 (by decide) ?_
          refine lv_goto (tgt := 30) hx hb dX6_timesIn_26 (by decide) ?_
          refine lv_iadd hx hb dX6_timesIn_30 ?_
          refine lv_istore (lv' := [(4, .int (x4 + 1)), (0, .ref (ad 0)), (2, .int x2), (3, .int x3), (5, .int x5)]) hx hb dX6_timesIn_31 hl (by decide) rfl (fun ls hl => ?_)
          refine lv_iinc (v := (x5 + 1)) (lv' := [(5, .int (x5 + 1)), (4, .int (x4 + 1)), (0, .ref (ad 0)), (2, .int x2), (3, .int x3)]) hx hb dX6_timesIn_33 hl (k := 4) rfl rfl (by decide) rfl (fun ls hl => ?_)
          refine lv_goto (tgt := 6) hx hb dX6_timesIn_36 (by decide) ?_
          exact ih6 x2 x3 (x4 + 1) (x5 + 1) thrown tape taped value weight many block ties lines pastValue pastWeight pastMany undos fresh newValue newWeight newMany newBlock newTies newLines hasBlock hasTies size att place sort number fault faultPlace lastFault lastPlace toValue toWeight toMany often firstOf lastOf unlikes unlikeMany isCandidate modes fewest z1 _ _ _ (lv_sub hl [2, 3, 4, 1, 0] rfl) hP hD hS h hk6
  obtain ⟨z5, ez5, h⟩ := e_b h
  refine hL6 FU x2 x3 0 x1 thrown tape taped value weight many block ties lines pastValue pastWeight pastMany undos fresh newValue newWeight newMany newBlock newTies newLines hasBlock hasTies size att place sort number fault faultPlace lastFault lastPlace toValue toWeight toMany often firstOf lastOf unlikes unlikeMany isCandidate modes fewest z5 _ _ _ (lv_sub hl [2, 4, 5, 1, 0] rfl) hP hD hS ez5 (fun ls H locs hl hP hD hS => ?_)
  refine lv_iload hx hb dX6_timesIn_39 (lv_at hl 0 rfl) ?_
  obtain rfl := e_s h
  exact hret hP hS rfl dX6_timesIn_41
set_option maxHeartbeats 4000000 in
set_option maxRecDepth 100000 in
theorem kX6_place (l : Launch) (D : va_G) (cA : Nat → ClassId) (ad : Nat → Nat) (thrown : Int32) (tape : Nat → Int32) (taped : Int32) (value : Nat → Int32) (weight : Nat → Int32) (many : Int32) (block : Int32) (ties : Int32) (lines : Int32) (pastValue : Nat → Int32) (pastWeight : Nat → Int32) (pastMany : Nat → Int32) (undos : Int32) (fresh : Int32) (newValue : Nat → Int32) (newWeight : Nat → Int32) (newMany : Int32) (newBlock : Int32) (newTies : Int32) (newLines : Int32) (hasBlock : Int32) (hasTies : Int32) (size : Int32) (att : Int32) (place : Int32) (sort : Int32) (number : Int32) (fault : Int32) (faultPlace : Int32) (lastFault : Int32) (lastPlace : Int32) (toValue : Nat → Int32) (toWeight : Nat → Int32) (toMany : Int32) (often : Nat → Int32) (firstOf : Nat → Int32) (lastOf : Nat → Int32) (unlikes : Nat → Int32) (unlikeMany : Int32) (isCandidate : Nat → Int32) (modes : Nat → Int32) (fewest : Nat → Int32) (x1 : Int32) (x2 : Int32) (q : Int32 × Int32) (h : mX6_place thrown value weight many block x1 x2 = some q) : MI l yX6_place wsX6_place { frames := 2, cells := 0, slots := 0, locals := 44 } D cA .int [.ref (ad 0), .int x1, .int x2] (wX6 cA ad thrown tape taped value weight many block ties lines pastValue pastWeight pastMany undos fresh newValue newWeight newMany newBlock newTies newLines hasBlock hasTies size att place sort number fault faultPlace lastFault lastPlace toValue toWeight toMany often firstOf lastOf unlikes unlikeMany isCandidate modes fewest) (wX6 cA ad q.2 tape taped value weight many block ties lines pastValue pastWeight pastMany undos fresh newValue newWeight newMany newBlock newTies newLines hasBlock hasTies size att place sort number fault faultPlace lastFault lastPlace toValue toWeight toMany often firstOf lastOf unlikes unlikeMany isCandidate modes fewest) q.1 := by
  refine MI.of (cc := cX6_place) (maxL := 3) (by decide +kernel) rfl rfl rfl (Nat.le_of_ble_eq_true rfl) ?_
  intro p e s m args below meth c A ls Q hx hb hml hts hown hK hP hD hA hS hl hret
  have hl : lv_has ls 3 [(0, .ref (ad 0)), (1, .int x1), (2, .int x2)] := hl
  have f13 := hts (.fieldLink RX6 13 "ModeDeskModel" "value" "[I") (by decide +kernel)
  have f16 := hts (.fieldLink RX6 16 "ModeDeskModel" "weight" "[I") (by decide +kernel)
  have f69 := hts (.fieldLink RX6 69 "ModeDeskModel" "block" "I") (by decide +kernel)
  have f72 := hts (.fieldLink RX6 72 "ModeDeskModel" "thrown" "I") (by decide +kernel)
  have iX6 : ∀ w ∈ wsX60, w ∈ wsX6_place := by decide +kernel
  unfold mX6_place at h
  refine lv_aload_n hx hb dX6_place_0 rfl (lv_at hl 0 rfl) ?_
  refine lv_iconst (v := 0) hx hb dX6_place_1 (by decide) ?_
  refine va_put (D := D) (ci := 6) (v := .int 0) (ty := .int) (C := RX6) (T := TX6) (N := 42) hx hb hts iX6 tyX6 tyX6_ok nmX6 hown hK hP hD hS 0 rfl rfl 0 (Nat.le_of_ble_eq_true rfl) f72 (fun _ h9 => h9) rfl (tyX6_ok 0 (Nat.le_of_ble_eq_true rfl)) rfl rfl (Nat.le_of_ble_eq_true rfl) dX6_place_2 (fun H locs hP hD hS => ?_)
  have hP : va_P D vwCl (wX6 cA ad 0 tape taped value weight many block ties lines pastValue pastWeight pastMany undos fresh newValue newWeight newMany newBlock newTies newLines hasBlock hasTies size att place sort number fault faultPlace lastFault lastPlace toValue toWeight toMany often firstOf lastOf unlikes unlikeMany isCandidate modes fewest) H := hP
  have hD : va_D A (wX6 cA ad 0 tape taped value weight many block ties lines pastValue pastWeight pastMany undos fresh newValue newWeight newMany newBlock newTies newLines hasBlock hasTies size att place sort number fault faultPlace lastFault lastPlace toValue toWeight toMany often firstOf lastOf unlikes unlikeMany isCandidate modes fewest) := hD
  refine lv_aload_n hx hb dX6_place_5 rfl (lv_at hl 0 rfl) ?_
  refine lv_iload_n hx hb dX6_place_6 rfl (lv_at hl 1 rfl) ?_
  obtain ⟨q1, eq1, h⟩ := e_b h
  refine xv_i0 (As := [.int x1]) (rest := []) (ci := 6) (b := ad 0) ⟨hx, hb, hml, hown, hts⟩ hl.1 (kX6_isPlace l D cA ad 0 tape taped value weight many block ties lines pastValue pastWeight pastMany undos fresh newValue newWeight newMany newBlock newTies newLines hasBlock hasTies size att place sort number fault faultPlace lastFault lastPlace toValue toWeight toMany often firstOf lastOf unlikes unlikeMany isCandidate modes fewest x1  _ eq1) (cwV 1 hts gX6_place_X6_isPlace rfl rfl rfl (by decide +kernel) ⟨Nat.le_of_ble_eq_true rfl, Nat.le_of_ble_eq_true rfl⟩) rfl hK hP hD hS hA 0 rfl rfl rfl rfl (Nat.le_of_ble_eq_true rfl) dX6_place_7 ⟨Nat.zero_le _, Nat.zero_le _⟩ (fun H locs hP hD hS hnq1 => ?_)
  have hP : va_P D vwCl (wX6 cA ad 0 tape taped value weight many block ties lines pastValue pastWeight pastMany undos fresh newValue newWeight newMany newBlock newTies newLines hasBlock hasTies size att place sort number fault faultPlace lastFault lastPlace toValue toWeight toMany often firstOf lastOf unlikes unlikeMany isCandidate modes fewest) H := hP
  have hD : va_D A (wX6 cA ad 0 tape taped value weight many block ties lines pastValue pastWeight pastMany undos fresh newValue newWeight newMany newBlock newTies newLines hasBlock hasTies size att place sort number fault faultPlace lastFault lastPlace toValue toWeight toMany often firstOf lastOf unlikes unlikeMany isCandidate modes fewest) := hD
  refine lv_if_ne (tgt := 20) hx hb dX6_place_10 (by decide) (fun c2 => ?_) (fun c2 => ?_)
  · have h := e_t c2 h
    refine lv_iload_n hx hb dX6_place_20 rfl (lv_at hl 2 rfl) ?_
    by_cases c4 : x2 = 0
    · have h := e_t c4 h
      refine lv_tableIn (off := 39) (tgt := 60) hx hb dX6_place_21 (by rw [c4]; decide) (by rw [c4]; decide) (by rw [c4]; rfl) (by decide) ?_
      refine lv_aload_n hx hb dX6_place_60 rfl (lv_at hl 0 rfl) ?_
      refine va_get (D := D) (ci := 6) (v := .ref (ad 2)) (C := RX6) (T := TX6) (N := 42) hx hb hts iX6 hown hK hP 0 rfl rfl 3 (Nat.le_of_ble_eq_true rfl) f13 (fun _ h9 => h9) rfl dX6_place_61 ?_
      refine lv_iload_n hx hb dX6_place_64 rfl (lv_at hl 1 rfl) ?_
      obtain ⟨v3, ev3, nv3, h⟩ := e_rd h
      refine xa_iald hx hb hK hP 2 rfl nv3 ev3 dX6_place_65 ?_
      obtain rfl := e_s h
      exact hret hP hS rfl dX6_place_66
    have h := e_f c4 h
    by_cases c6 : x2 = 1
    · have h := e_t c6 h
      refine lv_tableIn (off := 46) (tgt := 67) hx hb dX6_place_21 (by rw [c6]; decide) (by rw [c6]; decide) (by rw [c6]; rfl) (by decide) ?_
      refine lv_aload_n hx hb dX6_place_67 rfl (lv_at hl 0 rfl) ?_
      refine va_get (D := D) (ci := 6) (v := .ref (ad 3)) (C := RX6) (T := TX6) (N := 42) hx hb hts iX6 hown hK hP 0 rfl rfl 4 (Nat.le_of_ble_eq_true rfl) f16 (fun _ h9 => h9) rfl dX6_place_68 ?_
      refine lv_iload_n hx hb dX6_place_71 rfl (lv_at hl 1 rfl) ?_
      obtain ⟨v5, ev5, nv5, h⟩ := e_rd h
      refine xa_iald hx hb hK hP 3 rfl nv5 ev5 dX6_place_72 ?_
      obtain rfl := e_s h
      exact hret hP hS rfl dX6_place_73
    have h := e_f c6 h
    by_cases c8 : x2 = 2
    · have h := e_t c8 h
      refine lv_tableIn (off := 53) (tgt := 74) hx hb dX6_place_21 (by rw [c8]; decide) (by rw [c8]; decide) (by rw [c8]; rfl) (by decide) ?_
      refine lv_iload_n hx hb dX6_place_74 rfl (lv_at hl 1 rfl) ?_
      refine lv_aload_n hx hb dX6_place_75 rfl (lv_at hl 0 rfl) ?_
      refine va_get (D := D) (ci := 6) (v := .int block) (C := RX6) (T := TX6) (N := 42) hx hb hts iX6 hown hK hP 0 rfl rfl 6 (Nat.le_of_ble_eq_true rfl) f69 (fun _ h9 => h9) rfl dX6_place_76 ?_
      obtain ⟨v7, ev7, nv7, h⟩ := e_dv h
      refine xa_idiv hx hb dX6_place_79 nv7 ev7 ?_
      obtain rfl := e_s h
      exact hret hP hS rfl dX6_place_80
    have h := e_f c8 h
    by_cases c11 : x2 = 3
    · have h := e_t c11 h
      refine lv_tableIn (off := 60) (tgt := 81) hx hb dX6_place_21 (by rw [c11]; decide) (by rw [c11]; decide) (by rw [c11]; rfl) (by decide) ?_
      refine lv_aload_n hx hb dX6_place_81 rfl (lv_at hl 0 rfl) ?_
      refine lv_iconst (v := 0) hx hb dX6_place_82 (by decide) ?_
      refine lv_iload_n hx hb dX6_place_83 rfl (lv_at hl 1 rfl) ?_
      refine lv_iconst (v := 1) hx hb dX6_place_84 (by decide) ?_
      refine lv_isub hx hb dX6_place_85 ?_
      refine lv_aload_n hx hb dX6_place_86 rfl (lv_at hl 0 rfl) ?_
      refine va_get (D := D) (ci := 6) (v := .ref (ad 2)) (C := RX6) (T := TX6) (N := 42) hx hb hts iX6 hown hK hP 0 rfl rfl 3 (Nat.le_of_ble_eq_true rfl) f13 (fun _ h9 => h9) rfl dX6_place_87 ?_
      refine lv_iload_n hx hb dX6_place_90 rfl (lv_at hl 1 rfl) ?_
      obtain ⟨v9, ev9, nv9, h⟩ := e_rd h
      refine xa_iald hx hb hK hP 2 rfl nv9 ev9 dX6_place_91 ?_
      obtain ⟨q10, eq10, h⟩ := e_b h
      refine xv_i0 (As := [.int 0, .int (x1 - 1), .int v9]) (rest := []) (ci := 6) (b := ad 0) ⟨hx, hb, hml, hown, hts⟩ hl.1 (kX6_timesIn l D cA ad 0 tape taped value weight many block ties lines pastValue pastWeight pastMany undos fresh newValue newWeight newMany newBlock newTies newLines hasBlock hasTies size att place sort number fault faultPlace lastFault lastPlace toValue toWeight toMany often firstOf lastOf unlikes unlikeMany isCandidate modes fewest 0 (x1 - 1) v9  _ eq10) (cwV 3 hts gX6_place_X6_timesIn rfl rfl rfl (by decide +kernel) ⟨Nat.le_of_ble_eq_true rfl, Nat.le_of_ble_eq_true rfl⟩) rfl hK hP hD hS hA 0 rfl rfl rfl rfl (Nat.le_of_ble_eq_true rfl) dX6_place_92 ⟨Nat.zero_le _, Nat.zero_le _⟩ (fun H locs hP hD hS hnq10 => ?_)
      have hP : va_P D vwCl (wX6 cA ad 0 tape taped value weight many block ties lines pastValue pastWeight pastMany undos fresh newValue newWeight newMany newBlock newTies newLines hasBlock hasTies size att place sort number fault faultPlace lastFault lastPlace toValue toWeight toMany often firstOf lastOf unlikes unlikeMany isCandidate modes fewest) H := hP
      have hD : va_D A (wX6 cA ad 0 tape taped value weight many block ties lines pastValue pastWeight pastMany undos fresh newValue newWeight newMany newBlock newTies newLines hasBlock hasTies size att place sort number fault faultPlace lastFault lastPlace toValue toWeight toMany often firstOf lastOf unlikes unlikeMany isCandidate modes fewest) := hD
      obtain rfl := e_s h
      exact hret hP hS rfl dX6_place_95
    have h := e_f c11 h
    by_cases c13 : x2 = 4
    · have h := e_t c13 h
      refine lv_tableIn (off := 75) (tgt := 96) hx hb dX6_place_21 (by rw [c13]; decide) (by rw [c13]; decide) (by rw [c13]; rfl) (by decide) ?_
      refine lv_aload_n hx hb dX6_place_96 rfl (lv_at hl 0 rfl) ?_
      refine lv_iload_n hx hb dX6_place_97 rfl (lv_at hl 1 rfl) ?_
      refine lv_iconst (v := 1) hx hb dX6_place_98 (by decide) ?_
      obtain ⟨q12, eq12, h⟩ := e_b h
      refine xv_i0 (As := [.int x1, .int 1]) (rest := []) (ci := 6) (b := ad 0) ⟨hx, hb, hml, hown, hts⟩ hl.1 (kX6_nextTo l D cA ad 0 tape taped value weight many block ties lines pastValue pastWeight pastMany undos fresh newValue newWeight newMany newBlock newTies newLines hasBlock hasTies size att place sort number fault faultPlace lastFault lastPlace toValue toWeight toMany often firstOf lastOf unlikes unlikeMany isCandidate modes fewest x1 1  _ eq12) (cwV 2 hts gX6_place_X6_nextTo rfl rfl rfl (by decide +kernel) ⟨Nat.le_of_ble_eq_true rfl, Nat.le_of_ble_eq_true rfl⟩) rfl hK hP hD hS hA 0 rfl rfl rfl rfl (Nat.le_of_ble_eq_true rfl) dX6_place_99 ⟨Nat.zero_le _, Nat.zero_le _⟩ (fun H locs hP hD hS hnq12 => ?_)
      have hP : va_P D vwCl (wX6 cA ad 0 tape taped value weight many block ties lines pastValue pastWeight pastMany undos fresh newValue newWeight newMany newBlock newTies newLines hasBlock hasTies size att place sort number fault faultPlace lastFault lastPlace toValue toWeight toMany often firstOf lastOf unlikes unlikeMany isCandidate modes fewest) H := hP
      have hD : va_D A (wX6 cA ad 0 tape taped value weight many block ties lines pastValue pastWeight pastMany undos fresh newValue newWeight newMany newBlock newTies newLines hasBlock hasTies size att place sort number fault faultPlace lastFault lastPlace toValue toWeight toMany often firstOf lastOf unlikes unlikeMany isCandidate modes fewest) := hD
      obtain rfl := e_s h
      exact hret hP hS rfl dX6_place_102
    have h := e_f c13 h
    by_cases c15 : x2 = 5
    · have h := e_t c15 h
      refine lv_tableIn (off := 82) (tgt := 103) hx hb dX6_place_21 (by rw [c15]; decide) (by rw [c15]; decide) (by rw [c15]; rfl) (by decide) ?_
      refine lv_aload_n hx hb dX6_place_103 rfl (lv_at hl 0 rfl) ?_
      refine lv_iload_n hx hb dX6_place_104 rfl (lv_at hl 1 rfl) ?_
      refine lv_iconst (v := (-1)) hx hb dX6_place_105 (by decide) ?_
      obtain ⟨q14, eq14, h⟩ := e_b h
      refine xv_i0 (As := [.int x1, .int (-1)]) (rest := []) (ci := 6) (b := ad 0) ⟨hx, hb, hml, hown, hts⟩ hl.1 (kX6_nextTo l D cA ad 0 tape taped value weight many block ties lines pastValue pastWeight pastMany undos fresh newValue newWeight newMany newBlock newTies newLines hasBlock hasTies size att place sort number fault faultPlace lastFault lastPlace toValue toWeight toMany often firstOf lastOf unlikes unlikeMany isCandidate modes fewest x1 (-1)  _ eq14) (cwV 2 hts gX6_place_X6_nextTo rfl rfl rfl (by decide +kernel) ⟨Nat.le_of_ble_eq_true rfl, Nat.le_of_ble_eq_true rfl⟩) rfl hK hP hD hS hA 0 rfl rfl rfl rfl (Nat.le_of_ble_eq_true rfl) dX6_place_106 ⟨Nat.zero_le _, Nat.zero_le _⟩ (fun H locs hP hD hS hnq14 => ?_)
      have hP : va_P D vwCl (wX6 cA ad 0 tape taped value weight many block ties lines pastValue pastWeight pastMany undos fresh newValue newWeight newMany newBlock newTies newLines hasBlock hasTies size att place sort number fault faultPlace lastFault lastPlace toValue toWeight toMany often firstOf lastOf unlikes unlikeMany isCandidate modes fewest) H := hP
      have hD : va_D A (wX6 cA ad 0 tape taped value weight many block ties lines pastValue pastWeight pastMany undos fresh newValue newWeight newMany newBlock newTies newLines hasBlock hasTies size att place sort number fault faultPlace lastFault lastPlace toValue toWeight toMany often firstOf lastOf unlikes unlikeMany isCandidate modes fewest) := hD
      obtain rfl := e_s h
      exact hret hP hS rfl dX6_place_109
    have h := e_f c15 h
    refine lv_tableOut (tgt := 110) hx hb dX6_place_21 (sw_out 5 (fun k hk => by match k, hk with | 0, _ => exact c4 | 1, _ => exact c6 | 2, _ => exact c8 | 3, _ => exact c11 | 4, _ => exact c13 | 5, _ => exact c15 | (n + 6), hk => exact absurd hk (by omega)) (by decide)) (by decide) ?_
    refine lv_aload_n hx hb dX6_place_110 rfl (lv_at hl 0 rfl) ?_
    refine lv_iconst (v := 2) hx hb dX6_place_111 (by decide) ?_
    refine va_put (D := D) (ci := 6) (v := .int 2) (ty := .int) (C := RX6) (T := TX6) (N := 42) hx hb hts iX6 tyX6 tyX6_ok nmX6 hown hK hP hD hS 0 rfl rfl 0 (Nat.le_of_ble_eq_true rfl) f72 (fun _ h9 => h9) rfl (tyX6_ok 0 (Nat.le_of_ble_eq_true rfl)) rfl rfl (Nat.le_of_ble_eq_true rfl) dX6_place_112 (fun H locs hP hD hS => ?_)
    have hP : va_P D vwCl (wX6 cA ad 2 tape taped value weight many block ties lines pastValue pastWeight pastMany undos fresh newValue newWeight newMany newBlock newTies newLines hasBlock hasTies size att place sort number fault faultPlace lastFault lastPlace toValue toWeight toMany often firstOf lastOf unlikes unlikeMany isCandidate modes fewest) H := hP
    have hD : va_D A (wX6 cA ad 2 tape taped value weight many block ties lines pastValue pastWeight pastMany undos fresh newValue newWeight newMany newBlock newTies newLines hasBlock hasTies size att place sort number fault faultPlace lastFault lastPlace toValue toWeight toMany often firstOf lastOf unlikes unlikeMany isCandidate modes fewest) := hD
    refine lv_iconst (v := 0) hx hb dX6_place_115 (by decide) ?_
    obtain rfl := e_s h
    exact hret hP hS rfl dX6_place_116
  · have h := e_f (not_not_intro c2) h
    refine lv_aload_n hx hb dX6_place_13 rfl (lv_at hl 0 rfl) ?_
    refine lv_iconst (v := 1) hx hb dX6_place_14 (by decide) ?_
    refine va_put (D := D) (ci := 6) (v := .int 1) (ty := .int) (C := RX6) (T := TX6) (N := 42) hx hb hts iX6 tyX6 tyX6_ok nmX6 hown hK hP hD hS 0 rfl rfl 0 (Nat.le_of_ble_eq_true rfl) f72 (fun _ h9 => h9) rfl (tyX6_ok 0 (Nat.le_of_ble_eq_true rfl)) rfl rfl (Nat.le_of_ble_eq_true rfl) dX6_place_15 (fun H locs hP hD hS => ?_)
    have hP : va_P D vwCl (wX6 cA ad 1 tape taped value weight many block ties lines pastValue pastWeight pastMany undos fresh newValue newWeight newMany newBlock newTies newLines hasBlock hasTies size att place sort number fault faultPlace lastFault lastPlace toValue toWeight toMany often firstOf lastOf unlikes unlikeMany isCandidate modes fewest) H := hP
    have hD : va_D A (wX6 cA ad 1 tape taped value weight many block ties lines pastValue pastWeight pastMany undos fresh newValue newWeight newMany newBlock newTies newLines hasBlock hasTies size att place sort number fault faultPlace lastFault lastPlace toValue toWeight toMany often firstOf lastOf unlikes unlikeMany isCandidate modes fewest) := hD
    refine lv_iconst (v := 0) hx hb dX6_place_18 (by decide) ?_
    obtain rfl := e_s h
    exact hret hP hS rfl dX6_place_19
set_option maxHeartbeats 4000000 in
set_option maxRecDepth 100000 in
theorem kX6_begins (l : Launch) (D : va_G) (cA : Nat → ClassId) (ad : Nat → Nat) (thrown : Int32) (tape : Nat → Int32) (taped : Int32) (value : Nat → Int32) (weight : Nat → Int32) (many : Int32) (block : Int32) (ties : Int32) (lines : Int32) (pastValue : Nat → Int32) (pastWeight : Nat → Int32) (pastMany : Nat → Int32) (undos : Int32) (fresh : Int32) (newValue : Nat → Int32) (newWeight : Nat → Int32) (newMany : Int32) (newBlock : Int32) (newTies : Int32) (newLines : Int32) (hasBlock : Int32) (hasTies : Int32) (size : Int32) (att : Int32) (place : Int32) (sort : Int32) (number : Int32) (fault : Int32) (faultPlace : Int32) (lastFault : Int32) (lastPlace : Int32) (toValue : Nat → Int32) (toWeight : Nat → Int32) (toMany : Int32) (often : Nat → Int32) (firstOf : Nat → Int32) (lastOf : Nat → Int32) (unlikes : Nat → Int32) (unlikeMany : Int32) (isCandidate : Nat → Int32) (modes : Nat → Int32) (fewest : Nat → Int32)  (q : (Nat → Int32) × (Nat → Int32) × Int32) (h : mX6_begins value weight many toValue toWeight toMany  = some q) : MV l yX6_begins wsX6_begins { frames := 0, cells := 0, slots := 0, locals := 0 } D cA [.ref (ad 0)] (wX6 cA ad thrown tape taped value weight many block ties lines pastValue pastWeight pastMany undos fresh newValue newWeight newMany newBlock newTies newLines hasBlock hasTies size att place sort number fault faultPlace lastFault lastPlace toValue toWeight toMany often firstOf lastOf unlikes unlikeMany isCandidate modes fewest) (wX6 cA ad thrown tape taped value weight many block ties lines pastValue pastWeight pastMany undos fresh newValue newWeight newMany newBlock newTies newLines hasBlock hasTies size att place sort number fault faultPlace lastFault lastPlace q.1 q.2.1 q.2.2 often firstOf lastOf unlikes unlikeMany isCandidate modes fewest) := by
  refine MV.of (cc := cX6_begins) (maxL := 2) (by decide) rfl rfl rfl (Nat.le_of_ble_eq_true rfl) ?_
  intro p e s m args below meth c A ls Q hx hb hml hts hown hK hP hD hA hS hl hret
  have hl : lv_has ls 2 [(0, .ref (ad 0))] := hl
  have f13 := hts (.fieldLink RX6 13 "ModeDeskModel" "value" "[I") (by decide +kernel)
  have f16 := hts (.fieldLink RX6 16 "ModeDeskModel" "weight" "[I") (by decide +kernel)
  have f175 := hts (.fieldLink RX6 175 "ModeDeskModel" "many" "I") (by decide +kernel)
  have f197 := hts (.fieldLink RX6 197 "ModeDeskModel" "toMany" "I") (by decide +kernel)
  have f41 := hts (.fieldLink RX6 41 "ModeDeskModel" "toValue" "[I") (by decide +kernel)
  have f44 := hts (.fieldLink RX6 44 "ModeDeskModel" "toWeight" "[I") (by decide +kernel)
  have iX6 : ∀ w ∈ wsX60, w ∈ wsX6_begins := by decide +kernel
  unfold mX6_begins at h
  refine lv_aload_n hx hb dX6_begins_0 rfl (lv_at hl 0 rfl) ?_
  refine lv_aload_n hx hb dX6_begins_1 rfl (lv_at hl 0 rfl) ?_
  refine va_get (D := D) (ci := 6) (v := .int many) (C := RX6) (T := TX6) (N := 42) hx hb hts iX6 hown hK hP 0 rfl rfl 5 (Nat.le_of_ble_eq_true rfl) f175 (fun _ h9 => h9) rfl dX6_begins_2 ?_
  refine va_put (D := D) (ci := 6) (v := .int many) (ty := .int) (C := RX6) (T := TX6) (N := 42) hx hb hts iX6 tyX6 tyX6_ok nmX6 hown hK hP hD hS 0 rfl rfl 33 (Nat.le_of_ble_eq_true rfl) f197 (fun _ h9 => h9) rfl (tyX6_ok 33 (Nat.le_of_ble_eq_true rfl)) rfl rfl (Nat.le_of_ble_eq_true rfl) dX6_begins_5 (fun H locs hP hD hS => ?_)
  have hP : va_P D vwCl (wX6 cA ad thrown tape taped value weight many block ties lines pastValue pastWeight pastMany undos fresh newValue newWeight newMany newBlock newTies newLines hasBlock hasTies size att place sort number fault faultPlace lastFault lastPlace toValue toWeight many often firstOf lastOf unlikes unlikeMany isCandidate modes fewest) H := hP
  have hD : va_D A (wX6 cA ad thrown tape taped value weight many block ties lines pastValue pastWeight pastMany undos fresh newValue newWeight newMany newBlock newTies newLines hasBlock hasTies size att place sort number fault faultPlace lastFault lastPlace toValue toWeight many often firstOf lastOf unlikes unlikeMany isCandidate modes fewest) := hD
  refine lv_iconst (v := 0) hx hb dX6_begins_8 (by decide) ?_
  refine lv_istore_n (lv' := [(1, .int 0), (0, .ref (ad 0))]) hx hb dX6_begins_9 rfl hl (by decide) rfl (fun ls hl => ?_)
  have hL10 : ∀ (n : Nat) (x1 : Int32) (thrown : Int32) (tape : Nat → Int32) (taped : Int32) (value : Nat → Int32) (weight : Nat → Int32) (many : Int32) (block : Int32) (ties : Int32) (lines : Int32) (pastValue : Nat → Int32) (pastWeight : Nat → Int32) (pastMany : Nat → Int32) (undos : Int32) (fresh : Int32) (newValue : Nat → Int32) (newWeight : Nat → Int32) (newMany : Int32) (newBlock : Int32) (newTies : Int32) (newLines : Int32) (hasBlock : Int32) (hasTies : Int32) (size : Int32) (att : Int32) (place : Int32) (sort : Int32) (number : Int32) (fault : Int32) (faultPlace : Int32) (lastFault : Int32) (lastPlace : Int32) (toValue : Nat → Int32) (toWeight : Nat → Int32) (toMany : Int32) (often : Nat → Int32) (firstOf : Nat → Int32) (lastOf : Nat → Int32) (unlikes : Nat → Int32) (unlikeMany : Int32) (isCandidate : Nat → Int32) (modes : Nat → Int32) (fewest : Nat → Int32) (z1 : (Nat → Int32) × (Nat → Int32)) (ls : Array Slot) (H : Heap) (locs : List Loc), lv_has ls 2 [(0, .ref (ad 0)), (1, .int x1)] → va_P D vwCl (wX6 cA ad thrown tape taped value weight many block ties lines pastValue pastWeight pastMany undos fresh newValue newWeight newMany newBlock newTies newLines hasBlock hasTies size att place sort number fault faultPlace lastFault lastPlace toValue toWeight toMany often firstOf lastOf unlikes unlikeMany isCandidate modes fewest) H → va_D A (wX6 cA ad thrown tape taped value weight many block ties lines pastValue pastWeight pastMany undos fresh newValue newWeight newMany newBlock newTies newLines hasBlock hasTies size att place sort number fault faultPlace lastFault lastPlace toValue toWeight toMany often firstOf lastOf unlikes unlikeMany isCandidate modes fewest) → va_S A s.heap H locs → mX6_begins_L10 value weight many n x1 toValue toWeight = some z1 → (∀ (ls : Array Slot) (H : Heap) (locs : List Loc), lv_has ls 2 [] → va_P D vwCl (wX6 cA ad thrown tape taped value weight many block ties lines pastValue pastWeight pastMany undos fresh newValue newWeight newMany newBlock newTies newLines hasBlock hasTies size att place sort number fault faultPlace lastFault lastPlace z1.1 z1.2 toMany often firstOf lastOf unlikes unlikeMany isCandidate modes fewest) H → va_D A (wX6 cA ad thrown tape taped value weight many block ties lines pastValue pastWeight pastMany undos fresh newValue newWeight newMany newBlock newTies newLines hasBlock hasTies size att place sort number fault faultPlace lastFault lastPlace z1.1 z1.2 toMany often firstOf lastOf unlikes unlikeMany isCandidate modes fewest) → va_S A s.heap H locs → W p l e (headSpec wsX6_begins { frames := 0, cells := 0, slots := 0, locals := 0 }).room s m args below meth c H locs 0 0 Q (F0 m 48 ls [])) → W p l e (headSpec wsX6_begins { frames := 0, cells := 0, slots := 0, locals := 0 }).room s m args below meth c H locs 0 0 Q (F0 m 10 ls []) := by
    intro n
    induction n with
    | zero => intro x1 thrown tape taped value weight many block ties lines pastValue pastWeight pastMany undos fresh newValue newWeight newMany newBlock newTies newLines hasBlock hasTies size att place sort number fault faultPlace lastFault lastPlace toValue toWeight toMany often firstOf lastOf unlikes unlikeMany isCandidate modes fewest z1 ls H locs hl hP hD hS h hk10; exact e_n h
    | succ n ih10 =>
      intro x1 thrown tape taped value weight many block ties lines pastValue pastWeight pastMany undos fresh newValue newWeight newMany newBlock newTies newLines hasBlock hasTies size att place sort number fault faultPlace lastFault lastPlace toValue toWeight toMany often firstOf lastOf unlikes unlikeMany isCandidate modes fewest z1 ls H locs hl hP hD hS h hk10
      rw [mX6_begins_L10.eq_2] at h
      refine lv_iload_n hx hb dX6_begins_10 rfl (lv_at hl 1 rfl) ?_
      refine lv_aload_n hx hb dX6_begins_11 rfl (lv_at hl 0 rfl) ?_
      refine va_get (D := D) (ci := 6) (v := .int many) (C := RX6) (T := TX6) (N := 42) hx hb hts iX6 hown hK hP 0 rfl rfl 5 (Nat.le_of_ble_eq_true rfl) f175 (fun _ h9 => h9) rfl dX6_begins_12 ?_
      refine lv_icmp_ge (tgt := 48) hx hb dX6_begins_15 (by decide) (fun c2 => ?_) (fun c2 => ?_)
      · have h := e_t c2 h
        obtain rfl := e_s h
        exact hk10 _ _ _ (lv_sub hl [] rfl) hP hD hS
      · have h := e_f c2 h
        refine lv_aload_n hx hb dX6_begins_18 rfl (lv_at hl 0 rfl) ?_
        refine va_get (D := D) (ci := 6) (v := .ref (ad 9)) (C := RX6) (T := TX6) (N := 42) hx hb hts iX6 hown hK hP 0 rfl rfl 31 (Nat.le_of_ble_eq_true rfl) f41 (fun _ h9 => h9) rfl dX6_begins_19 ?_
        refine lv_iload_n hx hb dX6_begins_22 rfl (lv_at hl 1 rfl) ?_
        refine lv_aload_n hx hb dX6_begins_23 rfl (lv_at hl 0 rfl) ?_
        refine va_get (D := D) (ci := 6) (v := .ref (ad 2)) (C := RX6) (T := TX6) (N := 42) hx hb hts iX6 hown hK hP 0 rfl rfl 3 (Nat.le_of_ble_eq_true rfl) f13 (fun _ h9 => h9) rfl dX6_begins_24 ?_
        refine lv_iload_n hx hb dX6_begins_27 rfl (lv_at hl 1 rfl) ?_
        obtain ⟨v3, ev3, nv3, h⟩ := e_rd h
        refine xa_iald hx hb hK hP 2 rfl nv3 ev3 dX6_begins_28 ?_
        obtain ⟨a4, ea4, na4, h⟩ := e_wr h
        refine xa_iast hx hb hK hP hD hS 9 rfl na4 ea4 dX6_begins_29 (fun H locs hP hD hS => ?_)
        have hP : va_P D vwCl (wX6 cA ad thrown tape taped value weight many block ties lines pastValue pastWeight pastMany undos fresh newValue newWeight newMany newBlock newTies newLines hasBlock hasTies size att place sort number fault faultPlace lastFault lastPlace a4 toWeight toMany often firstOf lastOf unlikes unlikeMany isCandidate modes fewest) H := hP
        have hD : va_D A (wX6 cA ad thrown tape taped value weight many block ties lines pastValue pastWeight pastMany undos fresh newValue newWeight newMany newBlock newTies newLines hasBlock hasTies size att place sort number fault faultPlace lastFault lastPlace a4 toWeight toMany often firstOf lastOf unlikes unlikeMany isCandidate modes fewest) := hD
        refine lv_aload_n hx hb dX6_begins_30 rfl (lv_at hl 0 rfl) ?_
        refine va_get (D := D) (ci := 6) (v := .ref (ad 10)) (C := RX6) (T := TX6) (N := 42) hx hb hts iX6 hown hK hP 0 rfl rfl 32 (Nat.le_of_ble_eq_true rfl) f44 (fun _ h9 => h9) rfl dX6_begins_31 ?_
        refine lv_iload_n hx hb dX6_begins_34 rfl (lv_at hl 1 rfl) ?_
        refine lv_aload_n hx hb dX6_begins_35 rfl (lv_at hl 0 rfl) ?_
        refine va_get (D := D) (ci := 6) (v := .ref (ad 3)) (C := RX6) (T := TX6) (N := 42) hx hb hts iX6 hown hK hP 0 rfl rfl 4 (Nat.le_of_ble_eq_true rfl) f16 (fun _ h9 => h9) rfl dX6_begins_36 ?_
        refine lv_iload_n hx hb dX6_begins_39 rfl (lv_at hl 1 rfl) ?_
        obtain ⟨v5, ev5, nv5, h⟩ := e_rd h
        refine xa_iald hx hb hK hP 3 rfl nv5 ev5 dX6_begins_40 ?_
        obtain ⟨a6, ea6, na6, h⟩ := e_wr h
        refine xa_iast hx hb hK hP hD hS 10 rfl na6 ea6 dX6_begins_41 (fun H locs hP hD hS => ?_)
        have hP : va_P D vwCl (wX6 cA ad thrown tape taped value weight many block ties lines pastValue pastWeight pastMany undos fresh newValue newWeight newMany newBlock newTies newLines hasBlock hasTies size att place sort number fault faultPlace lastFault lastPlace a4 a6 toMany often firstOf lastOf unlikes unlikeMany isCandidate modes fewest) H := hP
        have hD : va_D A (wX6 cA ad thrown tape taped value weight many block ties lines pastValue pastWeight pastMany undos fresh newValue newWeight newMany newBlock newTies newLines hasBlock hasTies size att place sort number fault faultPlace lastFault lastPlace a4 a6 toMany often firstOf lastOf unlikes unlikeMany isCandidate modes fewest) := hD
        refine lv_iinc (v := (x1 + 1)) (lv' := [(1, .int (x1 + 1)), (0, .ref (ad 0))]) hx hb dX6_begins_42 hl (k := 1) rfl rfl (by decide) rfl (fun ls hl => ?_)
        refine lv_goto (tgt := 10) hx hb dX6_begins_45 (by decide) ?_
        exact ih10 (x1 + 1) thrown tape taped value weight many block ties lines pastValue pastWeight pastMany undos fresh newValue newWeight newMany newBlock newTies newLines hasBlock hasTies size att place sort number fault faultPlace lastFault lastPlace a4 a6 toMany often firstOf lastOf unlikes unlikeMany isCandidate modes fewest z1 _ _ _ (lv_sub hl [1, 0] rfl) hP hD hS h hk10
  obtain ⟨z7, ez7, h⟩ := e_b h
  refine hL10 FU 0 thrown tape taped value weight many block ties lines pastValue pastWeight pastMany undos fresh newValue newWeight newMany newBlock newTies newLines hasBlock hasTies size att place sort number fault faultPlace lastFault lastPlace toValue toWeight many often firstOf lastOf unlikes unlikeMany isCandidate modes fewest z7 _ _ _ (lv_sub hl [1, 0] rfl) hP hD hS ez7 (fun ls H locs hl hP hD hS => ?_)
  obtain rfl := e_s h
  exact hret hP hS dX6_begins_48
set_option maxHeartbeats 4000000 in
set_option maxRecDepth 100000 in
theorem kX6_others (l : Launch) (D : va_G) (cA : Nat → ClassId) (ad : Nat → Nat) (thrown : Int32) (tape : Nat → Int32) (taped : Int32) (value : Nat → Int32) (weight : Nat → Int32) (many : Int32) (block : Int32) (ties : Int32) (lines : Int32) (pastValue : Nat → Int32) (pastWeight : Nat → Int32) (pastMany : Nat → Int32) (undos : Int32) (fresh : Int32) (newValue : Nat → Int32) (newWeight : Nat → Int32) (newMany : Int32) (newBlock : Int32) (newTies : Int32) (newLines : Int32) (hasBlock : Int32) (hasTies : Int32) (size : Int32) (att : Int32) (place : Int32) (sort : Int32) (number : Int32) (fault : Int32) (faultPlace : Int32) (lastFault : Int32) (lastPlace : Int32) (toValue : Nat → Int32) (toWeight : Nat → Int32) (toMany : Int32) (often : Nat → Int32) (firstOf : Nat → Int32) (lastOf : Nat → Int32) (unlikes : Nat → Int32) (unlikeMany : Int32) (isCandidate : Nat → Int32) (modes : Nat → Int32) (fewest : Nat → Int32)  (q : Int32) (h : mX6_others value many toValue  = some q) : MI l yX6_others wsX6_others { frames := 0, cells := 0, slots := 0, locals := 0 } D cA .int [.ref (ad 0)] (wX6 cA ad thrown tape taped value weight many block ties lines pastValue pastWeight pastMany undos fresh newValue newWeight newMany newBlock newTies newLines hasBlock hasTies size att place sort number fault faultPlace lastFault lastPlace toValue toWeight toMany often firstOf lastOf unlikes unlikeMany isCandidate modes fewest) (wX6 cA ad thrown tape taped value weight many block ties lines pastValue pastWeight pastMany undos fresh newValue newWeight newMany newBlock newTies newLines hasBlock hasTies size att place sort number fault faultPlace lastFault lastPlace toValue toWeight toMany often firstOf lastOf unlikes unlikeMany isCandidate modes fewest) q := by
  refine MI.of (cc := cX6_others) (maxL := 3) (by decide +kernel) rfl rfl rfl (Nat.le_of_ble_eq_true rfl) ?_
  intro p e s m args below meth c A ls Q hx hb hml hts hown hK hP hD hA hS hl hret
  have hl : lv_has ls 3 [(0, .ref (ad 0))] := hl
  have f13 := hts (.fieldLink RX6 13 "ModeDeskModel" "value" "[I") (by decide +kernel)
  have f175 := hts (.fieldLink RX6 175 "ModeDeskModel" "many" "I") (by decide +kernel)
  have f41 := hts (.fieldLink RX6 41 "ModeDeskModel" "toValue" "[I") (by decide +kernel)
  have iX6 : ∀ w ∈ wsX60, w ∈ wsX6_others := by decide +kernel
  unfold mX6_others at h
  refine lv_iconst (v := 0) hx hb dX6_others_0 (by decide) ?_
  refine lv_istore_n (lv' := [(1, .int 0), (0, .ref (ad 0))]) hx hb dX6_others_1 rfl hl (by decide) rfl (fun ls hl => ?_)
  refine lv_iconst (v := 0) hx hb dX6_others_2 (by decide) ?_
  refine lv_istore_n (lv' := [(2, .int 0), (1, .int 0), (0, .ref (ad 0))]) hx hb dX6_others_3 rfl hl (by decide) rfl (fun ls hl => ?_)
  have hL4 : ∀ (n : Nat) (x1 : Int32) (x2 : Int32) (thrown : Int32) (tape : Nat → Int32) (taped : Int32) (value : Nat → Int32) (weight : Nat → Int32) (many : Int32) (block : Int32) (ties : Int32) (lines : Int32) (pastValue : Nat → Int32) (pastWeight : Nat → Int32) (pastMany : Nat → Int32) (undos : Int32) (fresh : Int32) (newValue : Nat → Int32) (newWeight : Nat → Int32) (newMany : Int32) (newBlock : Int32) (newTies : Int32) (newLines : Int32) (hasBlock : Int32) (hasTies : Int32) (size : Int32) (att : Int32) (place : Int32) (sort : Int32) (number : Int32) (fault : Int32) (faultPlace : Int32) (lastFault : Int32) (lastPlace : Int32) (toValue : Nat → Int32) (toWeight : Nat → Int32) (toMany : Int32) (often : Nat → Int32) (firstOf : Nat → Int32) (lastOf : Nat → Int32) (unlikes : Nat → Int32) (unlikeMany : Int32) (isCandidate : Nat → Int32) (modes : Nat → Int32) (fewest : Nat → Int32) (z1 : Int32) (ls : Array Slot) (H : Heap) (locs : List Loc), lv_has ls 3 [(0, .ref (ad 0)), (1, .int x1), (2, .int x2)] → va_P D vwCl (wX6 cA ad thrown tape taped value weight many block ties lines pastValue pastWeight pastMany undos fresh newValue newWeight newMany newBlock newTies newLines hasBlock hasTies size att place sort number fault faultPlace lastFault lastPlace toValue toWeight toMany often firstOf lastOf unlikes unlikeMany isCandidate modes fewest) H → va_D A (wX6 cA ad thrown tape taped value weight many block ties lines pastValue pastWeight pastMany undos fresh newValue newWeight newMany newBlock newTies newLines hasBlock hasTies size att place sort number fault faultPlace lastFault lastPlace toValue toWeight toMany often firstOf lastOf unlikes unlikeMany isCandidate modes fewest) → va_S A s.heap H locs → mX6_others_L4 value many toValue n x1 x2 = some z1 → (∀ (ls : Array Slot) (H : Heap) (locs : List Loc), lv_has ls 3 [(1, .int z1)] → va_P D vwCl (wX6 cA ad thrown tape taped value weight many block ties lines pastValue pastWeight pastMany undos fresh newValue newWeight newMany newBlock newTies newLines hasBlock hasTies size att place sort number fault faultPlace lastFault lastPlace toValue toWeight toMany often firstOf lastOf unlikes unlikeMany isCandidate modes fewest) H → va_D A (wX6 cA ad thrown tape taped value weight many block ties lines pastValue pastWeight pastMany undos fresh newValue newWeight newMany newBlock newTies newLines hasBlock hasTies size att place sort number fault faultPlace lastFault lastPlace toValue toWeight toMany often firstOf lastOf unlikes unlikeMany isCandidate modes fewest) → va_S A s.heap H locs → W p l e (headSpec wsX6_others { frames := 0, cells := 0, slots := 0, locals := 0 }).room s m args below meth c H locs 0 0 Q (F0 m 41 ls [])) → W p l e (headSpec wsX6_others { frames := 0, cells := 0, slots := 0, locals := 0 }).room s m args below meth c H locs 0 0 Q (F0 m 4 ls []) := by
    intro n
    induction n with
    | zero => intro x1 x2 thrown tape taped value weight many block ties lines pastValue pastWeight pastMany undos fresh newValue newWeight newMany newBlock newTies newLines hasBlock hasTies size att place sort number fault faultPlace lastFault lastPlace toValue toWeight toMany often firstOf lastOf unlikes unlikeMany isCandidate modes fewest z1 ls H locs hl hP hD hS h hk4; exact e_n h
    | succ n ih4 =>
      intro x1 x2 thrown tape taped value weight many block ties lines pastValue pastWeight pastMany undos fresh newValue newWeight newMany newBlock newTies newLines hasBlock hasTies size att place sort number fault faultPlace lastFault lastPlace toValue toWeight toMany often firstOf lastOf unlikes unlikeMany isCandidate modes fewest z1 ls H locs hl hP hD hS h hk4
      rw [mX6_others_L4.eq_2] at h
      refine lv_iload_n hx hb dX6_others_4 rfl (lv_at hl 2 rfl) ?_
      refine lv_aload_n hx hb dX6_others_5 rfl (lv_at hl 0 rfl) ?_
      refine va_get (D := D) (ci := 6) (v := .int many) (C := RX6) (T := TX6) (N := 42) hx hb hts iX6 hown hK hP 0 rfl rfl 5 (Nat.le_of_ble_eq_true rfl) f175 (fun _ h9 => h9) rfl dX6_others_6 ?_
      refine lv_icmp_ge (tgt := 41) hx hb dX6_others_9 (by decide) (fun c2 => ?_) (fun c2 => ?_)
      · have h := e_t c2 h
        obtain rfl := e_s h
        exact hk4 _ _ _ (lv_sub hl [1] rfl) hP hD hS
      · have h := e_f c2 h
        refine lv_iload_n hx hb dX6_others_12 rfl (lv_at hl 1 rfl) ?_
        refine lv_aload_n hx hb dX6_others_13 rfl (lv_at hl 0 rfl) ?_
        refine va_get (D := D) (ci := 6) (v := .ref (ad 9)) (C := RX6) (T := TX6) (N := 42) hx hb hts iX6 hown hK hP 0 rfl rfl 31 (Nat.le_of_ble_eq_true rfl) f41 (fun _ h9 => h9) rfl dX6_others_14 ?_
        refine lv_iload_n hx hb dX6_others_17 rfl (lv_at hl 2 rfl) ?_
        obtain ⟨v3, ev3, nv3, h⟩ := e_rd h
        refine xa_iald hx hb hK hP 9 rfl nv3 ev3 dX6_others_18 ?_
        refine lv_aload_n hx hb dX6_others_19 rfl (lv_at hl 0 rfl) ?_
        refine va_get (D := D) (ci := 6) (v := .ref (ad 2)) (C := RX6) (T := TX6) (N := 42) hx hb hts iX6 hown hK hP 0 rfl rfl 3 (Nat.le_of_ble_eq_true rfl) f13 (fun _ h9 => h9) rfl dX6_others_20 ?_
        refine lv_iload_n hx hb dX6_others_23 rfl (lv_at hl 2 rfl) ?_
        obtain ⟨v4, ev4, nv4, h⟩ := e_rd h
        refine xa_iald hx hb hK hP 2 rfl nv4 ev4 dX6_others_24 ?_
        refine lv_icmp_ne (tgt := 32) hx hb dX6_others_25 (by decide) (fun c5 => ?_) (fun c5 => ?_)
        · have h := e_t c5 h
          refine lv_iconst (v := 1) hx hb dX6_others_32 (by decide) ?_
          refine lv_iadd hx hb dX6_others_33 ?_
          refine lv_istore_n (lv' := [(1, .int (x1 + 1)), (0, .ref (ad 0)), (2, .int x2)]) hx hb dX6_others_34 rfl hl (by decide) rfl (fun ls hl => ?_)
          refine lv_iinc (v := (x2 + 1)) (lv' := [(2, .int (x2 + 1)), (1, .int (x1 + 1)), (0, .ref (ad 0))]) hx hb dX6_others_35 hl (k := 2) rfl rfl (by decide) rfl (fun ls hl => ?_)
          refine lv_goto (tgt := 4) hx hb dX6_others_38 (by decide) ?_
          exact ih4 (x1 + 1) (x2 + 1) thrown tape taped value weight many block ties lines pastValue pastWeight pastMany undos fresh newValue newWeight newMany newBlock newTies newLines hasBlock hasTies size att place sort number fault faultPlace lastFault lastPlace toValue toWeight toMany often firstOf lastOf unlikes unlikeMany isCandidate modes fewest z1 _ _ _ (lv_sub hl [2, 1, 0] rfl) hP hD hS h hk4
        · have h := e_f (not_not_intro c5) h
          refine lv_iconst (v := 0) hx hb dX6_others_28 (by decide) ?_
          refine lv_goto (tgt := 33) hx hb dX6_others_29 (by decide) ?_
          refine lv_iadd hx hb dX6_others_33 ?_
          refine lv_istore_n (lv' := [(1, .int (x1 + 0)), (0, .ref (ad 0)), (2, .int x2)]) hx hb dX6_others_34 rfl hl (by decide) rfl (fun ls hl => ?_)
          refine lv_iinc (v := (x2 + 1)) (lv' := [(2, .int (x2 + 1)), (1, .int (x1 + 0)), (0, .ref (ad 0))]) hx hb dX6_others_35 hl (k := 2) rfl rfl (by decide) rfl (fun ls hl => ?_)
          refine lv_goto (tgt := 4) hx hb dX6_others_38 (by decide) ?_
          exact ih4 (x1 + 0) (x2 + 1) thrown tape taped value weight many block ties lines pastValue pastWeight pastMany undos fresh newValue newWeight newMany newBlock newTies newLines hasBlock hasTies size att place sort number fault faultPlace lastFault lastPlace toValue toWeight toMany often firstOf lastOf unlikes unlikeMany isCandidate modes fewest z1 _ _ _ (lv_sub hl [2, 1, 0] rfl) hP hD hS h hk4
  obtain ⟨z6, ez6, h⟩ := e_b h
  refine hL4 FU 0 0 thrown tape taped value weight many block ties lines pastValue pastWeight pastMany undos fresh newValue newWeight newMany newBlock newTies newLines hasBlock hasTies size att place sort number fault faultPlace lastFault lastPlace toValue toWeight toMany often firstOf lastOf unlikes unlikeMany isCandidate modes fewest z6 _ _ _ (lv_sub hl [2, 1, 0] rfl) hP hD hS ez6 (fun ls H locs hl hP hD hS => ?_)
  refine lv_iload_n hx hb dX6_others_41 rfl (lv_at hl 0 rfl) ?_
  obtain rfl := e_s h
  exact hret hP hS rfl dX6_others_42
set_option maxHeartbeats 4000000 in
set_option maxRecDepth 100000 in
theorem kX6_isOther (l : Launch) (D : va_G) (cA : Nat → ClassId) (ad : Nat → Nat) (thrown : Int32) (tape : Nat → Int32) (taped : Int32) (value : Nat → Int32) (weight : Nat → Int32) (many : Int32) (block : Int32) (ties : Int32) (lines : Int32) (pastValue : Nat → Int32) (pastWeight : Nat → Int32) (pastMany : Nat → Int32) (undos : Int32) (fresh : Int32) (newValue : Nat → Int32) (newWeight : Nat → Int32) (newMany : Int32) (newBlock : Int32) (newTies : Int32) (newLines : Int32) (hasBlock : Int32) (hasTies : Int32) (size : Int32) (att : Int32) (place : Int32) (sort : Int32) (number : Int32) (fault : Int32) (faultPlace : Int32) (lastFault : Int32) (lastPlace : Int32) (toValue : Nat → Int32) (toWeight : Nat → Int32) (toMany : Int32) (often : Nat → Int32) (firstOf : Nat → Int32) (lastOf : Nat → Int32) (unlikes : Nat → Int32) (unlikeMany : Int32) (isCandidate : Nat → Int32) (modes : Nat → Int32) (fewest : Nat → Int32)  (q : Int32) (h : mX6_isOther value weight many toValue toWeight toMany  = some q) : MI l yX6_isOther wsX6_isOther { frames := 0, cells := 0, slots := 0, locals := 0 } D cA .boolean [.ref (ad 0)] (wX6 cA ad thrown tape taped value weight many block ties lines pastValue pastWeight pastMany undos fresh newValue newWeight newMany newBlock newTies newLines hasBlock hasTies size att place sort number fault faultPlace lastFault lastPlace toValue toWeight toMany often firstOf lastOf unlikes unlikeMany isCandidate modes fewest) (wX6 cA ad thrown tape taped value weight many block ties lines pastValue pastWeight pastMany undos fresh newValue newWeight newMany newBlock newTies newLines hasBlock hasTies size att place sort number fault faultPlace lastFault lastPlace toValue toWeight toMany often firstOf lastOf unlikes unlikeMany isCandidate modes fewest) q := by
  refine MI.of (cc := cX6_isOther) (maxL := 2) (by decide +kernel) rfl rfl rfl (Nat.le_of_ble_eq_true rfl) ?_
  intro p e s m args below meth c A ls Q hx hb hml hts hown hK hP hD hA hS hl hret
  have hl : lv_has ls 2 [(0, .ref (ad 0))] := hl
  have f13 := hts (.fieldLink RX6 13 "ModeDeskModel" "value" "[I") (by decide +kernel)
  have f16 := hts (.fieldLink RX6 16 "ModeDeskModel" "weight" "[I") (by decide +kernel)
  have f175 := hts (.fieldLink RX6 175 "ModeDeskModel" "many" "I") (by decide +kernel)
  have f197 := hts (.fieldLink RX6 197 "ModeDeskModel" "toMany" "I") (by decide +kernel)
  have f41 := hts (.fieldLink RX6 41 "ModeDeskModel" "toValue" "[I") (by decide +kernel)
  have f44 := hts (.fieldLink RX6 44 "ModeDeskModel" "toWeight" "[I") (by decide +kernel)
  have iX6 : ∀ w ∈ wsX60, w ∈ wsX6_isOther := by decide +kernel
  unfold mX6_isOther at h
  refine lv_aload_n hx hb dX6_isOther_0 rfl (lv_at hl 0 rfl) ?_
  refine va_get (D := D) (ci := 6) (v := .int toMany) (C := RX6) (T := TX6) (N := 42) hx hb hts iX6 hown hK hP 0 rfl rfl 33 (Nat.le_of_ble_eq_true rfl) f197 (fun _ h9 => h9) rfl dX6_isOther_1 ?_
  refine lv_aload_n hx hb dX6_isOther_4 rfl (lv_at hl 0 rfl) ?_
  refine va_get (D := D) (ci := 6) (v := .int many) (C := RX6) (T := TX6) (N := 42) hx hb hts iX6 hown hK hP 0 rfl rfl 5 (Nat.le_of_ble_eq_true rfl) f175 (fun _ h9 => h9) rfl dX6_isOther_5 ?_
  refine lv_icmp_eq (tgt := 13) hx hb dX6_isOther_8 (by decide) (fun c1 => ?_) (fun c1 => ?_)
  · have h := e_t c1 h
    refine lv_iconst (v := 0) hx hb dX6_isOther_13 (by decide) ?_
    refine lv_istore_n (lv' := [(1, .int 0), (0, .ref (ad 0))]) hx hb dX6_isOther_14 rfl hl (by decide) rfl (fun ls hl => ?_)
    have hL15 : ∀ (n : Nat) (x1 : Int32) (ls : Array Slot) (H : Heap) (locs : List Loc), lv_has ls 2 [(0, .ref (ad 0)), (1, .int x1)] → va_P D vwCl (wX6 cA ad thrown tape taped value weight many block ties lines pastValue pastWeight pastMany undos fresh newValue newWeight newMany newBlock newTies newLines hasBlock hasTies size att place sort number fault faultPlace lastFault lastPlace toValue toWeight toMany often firstOf lastOf unlikes unlikeMany isCandidate modes fewest) H → va_D A (wX6 cA ad thrown tape taped value weight many block ties lines pastValue pastWeight pastMany undos fresh newValue newWeight newMany newBlock newTies newLines hasBlock hasTies size att place sort number fault faultPlace lastFault lastPlace toValue toWeight toMany often firstOf lastOf unlikes unlikeMany isCandidate modes fewest) → va_S A s.heap H locs → mX6_isOther_L15 value weight many toValue toWeight n x1 = some q → W p l e (headSpec wsX6_isOther { frames := 0, cells := 0, slots := 0, locals := 0 }).room s m args below meth c H locs 0 0 Q (F0 m 15 ls []) := by
      intro n
      induction n with
      | zero => intro x1 ls H locs hl hP hD hS h; exact e_n h
      | succ n ih15 =>
        intro x1 ls H locs hl hP hD hS h
        rw [mX6_isOther_L15.eq_2] at h
        refine lv_iload_n hx hb dX6_isOther_15 rfl (lv_at hl 1 rfl) ?_
        refine lv_aload_n hx hb dX6_isOther_16 rfl (lv_at hl 0 rfl) ?_
        refine va_get (D := D) (ci := 6) (v := .int many) (C := RX6) (T := TX6) (N := 42) hx hb hts iX6 hown hK hP 0 rfl rfl 5 (Nat.le_of_ble_eq_true rfl) f175 (fun _ h9 => h9) rfl dX6_isOther_17 ?_
        refine lv_icmp_ge (tgt := 61) hx hb dX6_isOther_20 (by decide) (fun c3 => ?_) (fun c3 => ?_)
        · have h := e_t c3 h
          refine lv_iconst (v := 0) hx hb dX6_isOther_61 (by decide) ?_
          obtain rfl := e_s h
          exact hret hP hS (show narrow .boolean (.int 0) = .int 0 from rfl) dX6_isOther_62
        · have h := e_f c3 h
          refine lv_aload_n hx hb dX6_isOther_23 rfl (lv_at hl 0 rfl) ?_
          refine va_get (D := D) (ci := 6) (v := .ref (ad 9)) (C := RX6) (T := TX6) (N := 42) hx hb hts iX6 hown hK hP 0 rfl rfl 31 (Nat.le_of_ble_eq_true rfl) f41 (fun _ h9 => h9) rfl dX6_isOther_24 ?_
          refine lv_iload_n hx hb dX6_isOther_27 rfl (lv_at hl 1 rfl) ?_
          obtain ⟨v4, ev4, nv4, h⟩ := e_rd h
          refine xa_iald hx hb hK hP 9 rfl nv4 ev4 dX6_isOther_28 ?_
          refine lv_aload_n hx hb dX6_isOther_29 rfl (lv_at hl 0 rfl) ?_
          refine va_get (D := D) (ci := 6) (v := .ref (ad 2)) (C := RX6) (T := TX6) (N := 42) hx hb hts iX6 hown hK hP 0 rfl rfl 3 (Nat.le_of_ble_eq_true rfl) f13 (fun _ h9 => h9) rfl dX6_isOther_30 ?_
          refine lv_iload_n hx hb dX6_isOther_33 rfl (lv_at hl 1 rfl) ?_
          obtain ⟨v5, ev5, nv5, h⟩ := e_rd h
          refine xa_iald hx hb hK hP 2 rfl nv5 ev5 dX6_isOther_34 ?_
          refine lv_icmp_ne (tgt := 53) hx hb dX6_isOther_35 (by decide) (fun c6 => ?_) (fun c6 => ?_)
          · have h := e_t c6 h
            refine lv_iconst (v := 1) hx hb dX6_isOther_53 (by decide) ?_
            obtain rfl := e_s h
            exact hret hP hS (show narrow .boolean (.int 1) = .int 1 from rfl) dX6_isOther_54
          · have h := e_f (not_not_intro c6) h
            refine lv_aload_n hx hb dX6_isOther_38 rfl (lv_at hl 0 rfl) ?_
            refine va_get (D := D) (ci := 6) (v := .ref (ad 10)) (C := RX6) (T := TX6) (N := 42) hx hb hts iX6 hown hK hP 0 rfl rfl 32 (Nat.le_of_ble_eq_true rfl) f44 (fun _ h9 => h9) rfl dX6_isOther_39 ?_
            refine lv_iload_n hx hb dX6_isOther_42 rfl (lv_at hl 1 rfl) ?_
            obtain ⟨v7, ev7, nv7, h⟩ := e_rd h
            refine xa_iald hx hb hK hP 10 rfl nv7 ev7 dX6_isOther_43 ?_
            refine lv_aload_n hx hb dX6_isOther_44 rfl (lv_at hl 0 rfl) ?_
            refine va_get (D := D) (ci := 6) (v := .ref (ad 3)) (C := RX6) (T := TX6) (N := 42) hx hb hts iX6 hown hK hP 0 rfl rfl 4 (Nat.le_of_ble_eq_true rfl) f16 (fun _ h9 => h9) rfl dX6_isOther_45 ?_
            refine lv_iload_n hx hb dX6_isOther_48 rfl (lv_at hl 1 rfl) ?_
            obtain ⟨v8, ev8, nv8, h⟩ := e_rd h
            refine xa_iald hx hb hK hP 3 rfl nv8 ev8 dX6_isOther_49 ?_
            refine lv_icmp_eq (tgt := 55) hx hb dX6_isOther_50 (by decide) (fun c9 => ?_) (fun c9 => ?_)
            · have h := e_t c9 h
              refine lv_iinc (v := (x1 + 1)) (lv' := [(1, .int (x1 + 1)), (0, .ref (ad 0))]) hx hb dX6_isOther_55 hl (k := 1) rfl rfl (by decide) rfl (fun ls hl => ?_)
              refine lv_goto (tgt := 15) hx hb dX6_isOther_58 (by decide) ?_
              exact ih15 (x1 + 1) _ _ _ (lv_sub hl [1, 0] rfl) hP hD hS h
            · have h := e_f c9 h
              refine lv_iconst (v := 1) hx hb dX6_isOther_53 (by decide) ?_
              obtain rfl := e_s h
              exact hret hP hS (show narrow .boolean (.int 1) = .int 1 from rfl) dX6_isOther_54
    exact hL15 FU 0 _ _ _ (lv_sub hl [1, 0] rfl) hP hD hS h
  · have h := e_f c1 h
    refine lv_iconst (v := 1) hx hb dX6_isOther_11 (by decide) ?_
    obtain rfl := e_s h
    exact hret hP hS (show narrow .boolean (.int 1) = .int 1 from rfl) dX6_isOther_12
set_option maxHeartbeats 4000000 in
set_option maxRecDepth 100000 in
theorem kX6_placesOf (l : Launch) (D : va_G) (cA : Nat → ClassId) (ad : Nat → Nat) (thrown : Int32) (tape : Nat → Int32) (taped : Int32) (value : Nat → Int32) (weight : Nat → Int32) (many : Int32) (block : Int32) (ties : Int32) (lines : Int32) (pastValue : Nat → Int32) (pastWeight : Nat → Int32) (pastMany : Nat → Int32) (undos : Int32) (fresh : Int32) (newValue : Nat → Int32) (newWeight : Nat → Int32) (newMany : Int32) (newBlock : Int32) (newTies : Int32) (newLines : Int32) (hasBlock : Int32) (hasTies : Int32) (size : Int32) (att : Int32) (place : Int32) (sort : Int32) (number : Int32) (fault : Int32) (faultPlace : Int32) (lastFault : Int32) (lastPlace : Int32) (toValue : Nat → Int32) (toWeight : Nat → Int32) (toMany : Int32) (often : Nat → Int32) (firstOf : Nat → Int32) (lastOf : Nat → Int32) (unlikes : Nat → Int32) (unlikeMany : Int32) (isCandidate : Nat → Int32) (modes : Nat → Int32) (fewest : Nat → Int32) (x1 : Int32) (x2 : Int32) (q : Int32) (h : mX6_placesOf block x1 x2 = some q) : MI l yX6_placesOf wsX6_placesOf { frames := 0, cells := 0, slots := 0, locals := 0 } D cA .int [.ref (ad 0), .int x1, .int x2] (wX6 cA ad thrown tape taped value weight many block ties lines pastValue pastWeight pastMany undos fresh newValue newWeight newMany newBlock newTies newLines hasBlock hasTies size att place sort number fault faultPlace lastFault lastPlace toValue toWeight toMany often firstOf lastOf unlikes unlikeMany isCandidate modes fewest) (wX6 cA ad thrown tape taped value weight many block ties lines pastValue pastWeight pastMany undos fresh newValue newWeight newMany newBlock newTies newLines hasBlock hasTies size att place sort number fault faultPlace lastFault lastPlace toValue toWeight toMany often firstOf lastOf unlikes unlikeMany isCandidate modes fewest) q := by
  refine MI.of (cc := cX6_placesOf) (maxL := 4) (by decide +kernel) rfl rfl rfl (Nat.le_of_ble_eq_true rfl) ?_
  intro p e s m args below meth c A ls Q hx hb hml hts hown hK hP hD hA hS hl hret
  have hl : lv_has ls 4 [(0, .ref (ad 0)), (1, .int x1), (2, .int x2)] := hl
  have f69 := hts (.fieldLink RX6 69 "ModeDeskModel" "block" "I") (by decide +kernel)
  have iX6 : ∀ w ∈ wsX60, w ∈ wsX6_placesOf := by decide +kernel
  unfold mX6_placesOf at h
  refine lv_iload_n hx hb dX6_placesOf_0 rfl (lv_at hl 2 rfl) ?_
  refine lv_aload_n hx hb dX6_placesOf_1 rfl (lv_at hl 0 rfl) ?_
  refine va_get (D := D) (ci := 6) (v := .int block) (C := RX6) (T := TX6) (N := 42) hx hb hts iX6 hown hK hP 0 rfl rfl 6 (Nat.le_of_ble_eq_true rfl) f69 (fun _ h9 => h9) rfl dX6_placesOf_2 ?_
  refine lv_iload_n hx hb dX6_placesOf_5 rfl (lv_at hl 1 rfl) ?_
  refine lv_imul hx hb dX6_placesOf_6 ?_
  refine lv_isub hx hb dX6_placesOf_7 ?_
  refine lv_istore_n (lv' := [(3, .int (x2 - (block * x1))), (0, .ref (ad 0)), (1, .int x1), (2, .int x2)]) hx hb dX6_placesOf_8 rfl hl (by decide) rfl (fun ls hl => ?_)
  refine lv_iload_n hx hb dX6_placesOf_9 rfl (lv_at hl 0 rfl) ?_
  refine lv_aload_n hx hb dX6_placesOf_10 rfl (lv_at hl 1 rfl) ?_
  refine va_get (D := D) (ci := 6) (v := .int block) (C := RX6) (T := TX6) (N := 42) hx hb hts iX6 hown hK hP 0 rfl rfl 6 (Nat.le_of_ble_eq_true rfl) f69 (fun _ h9 => h9) rfl dX6_placesOf_11 ?_
  refine lv_icmp_le (tgt := 24) hx hb dX6_placesOf_14 (by decide) (fun c1 => ?_) (fun c1 => ?_)
  · have h := e_t c1 h
    refine lv_iload_n hx hb dX6_placesOf_24 rfl (lv_at hl 0 rfl) ?_
    refine lv_if_ge (tgt := 32) hx hb dX6_placesOf_25 (by decide) (fun c2 => ?_) (fun c2 => ?_)
    · have h := e_t c2 h
      refine lv_iload_n hx hb dX6_placesOf_32 rfl (lv_at hl 0 rfl) ?_
      obtain rfl := e_s h
      exact hret hP hS rfl dX6_placesOf_33
    · have h := e_f c2 h
      refine lv_iconst (v := 0) hx hb dX6_placesOf_28 (by decide) ?_
      refine lv_goto (tgt := 33) hx hb dX6_placesOf_29 (by decide) ?_
      obtain rfl := e_s h
      exact hret hP hS rfl dX6_placesOf_33
  · have h := e_f c1 h
    refine lv_aload_n hx hb dX6_placesOf_17 rfl (lv_at hl 1 rfl) ?_
    refine va_get (D := D) (ci := 6) (v := .int block) (C := RX6) (T := TX6) (N := 42) hx hb hts iX6 hown hK hP 0 rfl rfl 6 (Nat.le_of_ble_eq_true rfl) f69 (fun _ h9 => h9) rfl dX6_placesOf_18 ?_
    refine lv_goto (tgt := 33) hx hb dX6_placesOf_21 (by decide) ?_
    obtain rfl := e_s h
    exact hret hP hS rfl dX6_placesOf_33
set_option maxHeartbeats 4000000 in
set_option maxRecDepth 100000 in
theorem kX6_isFresh (l : Launch) (D : va_G) (cA : Nat → ClassId) (ad : Nat → Nat) (thrown : Int32) (tape : Nat → Int32) (taped : Int32) (value : Nat → Int32) (weight : Nat → Int32) (many : Int32) (block : Int32) (ties : Int32) (lines : Int32) (pastValue : Nat → Int32) (pastWeight : Nat → Int32) (pastMany : Nat → Int32) (undos : Int32) (fresh : Int32) (newValue : Nat → Int32) (newWeight : Nat → Int32) (newMany : Int32) (newBlock : Int32) (newTies : Int32) (newLines : Int32) (hasBlock : Int32) (hasTies : Int32) (size : Int32) (att : Int32) (place : Int32) (sort : Int32) (number : Int32) (fault : Int32) (faultPlace : Int32) (lastFault : Int32) (lastPlace : Int32) (toValue : Nat → Int32) (toWeight : Nat → Int32) (toMany : Int32) (often : Nat → Int32) (firstOf : Nat → Int32) (lastOf : Nat → Int32) (unlikes : Nat → Int32) (unlikeMany : Int32) (isCandidate : Nat → Int32) (modes : Nat → Int32) (fewest : Nat → Int32) (x1 : Int32) (q : Int32) (h : mX6_isFresh value many block toValue toMany x1 = some q) : MI l yX6_isFresh wsX6_isFresh { frames := 1, cells := 0, slots := 0, locals := 23 } D cA .boolean [.ref (ad 0), .int x1] (wX6 cA ad thrown tape taped value weight many block ties lines pastValue pastWeight pastMany undos fresh newValue newWeight newMany newBlock newTies newLines hasBlock hasTies size att place sort number fault faultPlace lastFault lastPlace toValue toWeight toMany often firstOf lastOf unlikes unlikeMany isCandidate modes fewest) (wX6 cA ad thrown tape taped value weight many block ties lines pastValue pastWeight pastMany undos fresh newValue newWeight newMany newBlock newTies newLines hasBlock hasTies size att place sort number fault faultPlace lastFault lastPlace toValue toWeight toMany often firstOf lastOf unlikes unlikeMany isCandidate modes fewest) q := by
  refine MI.of (cc := cX6_isFresh) (maxL := 3) (by decide +kernel) rfl rfl rfl (Nat.le_of_ble_eq_true rfl) ?_
  intro p e s m args below meth c A ls Q hx hb hml hts hown hK hP hD hA hS hl hret
  have hl : lv_has ls 3 [(0, .ref (ad 0)), (1, .int x1)] := hl
  have f13 := hts (.fieldLink RX6 13 "ModeDeskModel" "value" "[I") (by decide +kernel)
  have f175 := hts (.fieldLink RX6 175 "ModeDeskModel" "many" "I") (by decide +kernel)
  have f197 := hts (.fieldLink RX6 197 "ModeDeskModel" "toMany" "I") (by decide +kernel)
  have f41 := hts (.fieldLink RX6 41 "ModeDeskModel" "toValue" "[I") (by decide +kernel)
  have f69 := hts (.fieldLink RX6 69 "ModeDeskModel" "block" "I") (by decide +kernel)
  have iX6 : ∀ w ∈ wsX60, w ∈ wsX6_isFresh := by decide +kernel
  unfold mX6_isFresh at h
  refine lv_aload_n hx hb dX6_isFresh_0 rfl (lv_at hl 0 rfl) ?_
  refine lv_iload_n hx hb dX6_isFresh_1 rfl (lv_at hl 1 rfl) ?_
  refine lv_aload_n hx hb dX6_isFresh_2 rfl (lv_at hl 0 rfl) ?_
  refine va_get (D := D) (ci := 6) (v := .int toMany) (C := RX6) (T := TX6) (N := 42) hx hb hts iX6 hown hK hP 0 rfl rfl 33 (Nat.le_of_ble_eq_true rfl) f197 (fun _ h9 => h9) rfl dX6_isFresh_3 ?_
  obtain ⟨q1, eq1, h⟩ := e_b h
  refine xv_i0 (As := [.int x1, .int toMany]) (rest := []) (ci := 6) (b := ad 0) ⟨hx, hb, hml, hown, hts⟩ hl.1 (kX6_placesOf l D cA ad thrown tape taped value weight many block ties lines pastValue pastWeight pastMany undos fresh newValue newWeight newMany newBlock newTies newLines hasBlock hasTies size att place sort number fault faultPlace lastFault lastPlace toValue toWeight toMany often firstOf lastOf unlikes unlikeMany isCandidate modes fewest x1 toMany  _ eq1) (cwV 2 hts gX6_isFresh_X6_placesOf rfl rfl rfl (by decide +kernel) ⟨Nat.le_of_ble_eq_true rfl, Nat.le_of_ble_eq_true rfl⟩) rfl hK hP hD hS hA 0 rfl rfl rfl rfl (Nat.le_of_ble_eq_true rfl) dX6_isFresh_6 ⟨Nat.zero_le _, Nat.zero_le _⟩ (fun H locs hP hD hS hnq1 => ?_)
  have hP : va_P D vwCl (wX6 cA ad thrown tape taped value weight many block ties lines pastValue pastWeight pastMany undos fresh newValue newWeight newMany newBlock newTies newLines hasBlock hasTies size att place sort number fault faultPlace lastFault lastPlace toValue toWeight toMany often firstOf lastOf unlikes unlikeMany isCandidate modes fewest) H := hP
  have hD : va_D A (wX6 cA ad thrown tape taped value weight many block ties lines pastValue pastWeight pastMany undos fresh newValue newWeight newMany newBlock newTies newLines hasBlock hasTies size att place sort number fault faultPlace lastFault lastPlace toValue toWeight toMany often firstOf lastOf unlikes unlikeMany isCandidate modes fewest) := hD
  refine lv_aload_n hx hb dX6_isFresh_9 rfl (lv_at hl 0 rfl) ?_
  refine lv_iload_n hx hb dX6_isFresh_10 rfl (lv_at hl 1 rfl) ?_
  refine lv_aload_n hx hb dX6_isFresh_11 rfl (lv_at hl 0 rfl) ?_
  refine va_get (D := D) (ci := 6) (v := .int many) (C := RX6) (T := TX6) (N := 42) hx hb hts iX6 hown hK hP 0 rfl rfl 5 (Nat.le_of_ble_eq_true rfl) f175 (fun _ h9 => h9) rfl dX6_isFresh_12 ?_
  obtain ⟨q2, eq2, h⟩ := e_b h
  refine xv_i0 (As := [.int x1, .int many]) (rest := [.int q1]) (ci := 6) (b := ad 0) ⟨hx, hb, hml, hown, hts⟩ hl.1 (kX6_placesOf l D cA ad thrown tape taped value weight many block ties lines pastValue pastWeight pastMany undos fresh newValue newWeight newMany newBlock newTies newLines hasBlock hasTies size att place sort number fault faultPlace lastFault lastPlace toValue toWeight toMany often firstOf lastOf unlikes unlikeMany isCandidate modes fewest x1 many  _ eq2) (cwV 2 hts gX6_isFresh_X6_placesOf rfl rfl rfl (by decide +kernel) ⟨Nat.le_of_ble_eq_true rfl, Nat.le_of_ble_eq_true rfl⟩) rfl hK hP hD hS hA 0 rfl rfl rfl rfl (Nat.le_of_ble_eq_true rfl) dX6_isFresh_15 ⟨Nat.zero_le _, Nat.zero_le _⟩ (fun H locs hP hD hS hnq2 => ?_)
  have hP : va_P D vwCl (wX6 cA ad thrown tape taped value weight many block ties lines pastValue pastWeight pastMany undos fresh newValue newWeight newMany newBlock newTies newLines hasBlock hasTies size att place sort number fault faultPlace lastFault lastPlace toValue toWeight toMany often firstOf lastOf unlikes unlikeMany isCandidate modes fewest) H := hP
  have hD : va_D A (wX6 cA ad thrown tape taped value weight many block ties lines pastValue pastWeight pastMany undos fresh newValue newWeight newMany newBlock newTies newLines hasBlock hasTies size att place sort number fault faultPlace lastFault lastPlace toValue toWeight toMany often firstOf lastOf unlikes unlikeMany isCandidate modes fewest) := hD
  refine lv_icmp_ge (tgt := 23) hx hb dX6_isFresh_18 (by decide) (fun c3 => ?_) (fun c3 => ?_)
  · have h := e_t c3 h
    refine lv_aload_n hx hb dX6_isFresh_23 rfl (lv_at hl 0 rfl) ?_
    refine va_get (D := D) (ci := 6) (v := .int block) (C := RX6) (T := TX6) (N := 42) hx hb hts iX6 hown hK hP 0 rfl rfl 6 (Nat.le_of_ble_eq_true rfl) f69 (fun _ h9 => h9) rfl dX6_isFresh_24 ?_
    refine lv_iload_n hx hb dX6_isFresh_27 rfl (lv_at hl 1 rfl) ?_
    refine lv_imul hx hb dX6_isFresh_28 ?_
    refine lv_istore_n (lv' := [(2, .int (block * x1)), (0, .ref (ad 0)), (1, .int x1)]) hx hb dX6_isFresh_29 rfl hl (by decide) rfl (fun ls hl => ?_)
    have hL30 : ∀ (n : Nat) (x1 : Int32) (x2 : Int32) (ls : Array Slot) (H : Heap) (locs : List Loc), lv_has ls 3 [(0, .ref (ad 0)), (1, .int x1), (2, .int x2)] → va_P D vwCl (wX6 cA ad thrown tape taped value weight many block ties lines pastValue pastWeight pastMany undos fresh newValue newWeight newMany newBlock newTies newLines hasBlock hasTies size att place sort number fault faultPlace lastFault lastPlace toValue toWeight toMany often firstOf lastOf unlikes unlikeMany isCandidate modes fewest) H → va_D A (wX6 cA ad thrown tape taped value weight many block ties lines pastValue pastWeight pastMany undos fresh newValue newWeight newMany newBlock newTies newLines hasBlock hasTies size att place sort number fault faultPlace lastFault lastPlace toValue toWeight toMany often firstOf lastOf unlikes unlikeMany isCandidate modes fewest) → va_S A s.heap H locs → mX6_isFresh_L30 value many block toValue toMany x1 n x2 = some q → W p l e (headSpec wsX6_isFresh { frames := 1, cells := 0, slots := 0, locals := 23 }).room s m args below meth c H locs 0 0 Q (F0 m 30 ls []) := by
      intro n
      induction n with
      | zero => intro x1 x2 ls H locs hl hP hD hS h; exact e_n h
      | succ n ih30 =>
        intro x1 x2 ls H locs hl hP hD hS h
        rw [mX6_isFresh_L30.eq_2] at h
        refine lv_iload_n hx hb dX6_isFresh_30 rfl (lv_at hl 2 rfl) ?_
        refine lv_aload_n hx hb dX6_isFresh_31 rfl (lv_at hl 0 rfl) ?_
        refine va_get (D := D) (ci := 6) (v := .int block) (C := RX6) (T := TX6) (N := 42) hx hb hts iX6 hown hK hP 0 rfl rfl 6 (Nat.le_of_ble_eq_true rfl) f69 (fun _ h9 => h9) rfl dX6_isFresh_32 ?_
        refine lv_iload_n hx hb dX6_isFresh_35 rfl (lv_at hl 1 rfl) ?_
        refine lv_imul hx hb dX6_isFresh_36 ?_
        refine lv_aload_n hx hb dX6_isFresh_37 rfl (lv_at hl 0 rfl) ?_
        refine va_get (D := D) (ci := 6) (v := .int block) (C := RX6) (T := TX6) (N := 42) hx hb hts iX6 hown hK hP 0 rfl rfl 6 (Nat.le_of_ble_eq_true rfl) f69 (fun _ h9 => h9) rfl dX6_isFresh_38 ?_
        refine lv_iadd hx hb dX6_isFresh_41 ?_
        refine lv_icmp_ge (tgt := 84) hx hb dX6_isFresh_42 (by decide) (fun c5 => ?_) (fun c5 => ?_)
        · have h := e_t c5 h
          refine lv_iconst (v := 0) hx hb dX6_isFresh_84 (by decide) ?_
          obtain rfl := e_s h
          exact hret hP hS (show narrow .boolean (.int 0) = .int 0 from rfl) dX6_isFresh_85
        · have h := e_f c5 h
          refine lv_iload_n hx hb dX6_isFresh_45 rfl (lv_at hl 2 rfl) ?_
          refine lv_aload_n hx hb dX6_isFresh_46 rfl (lv_at hl 0 rfl) ?_
          refine va_get (D := D) (ci := 6) (v := .int toMany) (C := RX6) (T := TX6) (N := 42) hx hb hts iX6 hown hK hP 0 rfl rfl 33 (Nat.le_of_ble_eq_true rfl) f197 (fun _ h9 => h9) rfl dX6_isFresh_47 ?_
          refine lv_icmp_ge (tgt := 84) hx hb dX6_isFresh_50 (by decide) (fun c6 => ?_) (fun c6 => ?_)
          · have h := e_t c6 h
            refine lv_iconst (v := 0) hx hb dX6_isFresh_84 (by decide) ?_
            obtain rfl := e_s h
            exact hret hP hS (show narrow .boolean (.int 0) = .int 0 from rfl) dX6_isFresh_85
          · have h := e_f c6 h
            refine lv_iload_n hx hb dX6_isFresh_53 rfl (lv_at hl 2 rfl) ?_
            refine lv_aload_n hx hb dX6_isFresh_54 rfl (lv_at hl 0 rfl) ?_
            refine va_get (D := D) (ci := 6) (v := .int many) (C := RX6) (T := TX6) (N := 42) hx hb hts iX6 hown hK hP 0 rfl rfl 5 (Nat.le_of_ble_eq_true rfl) f175 (fun _ h9 => h9) rfl dX6_isFresh_55 ?_
            refine lv_icmp_ge (tgt := 76) hx hb dX6_isFresh_58 (by decide) (fun c7 => ?_) (fun c7 => ?_)
            · have h := e_t c7 h
              refine lv_iconst (v := 1) hx hb dX6_isFresh_76 (by decide) ?_
              obtain rfl := e_s h
              exact hret hP hS (show narrow .boolean (.int 1) = .int 1 from rfl) dX6_isFresh_77
            · have h := e_f c7 h
              refine lv_aload_n hx hb dX6_isFresh_61 rfl (lv_at hl 0 rfl) ?_
              refine va_get (D := D) (ci := 6) (v := .ref (ad 9)) (C := RX6) (T := TX6) (N := 42) hx hb hts iX6 hown hK hP 0 rfl rfl 31 (Nat.le_of_ble_eq_true rfl) f41 (fun _ h9 => h9) rfl dX6_isFresh_62 ?_
              refine lv_iload_n hx hb dX6_isFresh_65 rfl (lv_at hl 2 rfl) ?_
              obtain ⟨v8, ev8, nv8, h⟩ := e_rd h
              refine xa_iald hx hb hK hP 9 rfl nv8 ev8 dX6_isFresh_66 ?_
              refine lv_aload_n hx hb dX6_isFresh_67 rfl (lv_at hl 0 rfl) ?_
              refine va_get (D := D) (ci := 6) (v := .ref (ad 2)) (C := RX6) (T := TX6) (N := 42) hx hb hts iX6 hown hK hP 0 rfl rfl 3 (Nat.le_of_ble_eq_true rfl) f13 (fun _ h9 => h9) rfl dX6_isFresh_68 ?_
              refine lv_iload_n hx hb dX6_isFresh_71 rfl (lv_at hl 2 rfl) ?_
              obtain ⟨v9, ev9, nv9, h⟩ := e_rd h
              refine xa_iald hx hb hK hP 2 rfl nv9 ev9 dX6_isFresh_72 ?_
              refine lv_icmp_eq (tgt := 78) hx hb dX6_isFresh_73 (by decide) (fun c10 => ?_) (fun c10 => ?_)
              · have h := e_t c10 h
                refine lv_iinc (v := (x2 + 1)) (lv' := [(2, .int (x2 + 1)), (0, .ref (ad 0)), (1, .int x1)]) hx hb dX6_isFresh_78 hl (k := 2) rfl rfl (by decide) rfl (fun ls hl => ?_)
                refine lv_goto (tgt := 30) hx hb dX6_isFresh_81 (by decide) ?_
                exact ih30 x1 (x2 + 1) _ _ _ (lv_sub hl [1, 2, 0] rfl) hP hD hS h
              · have h := e_f c10 h
                refine lv_iconst (v := 1) hx hb dX6_isFresh_76 (by decide) ?_
                obtain rfl := e_s h
                exact hret hP hS (show narrow .boolean (.int 1) = .int 1 from rfl) dX6_isFresh_77
    exact hL30 FU x1 (block * x1) _ _ _ (lv_sub hl [1, 2, 0] rfl) hP hD hS h
  · have h := e_f c3 h
    refine lv_iconst (v := 1) hx hb dX6_isFresh_21 (by decide) ?_
    obtain rfl := e_s h
    exact hret hP hS (show narrow .boolean (.int 1) = .int 1 from rfl) dX6_isFresh_22
set_option maxHeartbeats 4000000 in
set_option maxRecDepth 100000 in
theorem kX6_freshPairs (l : Launch) (D : va_G) (cA : Nat → ClassId) (ad : Nat → Nat) (thrown : Int32) (tape : Nat → Int32) (taped : Int32) (value : Nat → Int32) (weight : Nat → Int32) (many : Int32) (block : Int32) (ties : Int32) (lines : Int32) (pastValue : Nat → Int32) (pastWeight : Nat → Int32) (pastMany : Nat → Int32) (undos : Int32) (fresh : Int32) (newValue : Nat → Int32) (newWeight : Nat → Int32) (newMany : Int32) (newBlock : Int32) (newTies : Int32) (newLines : Int32) (hasBlock : Int32) (hasTies : Int32) (size : Int32) (att : Int32) (place : Int32) (sort : Int32) (number : Int32) (fault : Int32) (faultPlace : Int32) (lastFault : Int32) (lastPlace : Int32) (toValue : Nat → Int32) (toWeight : Nat → Int32) (toMany : Int32) (often : Nat → Int32) (firstOf : Nat → Int32) (lastOf : Nat → Int32) (unlikes : Nat → Int32) (unlikeMany : Int32) (isCandidate : Nat → Int32) (modes : Nat → Int32) (fewest : Nat → Int32)  (q : Int32) (h : mX6_freshPairs value many block toValue toMany  = some q) : MI l yX6_freshPairs wsX6_freshPairs { frames := 2, cells := 0, slots := 0, locals := 45 } D cA .int [.ref (ad 0)] (wX6 cA ad thrown tape taped value weight many block ties lines pastValue pastWeight pastMany undos fresh newValue newWeight newMany newBlock newTies newLines hasBlock hasTies size att place sort number fault faultPlace lastFault lastPlace toValue toWeight toMany often firstOf lastOf unlikes unlikeMany isCandidate modes fewest) (wX6 cA ad thrown tape taped value weight many block ties lines pastValue pastWeight pastMany undos fresh newValue newWeight newMany newBlock newTies newLines hasBlock hasTies size att place sort number fault faultPlace lastFault lastPlace toValue toWeight toMany often firstOf lastOf unlikes unlikeMany isCandidate modes fewest) q := by
  refine MI.of (cc := cX6_freshPairs) (maxL := 6) (by decide +kernel) rfl rfl rfl (Nat.le_of_ble_eq_true rfl) ?_
  intro p e s m args below meth c A ls Q hx hb hml hts hown hK hP hD hA hS hl hret
  have hl : lv_has ls 6 [(0, .ref (ad 0))] := hl
  have f197 := hts (.fieldLink RX6 197 "ModeDeskModel" "toMany" "I") (by decide +kernel)
  have f69 := hts (.fieldLink RX6 69 "ModeDeskModel" "block" "I") (by decide +kernel)
  have iX6 : ∀ w ∈ wsX60, w ∈ wsX6_freshPairs := by decide +kernel
  unfold mX6_freshPairs at h
  refine lv_aload_n hx hb dX6_freshPairs_0 rfl (lv_at hl 0 rfl) ?_
  refine va_get (D := D) (ci := 6) (v := .int toMany) (C := RX6) (T := TX6) (N := 42) hx hb hts iX6 hown hK hP 0 rfl rfl 33 (Nat.le_of_ble_eq_true rfl) f197 (fun _ h9 => h9) rfl dX6_freshPairs_1 ?_
  refine lv_aload_n hx hb dX6_freshPairs_4 rfl (lv_at hl 0 rfl) ?_
  refine va_get (D := D) (ci := 6) (v := .int block) (C := RX6) (T := TX6) (N := 42) hx hb hts iX6 hown hK hP 0 rfl rfl 6 (Nat.le_of_ble_eq_true rfl) f69 (fun _ h9 => h9) rfl dX6_freshPairs_5 ?_
  refine lv_iadd hx hb dX6_freshPairs_8 ?_
  refine lv_iconst (v := 1) hx hb dX6_freshPairs_9 (by decide) ?_
  refine lv_isub hx hb dX6_freshPairs_10 ?_
  refine lv_aload_n hx hb dX6_freshPairs_11 rfl (lv_at hl 0 rfl) ?_
  refine va_get (D := D) (ci := 6) (v := .int block) (C := RX6) (T := TX6) (N := 42) hx hb hts iX6 hown hK hP 0 rfl rfl 6 (Nat.le_of_ble_eq_true rfl) f69 (fun _ h9 => h9) rfl dX6_freshPairs_12 ?_
  obtain ⟨v1, ev1, nv1, h⟩ := e_dv h
  refine xa_idiv hx hb dX6_freshPairs_15 nv1 ev1 ?_
  refine lv_istore_n (lv' := [(1, .int v1), (0, .ref (ad 0))]) hx hb dX6_freshPairs_16 rfl hl (by decide) rfl (fun ls hl => ?_)
  refine lv_iconst (v := 0) hx hb dX6_freshPairs_17 (by decide) ?_
  refine lv_istore_n (lv' := [(2, .int 0), (1, .int v1), (0, .ref (ad 0))]) hx hb dX6_freshPairs_18 rfl hl (by decide) rfl (fun ls hl => ?_)
  refine lv_iconst (v := 0) hx hb dX6_freshPairs_19 (by decide) ?_
  refine lv_istore_n (lv' := [(3, .int 0), (2, .int 0), (1, .int v1), (0, .ref (ad 0))]) hx hb dX6_freshPairs_20 rfl hl (by decide) rfl (fun ls hl => ?_)
  have hL21 : ∀ (n : Nat) (x1 : Int32) (x2 : Int32) (x3 : Int32) (thrown : Int32) (tape : Nat → Int32) (taped : Int32) (value : Nat → Int32) (weight : Nat → Int32) (many : Int32) (block : Int32) (ties : Int32) (lines : Int32) (pastValue : Nat → Int32) (pastWeight : Nat → Int32) (pastMany : Nat → Int32) (undos : Int32) (fresh : Int32) (newValue : Nat → Int32) (newWeight : Nat → Int32) (newMany : Int32) (newBlock : Int32) (newTies : Int32) (newLines : Int32) (hasBlock : Int32) (hasTies : Int32) (size : Int32) (att : Int32) (place : Int32) (sort : Int32) (number : Int32) (fault : Int32) (faultPlace : Int32) (lastFault : Int32) (lastPlace : Int32) (toValue : Nat → Int32) (toWeight : Nat → Int32) (toMany : Int32) (often : Nat → Int32) (firstOf : Nat → Int32) (lastOf : Nat → Int32) (unlikes : Nat → Int32) (unlikeMany : Int32) (isCandidate : Nat → Int32) (modes : Nat → Int32) (fewest : Nat → Int32) (z2 : Int32) (ls : Array Slot) (H : Heap) (locs : List Loc), lv_has ls 6 [(0, .ref (ad 0)), (1, .int x1), (2, .int x2), (3, .int x3)] → va_P D vwCl (wX6 cA ad thrown tape taped value weight many block ties lines pastValue pastWeight pastMany undos fresh newValue newWeight newMany newBlock newTies newLines hasBlock hasTies size att place sort number fault faultPlace lastFault lastPlace toValue toWeight toMany often firstOf lastOf unlikes unlikeMany isCandidate modes fewest) H → va_D A (wX6 cA ad thrown tape taped value weight many block ties lines pastValue pastWeight pastMany undos fresh newValue newWeight newMany newBlock newTies newLines hasBlock hasTies size att place sort number fault faultPlace lastFault lastPlace toValue toWeight toMany often firstOf lastOf unlikes unlikeMany isCandidate modes fewest) → va_S A s.heap H locs → mX6_freshPairs_L21 value many block toValue toMany x1 n x2 x3 = some z2 → (∀ (ls : Array Slot) (H : Heap) (locs : List Loc), lv_has ls 6 [(2, .int z2)] → va_P D vwCl (wX6 cA ad thrown tape taped value weight many block ties lines pastValue pastWeight pastMany undos fresh newValue newWeight newMany newBlock newTies newLines hasBlock hasTies size att place sort number fault faultPlace lastFault lastPlace toValue toWeight toMany often firstOf lastOf unlikes unlikeMany isCandidate modes fewest) H → va_D A (wX6 cA ad thrown tape taped value weight many block ties lines pastValue pastWeight pastMany undos fresh newValue newWeight newMany newBlock newTies newLines hasBlock hasTies size att place sort number fault faultPlace lastFault lastPlace toValue toWeight toMany often firstOf lastOf unlikes unlikeMany isCandidate modes fewest) → va_S A s.heap H locs → W p l e (headSpec wsX6_freshPairs { frames := 2, cells := 0, slots := 0, locals := 45 }).room s m args below meth c H locs 0 0 Q (F0 m 84 ls [])) → W p l e (headSpec wsX6_freshPairs { frames := 2, cells := 0, slots := 0, locals := 45 }).room s m args below meth c H locs 0 0 Q (F0 m 21 ls []) := by
    intro n
    induction n with
    | zero => intro x1 x2 x3 thrown tape taped value weight many block ties lines pastValue pastWeight pastMany undos fresh newValue newWeight newMany newBlock newTies newLines hasBlock hasTies size att place sort number fault faultPlace lastFault lastPlace toValue toWeight toMany often firstOf lastOf unlikes unlikeMany isCandidate modes fewest z2 ls H locs hl hP hD hS h hk21; exact e_n h
    | succ n ih21 =>
      intro x1 x2 x3 thrown tape taped value weight many block ties lines pastValue pastWeight pastMany undos fresh newValue newWeight newMany newBlock newTies newLines hasBlock hasTies size att place sort number fault faultPlace lastFault lastPlace toValue toWeight toMany often firstOf lastOf unlikes unlikeMany isCandidate modes fewest z2 ls H locs hl hP hD hS h hk21
      rw [mX6_freshPairs_L21.eq_2] at h
      refine lv_iload_n hx hb dX6_freshPairs_21 rfl (lv_at hl 3 rfl) ?_
      refine lv_iload_n hx hb dX6_freshPairs_22 rfl (lv_at hl 1 rfl) ?_
      refine lv_icmp_ge (tgt := 84) hx hb dX6_freshPairs_23 (by decide) (fun c3 => ?_) (fun c3 => ?_)
      · have h := e_t c3 h
        obtain rfl := e_s h
        exact hk21 _ _ _ (lv_sub hl [2] rfl) hP hD hS
      · have h := e_f c3 h
        refine lv_iconst (v := 0) hx hb dX6_freshPairs_26 (by decide) ?_
        refine lv_istore (lv' := [(4, .int 0), (0, .ref (ad 0)), (1, .int x1), (2, .int x2), (3, .int x3)]) hx hb dX6_freshPairs_27 hl (by decide) rfl (fun ls hl => ?_)
        refine lv_iload_n hx hb dX6_freshPairs_29 rfl (lv_at hl 4 rfl) ?_
        refine lv_istore (lv' := [(5, .int x3), (4, .int 0), (0, .ref (ad 0)), (1, .int x1), (2, .int x2), (3, .int x3)]) hx hb dX6_freshPairs_30 hl (by decide) rfl (fun ls hl => ?_)
        have hL32 : ∀ (n : Nat) (x1 : Int32) (x2 : Int32) (x3 : Int32) (x4 : Int32) (x5 : Int32) (thrown : Int32) (tape : Nat → Int32) (taped : Int32) (value : Nat → Int32) (weight : Nat → Int32) (many : Int32) (block : Int32) (ties : Int32) (lines : Int32) (pastValue : Nat → Int32) (pastWeight : Nat → Int32) (pastMany : Nat → Int32) (undos : Int32) (fresh : Int32) (newValue : Nat → Int32) (newWeight : Nat → Int32) (newMany : Int32) (newBlock : Int32) (newTies : Int32) (newLines : Int32) (hasBlock : Int32) (hasTies : Int32) (size : Int32) (att : Int32) (place : Int32) (sort : Int32) (number : Int32) (fault : Int32) (faultPlace : Int32) (lastFault : Int32) (lastPlace : Int32) (toValue : Nat → Int32) (toWeight : Nat → Int32) (toMany : Int32) (often : Nat → Int32) (firstOf : Nat → Int32) (lastOf : Nat → Int32) (unlikes : Nat → Int32) (unlikeMany : Int32) (isCandidate : Nat → Int32) (modes : Nat → Int32) (fewest : Nat → Int32) (z4 : Int32) (ls : Array Slot) (H : Heap) (locs : List Loc), lv_has ls 6 [(0, .ref (ad 0)), (1, .int x1), (2, .int x2), (3, .int x3), (4, .int x4), (5, .int x5)] → va_P D vwCl (wX6 cA ad thrown tape taped value weight many block ties lines pastValue pastWeight pastMany undos fresh newValue newWeight newMany newBlock newTies newLines hasBlock hasTies size att place sort number fault faultPlace lastFault lastPlace toValue toWeight toMany often firstOf lastOf unlikes unlikeMany isCandidate modes fewest) H → va_D A (wX6 cA ad thrown tape taped value weight many block ties lines pastValue pastWeight pastMany undos fresh newValue newWeight newMany newBlock newTies newLines hasBlock hasTies size att place sort number fault faultPlace lastFault lastPlace toValue toWeight toMany often firstOf lastOf unlikes unlikeMany isCandidate modes fewest) → va_S A s.heap H locs → mX6_freshPairs_L32 value many block toValue toMany x1 n x2 x4 x5 = some z4 → (∀ (ls : Array Slot) (H : Heap) (locs : List Loc), lv_has ls 6 [(0, .ref (ad 0)), (1, .int x1), (2, .int z4), (3, .int x3)] → va_P D vwCl (wX6 cA ad thrown tape taped value weight many block ties lines pastValue pastWeight pastMany undos fresh newValue newWeight newMany newBlock newTies newLines hasBlock hasTies size att place sort number fault faultPlace lastFault lastPlace toValue toWeight toMany often firstOf lastOf unlikes unlikeMany isCandidate modes fewest) H → va_D A (wX6 cA ad thrown tape taped value weight many block ties lines pastValue pastWeight pastMany undos fresh newValue newWeight newMany newBlock newTies newLines hasBlock hasTies size att place sort number fault faultPlace lastFault lastPlace toValue toWeight toMany often firstOf lastOf unlikes unlikeMany isCandidate modes fewest) → va_S A s.heap H locs → W p l e (headSpec wsX6_freshPairs { frames := 2, cells := 0, slots := 0, locals := 45 }).room s m args below meth c H locs 0 0 Q (F0 m 78 ls [])) → W p l e (headSpec wsX6_freshPairs { frames := 2, cells := 0, slots := 0, locals := 45 }).room s m args below meth c H locs 0 0 Q (F0 m 32 ls []) := by
          intro n
          induction n with
          | zero => intro x1 x2 x3 x4 x5 thrown tape taped value weight many block ties lines pastValue pastWeight pastMany undos fresh newValue newWeight newMany newBlock newTies newLines hasBlock hasTies size att place sort number fault faultPlace lastFault lastPlace toValue toWeight toMany often firstOf lastOf unlikes unlikeMany isCandidate modes fewest z4 ls H locs hl hP hD hS h hk32; exact e_n h
          | succ n ih32 =>
            intro x1 x2 x3 x4 x5 thrown tape taped value weight many block ties lines pastValue pastWeight pastMany undos fresh newValue newWeight newMany newBlock newTies newLines hasBlock hasTies size att place sort number fault faultPlace lastFault lastPlace toValue toWeight toMany often firstOf lastOf unlikes unlikeMany isCandidate modes fewest z4 ls H locs hl hP hD hS h hk32
            rw [mX6_freshPairs_L32.eq_2] at h
            refine lv_iload hx hb dX6_freshPairs_32 (lv_at hl 5 rfl) ?_
            refine lv_iload_n hx hb dX6_freshPairs_34 rfl (lv_at hl 1 rfl) ?_
            refine lv_icmp_ge (tgt := 78) hx hb dX6_freshPairs_35 (by decide) (fun c5 => ?_) (fun c5 => ?_)
            · have h := e_t c5 h
              obtain rfl := e_s h
              exact hk32 _ _ _ (lv_sub hl [0, 1, 2, 3] rfl) hP hD hS
            · have h := e_f c5 h
              refine lv_iload hx hb dX6_freshPairs_38 (lv_at hl 4 rfl) ?_
              obtain ⟨z6, ez6, h⟩ := e_b h
              have hJ7 : ∀ (ls : Array Slot) (H : Heap) (locs : List Loc), lv_has ls 6 [(0, .ref (ad 0)), (1, .int x1), (2, .int x2), (3, .int x3), (5, .int x5)] → va_P D vwCl (wX6 cA ad thrown tape taped value weight many block ties lines pastValue pastWeight pastMany undos fresh newValue newWeight newMany newBlock newTies newLines hasBlock hasTies size att place sort number fault faultPlace lastFault lastPlace toValue toWeight toMany often firstOf lastOf unlikes unlikeMany isCandidate modes fewest) H → va_D A (wX6 cA ad thrown tape taped value weight many block ties lines pastValue pastWeight pastMany undos fresh newValue newWeight newMany newBlock newTies newLines hasBlock hasTies size att place sort number fault faultPlace lastFault lastPlace toValue toWeight toMany often firstOf lastOf unlikes unlikeMany isCandidate modes fewest) → va_S A s.heap H locs → W p l e (headSpec wsX6_freshPairs { frames := 2, cells := 0, slots := 0, locals := 45 }).room s m args below meth c H locs 0 0 Q (F0 m 57 ls [.int z6]) := by
                intro ls H locs hl hP hD hS
                refine lv_istore (lv' := [(4, .int z6), (0, .ref (ad 0)), (1, .int x1), (2, .int x2), (3, .int x3), (5, .int x5)]) hx hb dX6_freshPairs_57 hl (by decide) rfl (fun ls hl => ?_)
                refine lv_iload_n hx hb dX6_freshPairs_59 rfl (lv_at hl 3 rfl) ?_
                refine lv_iload hx hb dX6_freshPairs_60 (lv_at hl 0 rfl) ?_
                refine lv_if_eq (tgt := 69) hx hb dX6_freshPairs_62 (by decide) (fun c8 => ?_) (fun c8 => ?_)
                · have h := e_t c8 h
                  refine lv_iconst (v := 0) hx hb dX6_freshPairs_69 (by decide) ?_
                  refine lv_iadd hx hb dX6_freshPairs_70 ?_
                  refine lv_istore_n (lv' := [(2, .int (x2 + 0)), (4, .int z6), (0, .ref (ad 0)), (1, .int x1), (3, .int x3), (5, .int x5)]) hx hb dX6_freshPairs_71 rfl hl (by decide) rfl (fun ls hl => ?_)
                  refine lv_iinc (v := (x5 + 1)) (lv' := [(5, .int (x5 + 1)), (2, .int (x2 + 0)), (4, .int z6), (0, .ref (ad 0)), (1, .int x1), (3, .int x3)]) hx hb dX6_freshPairs_72 hl (k := 5) rfl rfl (by decide) rfl (fun ls hl => ?_)
                  refine lv_goto (tgt := 32) hx hb dX6_freshPairs_75 (by decide) ?_
                  exact ih32 x1 (x2 + 0) x3 z6 (x5 + 1) thrown tape taped value weight many block ties lines pastValue pastWeight pastMany undos fresh newValue newWeight newMany newBlock newTies newLines hasBlock hasTies size att place sort number fault faultPlace lastFault lastPlace toValue toWeight toMany often firstOf lastOf unlikes unlikeMany isCandidate modes fewest z4 _ _ _ (lv_sub hl [3, 4, 1, 5, 2, 0] rfl) hP hD hS h hk32
                · have h := e_f c8 h
                  refine lv_iconst (v := 1) hx hb dX6_freshPairs_65 (by decide) ?_
                  refine lv_goto (tgt := 70) hx hb dX6_freshPairs_66 (by decide) ?_
                  refine lv_iadd hx hb dX6_freshPairs_70 ?_
                  refine lv_istore_n (lv' := [(2, .int (x2 + 1)), (4, .int z6), (0, .ref (ad 0)), (1, .int x1), (3, .int x3), (5, .int x5)]) hx hb dX6_freshPairs_71 rfl hl (by decide) rfl (fun ls hl => ?_)
                  refine lv_iinc (v := (x5 + 1)) (lv' := [(5, .int (x5 + 1)), (2, .int (x2 + 1)), (4, .int z6), (0, .ref (ad 0)), (1, .int x1), (3, .int x3)]) hx hb dX6_freshPairs_72 hl (k := 5) rfl rfl (by decide) rfl (fun ls hl => ?_)
                  refine lv_goto (tgt := 32) hx hb dX6_freshPairs_75 (by decide) ?_
                  exact ih32 x1 (x2 + 1) x3 z6 (x5 + 1) thrown tape taped value weight many block ties lines pastValue pastWeight pastMany undos fresh newValue newWeight newMany newBlock newTies newLines hasBlock hasTies size att place sort number fault faultPlace lastFault lastPlace toValue toWeight toMany often firstOf lastOf unlikes unlikeMany isCandidate modes fewest z4 _ _ _ (lv_sub hl [3, 4, 1, 5, 2, 0] rfl) hP hD hS h hk32
              have h := ez6
              refine lv_if_ne (tgt := 52) hx hb dX6_freshPairs_40 (by decide) (fun c9 => ?_) (fun c9 => ?_)
              · have h := e_t c9 h
                refine lv_iconst (v := 1) hx hb dX6_freshPairs_52 (by decide) ?_
                refine lv_goto (tgt := 57) hx hb dX6_freshPairs_53 (by decide) ?_
                obtain rfl := e_s h
                exact hJ7 _ _ _ (lv_sub hl [0, 1, 2, 3, 5] rfl) hP hD hS
              · have h := e_f (not_not_intro c9) h
                refine lv_aload_n hx hb dX6_freshPairs_43 rfl (lv_at hl 0 rfl) ?_
                refine lv_iload hx hb dX6_freshPairs_44 (lv_at hl 5 rfl) ?_
                obtain ⟨q10, eq10, h⟩ := e_b h
                refine xv_i0 (As := [.int x5]) (rest := []) (ci := 6) (b := ad 0) ⟨hx, hb, hml, hown, hts⟩ hl.1 (kX6_isFresh l D cA ad thrown tape taped value weight many block ties lines pastValue pastWeight pastMany undos fresh newValue newWeight newMany newBlock newTies newLines hasBlock hasTies size att place sort number fault faultPlace lastFault lastPlace toValue toWeight toMany often firstOf lastOf unlikes unlikeMany isCandidate modes fewest x5  _ eq10) (cwV 1 hts gX6_freshPairs_X6_isFresh rfl rfl rfl (by decide +kernel) ⟨Nat.le_of_ble_eq_true rfl, Nat.le_of_ble_eq_true rfl⟩) rfl hK hP hD hS hA 0 rfl rfl rfl rfl (Nat.le_of_ble_eq_true rfl) dX6_freshPairs_46 ⟨Nat.zero_le _, Nat.zero_le _⟩ (fun H locs hP hD hS hnq10 => ?_)
                have hP : va_P D vwCl (wX6 cA ad thrown tape taped value weight many block ties lines pastValue pastWeight pastMany undos fresh newValue newWeight newMany newBlock newTies newLines hasBlock hasTies size att place sort number fault faultPlace lastFault lastPlace toValue toWeight toMany often firstOf lastOf unlikes unlikeMany isCandidate modes fewest) H := hP
                have hD : va_D A (wX6 cA ad thrown tape taped value weight many block ties lines pastValue pastWeight pastMany undos fresh newValue newWeight newMany newBlock newTies newLines hasBlock hasTies size att place sort number fault faultPlace lastFault lastPlace toValue toWeight toMany often firstOf lastOf unlikes unlikeMany isCandidate modes fewest) := hD
                refine lv_if_eq (tgt := 56) hx hb dX6_freshPairs_49 (by decide) (fun c11 => ?_) (fun c11 => ?_)
                · have h := e_t c11 h
                  refine lv_iconst (v := 0) hx hb dX6_freshPairs_56 (by decide) ?_
                  obtain rfl := e_s h
                  exact hJ7 _ _ _ (lv_sub hl [0, 1, 2, 3, 5] rfl) hP hD hS
                · have h := e_f c11 h
                  refine lv_iconst (v := 1) hx hb dX6_freshPairs_52 (by decide) ?_
                  refine lv_goto (tgt := 57) hx hb dX6_freshPairs_53 (by decide) ?_
                  obtain rfl := e_s h
                  exact hJ7 _ _ _ (lv_sub hl [0, 1, 2, 3, 5] rfl) hP hD hS
        obtain ⟨z12, ez12, h⟩ := e_b h
        refine hL32 FU x1 x2 x3 0 x3 thrown tape taped value weight many block ties lines pastValue pastWeight pastMany undos fresh newValue newWeight newMany newBlock newTies newLines hasBlock hasTies size att place sort number fault faultPlace lastFault lastPlace toValue toWeight toMany often firstOf lastOf unlikes unlikeMany isCandidate modes fewest z12 _ _ _ (lv_sub hl [2, 3, 4, 5, 1, 0] rfl) hP hD hS ez12 (fun ls H locs hl hP hD hS => ?_)
        refine lv_iinc (v := (x3 + 1)) (lv' := [(3, .int (x3 + 1)), (0, .ref (ad 0)), (1, .int x1), (2, .int z12)]) hx hb dX6_freshPairs_78 hl (k := 3) rfl rfl (by decide) rfl (fun ls hl => ?_)
        refine lv_goto (tgt := 21) hx hb dX6_freshPairs_81 (by decide) ?_
        exact ih21 x1 z12 (x3 + 1) thrown tape taped value weight many block ties lines pastValue pastWeight pastMany undos fresh newValue newWeight newMany newBlock newTies newLines hasBlock hasTies size att place sort number fault faultPlace lastFault lastPlace toValue toWeight toMany often firstOf lastOf unlikes unlikeMany isCandidate modes fewest z2 _ _ _ (lv_sub hl [1, 2, 3, 0] rfl) hP hD hS h hk21
  obtain ⟨z13, ez13, h⟩ := e_b h
  refine hL21 FU v1 0 0 thrown tape taped value weight many block ties lines pastValue pastWeight pastMany undos fresh newValue newWeight newMany newBlock newTies newLines hasBlock hasTies size att place sort number fault faultPlace lastFault lastPlace toValue toWeight toMany often firstOf lastOf unlikes unlikeMany isCandidate modes fewest z13 _ _ _ (lv_sub hl [3, 2, 1, 0] rfl) hP hD hS ez13 (fun ls H locs hl hP hD hS => ?_)
  refine lv_iload_n hx hb dX6_freshPairs_84 rfl (lv_at hl 0 rfl) ?_
  obtain rfl := e_s h
  exact hret hP hS rfl dX6_freshPairs_85

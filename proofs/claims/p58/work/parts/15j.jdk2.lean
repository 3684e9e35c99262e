set_option maxHeartbeats 4000000 in
set_option maxRecDepth 100000 in
theorem kT_coder (l : Launch) (D : va_G) (cA : Nat → ClassId) (n : Nat) (bs : List Int32) (a v : Nat) (hn9 : n < 1000)  : MXi l yJ0_coder_7d493 wsJ0_coder_7d493 { frames := 0, cells := 0, slots := 0, locals := 0 } D cA (ES n bs a v) .byte [.ref a] [] (fun u => []) (fun _ => True) (fun _ => 0) 0 0 := by
  refine MXi.of (cc := cJ0_coder_7d493) (maxL := 1) (by decide +kernel) rfl (Nat.le_of_ble_eq_true rfl) ?_
  intro p e s m args below meth c A ls Q hx hb hml hin hts hown hK hE hP hD hA hS hl hret
  have hl : lv_has ls 1 [(0, .ref a)] := hl
  refine va_gets (v := .int 1) hx hb hE.1 hS hown (hts (.fieldLink RJ0 38 "java/lang/String" "COMPACT_STRINGS" "Z") (by decide +kernel)) (fun _ h => h) dJ0_coder_7d493_0 ?_
  refine lv_if_eq (tgt := 13) hx hb dJ0_coder_7d493_3 (by decide) (fun c9 => absurd c9 (by decide)) (fun _ => ?_)
  refine lv_aload_n hx hb dJ0_coder_7d493_6 rfl (lv_at hl 0 rfl) ?_
  refine vk_getf (v := .int 0) hx hb ((hE.2.1.1 0 (by decide)).2.1) hS hown (hts (.fieldLink RJ0 15 "java/lang/String" "coder" "B") (by decide +kernel)) (fun _ h => h) dJ0_coder_7d493_7 ?_
  refine lv_goto (tgt := 14) hx hb dJ0_coder_7d493_10 (by decide) ?_
  exact hret (fun _ => 0, fun _ => 0, 0) trivial hP hD hS rfl dJ0_coder_7d493_14
set_option maxHeartbeats 4000000 in
set_option maxRecDepth 100000 in
theorem kT_isLatin1 (l : Launch) (D : va_G) (cA : Nat → ClassId) (n : Nat) (bs : List Int32) (a v : Nat) (hn9 : n < 1000)  : MXi l yJ0_isLatin1_aae02 wsJ0_isLatin1_aae02 { frames := 0, cells := 0, slots := 0, locals := 0 } D cA (ES n bs a v) .boolean [.ref a] [] (fun u => []) (fun _ => True) (fun _ => 1) 0 0 := by
  refine MXi.of (cc := cJ0_isLatin1_aae02) (maxL := 1) (by decide +kernel) rfl (Nat.le_of_ble_eq_true rfl) ?_
  intro p e s m args below meth c A ls Q hx hb hml hin hts hown hK hE hP hD hA hS hl hret
  have hl : lv_has ls 1 [(0, .ref a)] := hl
  refine va_gets (v := .int 1) hx hb hE.1 hS hown (hts (.fieldLink RJ0 38 "java/lang/String" "COMPACT_STRINGS" "Z") (by decide +kernel)) (fun _ h => h) dJ0_isLatin1_aae02_0 ?_
  refine lv_if_eq (tgt := 17) hx hb dJ0_isLatin1_aae02_3 (by decide) (fun c9 => absurd c9 (by decide)) (fun _ => ?_)
  refine lv_aload_n hx hb dJ0_isLatin1_aae02_6 rfl (lv_at hl 0 rfl) ?_
  refine vk_getf (v := .int 0) hx hb ((hE.2.1.1 0 (by decide)).2.1) hS hown (hts (.fieldLink RJ0 15 "java/lang/String" "coder" "B") (by decide +kernel)) (fun _ h => h) dJ0_isLatin1_aae02_7 ?_
  refine lv_if_ne (tgt := 17) hx hb dJ0_isLatin1_aae02_10 (by decide) (fun c9 => absurd (rfl) c9) (fun _ => ?_)
  refine lv_iconst (v := 1) hx hb dJ0_isLatin1_aae02_13 (by decide) ?_
  refine lv_goto (tgt := 18) hx hb dJ0_isLatin1_aae02_14 (by decide) ?_
  exact hret (fun _ => 0, fun _ => 0, 0) trivial hP hD hS rfl dJ0_isLatin1_aae02_18
set_option maxHeartbeats 4000000 in
set_option maxRecDepth 100000 in
theorem kT_length (l : Launch) (D : va_G) (cA : Nat → ClassId) (n : Nat) (bs : List Int32) (a v : Nat) (hn9 : n < 1000)  : MXi l yJ0_length_8abf5 wsJ0_length_8abf5 { frames := 1, cells := 0, slots := 0, locals := 40 } D cA (ES n bs a v) .int [.ref a] [] (fun u => []) (fun _ => True) (fun _ => nI n) 0 0 := by
  refine MXi.of (cc := cJ0_length_8abf5) (maxL := 1) (by decide +kernel) rfl (Nat.le_of_ble_eq_true rfl) ?_
  intro p e s m args below meth c A ls Q hx hb hml hin hts hown hK hE hP hD hA hS hl hret
  have hl : lv_has ls 1 [(0, .ref a)] := hl
  refine lv_aload_n hx hb dJ0_length_8abf5_0 rfl (lv_at hl 0 rfl) ?_
  refine vk_getf (v := .ref v) hx hb ((hE.2.1.1 0 (by decide)).2.2.1) hS hown (hts (.fieldLink RJ0 9 "java/lang/String" "value" "[B") (by decide +kernel)) (fun _ h => h) dJ0_length_8abf5_1 ?_
  refine va_tlen (v := nI n) hx hb ((hE.2.1.1 0 (by decide)).2.2.2) hS rfl dJ0_length_8abf5_4 ?_
  refine lv_aload_n hx hb dJ0_length_8abf5_5 rfl (lv_at hl 0 rfl) ?_
  have hPc : va_P D vwCl ([] ++ []) _ := hP.sub [] rfl
  have hDc : va_D A ([] ++ []) := hD.sub [] (by decide +kernel) rfl
  refine xg_i (X := []) (W' := []) (xr_V (As := []) (rest := [.int (nI n)]) (b := a) ES_ok ((E_in ES_ok hE hDc hS hA)) ⟨hx, hb, hml, hown, hts⟩ hl.1 (kT_coder l D cA n bs a v hn9) (cwV 0 hts gJ0_length_8abf5_J0_coder_7d493 rfl rfl rfl (by decide +kernel) ⟨Nat.le_of_ble_eq_true rfl, Nat.le_of_ble_eq_true rfl⟩) rfl (vk_recv (i := 0) hE.2.1 (by decide) hS) hK hPc hDc (Nat.le_of_ble_eq_true rfl) dJ0_length_8abf5_6 ⟨Nat.le_of_ble_eq_true rfl, Nat.le_of_ble_eq_true rfl⟩) hPc hDc hS hA (fun u1 H locs hu1 hP hD hS hnu1 => ?_)
  have hP : va_P D vwCl [] H := hP
  have hD : va_D A [] := hD
  refine lv_ishr hx hb dJ0_length_8abf5_9 ?_
  refine lv_topi (fun y9 hy9 => ?_)
  obtain rfl : y9 = nI n := hy9.trans (sb_shr0 _)
  exact hret (fun _ => 0, fun _ => 0, 0) trivial hP hD hS rfl dJ0_length_8abf5_10
set_option maxHeartbeats 4000000 in
set_option maxRecDepth 100000 in
theorem kT_getBytes (l : Launch) (D : va_G) (cA : Nat → ClassId) (n : Nat) (bs : List Int32) (a v : Nat) (hn9 : n < 1000) (d k cap : Nat) (g : Nat → Int32) (hbf : sb_Fit (fun j => bs.getD j 0)) (hk : k + n ≤ cap) (hc : cap ≤ 1000) : MXv l yJ0_getBytes_840e7 wsJ0_getBytes_840e7 { frames := 1, cells := 0, slots := 0, locals := 90 } D cA (ES n bs a v) [.ref a, .ref d, .int (nI k), .int 0] [(d, .inl (cA 4, cap, .inl g))] (fun u => [(d, .inl (cA 4, cap, .inl (va_cpy (fun j => bs.getD j 0) g 0 k n)))]) (fun _ => True) 0 0 := by
  refine MXv.of (cc := cJ0_getBytes_840e7) (maxL := 4) (by decide) rfl (Nat.le_of_ble_eq_true rfl) ?_
  intro p e s m args below meth c A ls Q hx hb hml hin hts hown hK hE hP hD hA hS hl hret
  have hl : lv_has ls 4 [(0, .ref a), (1, .ref d), (2, .int (nI k)), (3, .int 0)] := hl
  refine lv_aload_n hx hb dJ0_getBytes_840e7_0 rfl (lv_at hl 0 rfl) ?_
  have hPc : va_P D vwCl ([(d, .inl (cA 4, cap, .inl g))] ++ []) _ := hP.sub [0] rfl
  have hDc : va_D A ([(d, .inl (cA 4, cap, .inl g))] ++ []) := hD.sub [0] (by decide +kernel) rfl
  refine xg_i (X := [(d, .inl (cA 4, cap, .inl g))]) (W' := []) (xr_V (As := []) (rest := []) (b := a) ES_ok ((E_in ES_ok hE hDc hS hA)) ⟨hx, hb, hml, hown, hts⟩ hl.1 (kT_coder l D cA n bs a v hn9) (cwV 0 hts gJ0_getBytes_840e7_J0_coder_7d493 rfl rfl rfl (by decide +kernel) ⟨Nat.le_of_ble_eq_true rfl, Nat.le_of_ble_eq_true rfl⟩) rfl (vk_recv (i := 0) hE.2.1 (by decide) hS) hK hPc hDc (Nat.le_of_ble_eq_true rfl) dJ0_getBytes_840e7_1 ⟨Nat.le_of_ble_eq_true rfl, Nat.le_of_ble_eq_true rfl⟩) hPc hDc hS hA (fun u1 H locs hu1 hP hD hS hnu1 => ?_)
  have hP : va_P D vwCl [(d, .inl (cA 4, cap, .inl g))] H := hP
  have hD : va_D A [(d, .inl (cA 4, cap, .inl g))] := hD
  refine lv_iload_n hx hb dJ0_getBytes_840e7_4 rfl (lv_at hl 3 rfl) ?_
  refine lv_icmp_ne (tgt := 28) hx hb dJ0_getBytes_840e7_5 (by decide) (fun c9 => absurd (rfl) c9) (fun _ => ?_)
  refine lv_aload_n hx hb dJ0_getBytes_840e7_8 rfl (lv_at hl 0 rfl) ?_
  refine vk_getf (v := .ref v) hx hb ((hE.2.1.1 0 (by decide)).2.2.1) hS hown (hts (.fieldLink RJ0 9 "java/lang/String" "value" "[B") (by decide +kernel)) (fun _ h => h) dJ0_getBytes_840e7_9 ?_
  refine lv_iconst (v := 0) hx hb dJ0_getBytes_840e7_12 (by decide) ?_
  refine lv_aload_n hx hb dJ0_getBytes_840e7_13 rfl (lv_at hl 1 rfl) ?_
  refine lv_iload_n hx hb dJ0_getBytes_840e7_14 rfl (lv_at hl 2 rfl) ?_
  refine lv_iload_n hx hb dJ0_getBytes_840e7_15 rfl (lv_at hl 3 rfl) ?_
  refine lv_ishl hx hb dJ0_getBytes_840e7_16 ?_
  refine lv_topi (fun y9 hy9 => ?_)
  obtain rfl : y9 = nI k := hy9.trans (sb_shl0 _)
  refine lv_aload_n hx hb dJ0_getBytes_840e7_17 rfl (lv_at hl 0 rfl) ?_
  refine vk_getf (v := .ref v) hx hb ((hE.2.1.1 0 (by decide)).2.2.1) hS hown (hts (.fieldLink RJ0 9 "java/lang/String" "value" "[B") (by decide +kernel)) (fun _ h => h) dJ0_getBytes_840e7_18 ?_
  refine va_tlen (v := nI n) hx hb ((hE.2.1.1 0 (by decide)).2.2.2) hS rfl dJ0_getBytes_840e7_21 ?_
  refine vk_copyt hx hb (by rw [hml, hl.1]) hown (hts (.methodLink RJ0 212 arraycopyName) (by decide +kernel)) (hts (.native arraycopyName) (by decide +kernel)) (hts (.static arraycopyName) (by decide +kernel)) (hts (.initialized "java/lang/System") (by decide +kernel)) hK hP hD hS (f := fun j => bs.getD j 0) ((hE.2.1.1 0 (by decide)).2.2.2) 0 4 rfl rfl (by decide) (nI_pos (by omega)) (nI_pos (by omega)) (by rw [nI_clamp (show n < 2 ^ 31 by omega)]; show 0 + n ≤ n; omega) (by rw [nI_clamp (show k < 2 ^ 31 by omega), nI_clamp (show n < 2 ^ 31 by omega)]; omega) (fun i _ => hbf _) (Nat.le_of_ble_eq_true rfl) (Nat.le_of_ble_eq_true rfl) dJ0_getBytes_840e7_22 (fun H locs hP hD hS => ?_)
  rw [nI_clamp (show k < 2 ^ 31 by omega), nI_clamp (show n < 2 ^ 31 by omega)] at hP hD
  have hP : va_P D vwCl [(d, .inl (cA 4, cap, .inl (va_cpy (fun j => bs.getD j 0) g 0 k n)))] H := hP
  have hD : va_D A [(d, .inl (cA 4, cap, .inl (va_cpy (fun j => bs.getD j 0) g 0 k n)))] := hD
  refine lv_goto (tgt := 43) hx hb dJ0_getBytes_840e7_25 (by decide) ?_
  exact hret (fun _ => 0, fun _ => 0, 0) trivial hP hD hS dJ0_getBytes_840e7_43
set_option maxHeartbeats 4000000 in
set_option maxRecDepth 100000 in
theorem kJ5_inflateIf (l : Launch) (D : va_G) (cA : Nat → ClassId) (n : Nat) (bs : List Int32) (a v : Nat) (hn9 : n < 1000) (b w : Nat) (ml : Int32) (cnt cap : Nat) (f : Nat → Int32)  : MXv l yJ5_inflateIfNeededFor_a7421 wsJ5_inflateIfNeededFor_a7421 { frames := 1, cells := 0, slots := 0, locals := 40 } D cA (ES n bs a v) [.ref b, .ref a] (sbW cA b w ml (nI cnt) cap f) (fun u => sbW cA b w ml (nI cnt) cap f) (fun _ => True) 0 0 := by
  refine MXv.of (cc := cJ5_inflateIfNeededFor_a7421) (maxL := 2) (by decide) rfl (Nat.le_of_ble_eq_true rfl) ?_
  intro p e s m args below meth c A ls Q hx hb hml hin hts hown hK hE hP hD hA hS hl hret
  have hl : lv_has ls 2 [(0, .ref b), (1, .ref a)] := hl
  have iJ4 : ∀ w ∈ wsJ40, w ∈ wsJ5_inflateIfNeededFor_a7421 := by decide +kernel
  refine va_gets (v := .int 1) hx hb hE.1 hS hown (hts (.fieldLink RJ5 18 "java/lang/String" "COMPACT_STRINGS" "Z") (by decide +kernel)) (fun _ h => h) dJ5_inflateIfNeededFor_a7421_0 ?_
  refine lv_if_eq (tgt := 21) hx hb dJ5_inflateIfNeededFor_a7421_3 (by decide) (fun c9 => absurd c9 (by decide)) (fun _ => ?_)
  refine lv_aload_n hx hb dJ5_inflateIfNeededFor_a7421_6 rfl (lv_at hl 0 rfl) ?_
  refine va_get (D := D) (ci := 7) (v := .int 0) (C := RJ4) (T := TJ4) (N := 4) hx hb hts iJ4 hown hK hP 0 rfl rfl 1 (Nat.le_of_ble_eq_true rfl) (hts (.fieldLink RJ5 22 "java/lang/AbstractStringBuilder" "coder" "B") (by decide +kernel)) (fun _ h9 => h9) rfl dJ5_inflateIfNeededFor_a7421_7 ?_
  refine lv_aload_n hx hb dJ5_inflateIfNeededFor_a7421_10 rfl (lv_at hl 1 rfl) ?_
  have hPc : va_P D vwCl ([(b, .inr (7, [.ref w, .int 0, .int ml, .int (nI cnt)])), (w, .inl (cA 4, cap, .inl f))] ++ []) _ := hP.sub [0, 1] rfl
  have hDc : va_D A ([(b, .inr (7, [.ref w, .int 0, .int ml, .int (nI cnt)])), (w, .inl (cA 4, cap, .inl f))] ++ []) := hD.sub [0, 1] (by decide +kernel) rfl
  refine xg_i (X := [(b, .inr (7, [.ref w, .int 0, .int ml, .int (nI cnt)])), (w, .inl (cA 4, cap, .inl f))]) (W' := []) (xr_V (As := []) (rest := [.int 0]) (b := a) ES_ok ((E_in ES_ok hE hDc hS hA)) ⟨hx, hb, hml, hown, hts⟩ hl.1 (kT_coder l D cA n bs a v hn9) (cwV 0 hts gJ5_inflateIfNeededFor_a7421_J0_coder_7d493 rfl rfl rfl (by decide +kernel) ⟨Nat.le_of_ble_eq_true rfl, Nat.le_of_ble_eq_true rfl⟩) rfl (vk_recv (i := 0) hE.2.1 (by decide) hS) hK hPc hDc (Nat.le_of_ble_eq_true rfl) dJ5_inflateIfNeededFor_a7421_11 ⟨Nat.le_of_ble_eq_true rfl, Nat.le_of_ble_eq_true rfl⟩) hPc hDc hS hA (fun u1 H locs hu1 hP hD hS hnu1 => ?_)
  have hP : va_P D vwCl [(b, .inr (7, [.ref w, .int 0, .int ml, .int (nI cnt)])), (w, .inl (cA 4, cap, .inl f))] H := hP
  have hD : va_D A [(b, .inr (7, [.ref w, .int 0, .int ml, .int (nI cnt)])), (w, .inl (cA 4, cap, .inl f))] := hD
  refine lv_icmp_eq (tgt := 21) hx hb dJ5_inflateIfNeededFor_a7421_14 (by decide) (fun _ => ?_) (fun c9 => absurd (rfl) c9)
  exact hret (fun _ => 0, fun _ => 0, 0) trivial hP hD hS dJ5_inflateIfNeededFor_a7421_21
set_option maxHeartbeats 4000000 in
set_option maxRecDepth 100000 in
theorem kJ5_putStringAt (l : Launch) (D : va_G) (cA : Nat → ClassId) (n : Nat) (bs : List Int32) (a v : Nat) (hn9 : n < 1000) (b w : Nat) (ml : Int32) (cnt cap : Nat) (f : Nat → Int32) (k : Nat) (hbf : sb_Fit (fun j => bs.getD j 0)) (hk : k + n ≤ cap) (hc : cap ≤ 1000) : MXv l yJ5_putStringAt_47b60 wsJ5_putStringAt_47b60 { frames := 2, cells := 0, slots := 0, locals := 130 } D cA (ES n bs a v) [.ref b, .int (nI k), .ref a] (sbW cA b w ml (nI cnt) cap f) (fun u => sbW cA b w ml (nI cnt) cap (va_cpy (fun j => bs.getD j 0) f 0 k n)) (fun _ => True) 0 0 := by
  refine MXv.of (cc := cJ5_putStringAt_47b60) (maxL := 3) (by decide) rfl (Nat.le_of_ble_eq_true rfl) ?_
  intro p e s m args below meth c A ls Q hx hb hml hin hts hown hK hE hP hD hA hS hl hret
  have hl : lv_has ls 3 [(0, .ref b), (1, .int (nI k)), (2, .ref a)] := hl
  have iJ4 : ∀ w ∈ wsJ40, w ∈ wsJ5_putStringAt_47b60 := by decide +kernel
  refine lv_aload_n hx hb dJ5_putStringAt_47b60_0 rfl (lv_at hl 0 rfl) ?_
  refine lv_aload_n hx hb dJ5_putStringAt_47b60_1 rfl (lv_at hl 2 rfl) ?_
  have hPc : va_P D vwCl ([] ++ [(b, .inr (7, [.ref w, .int 0, .int ml, .int (nI cnt)])), (w, .inl (cA 4, cap, .inl f))]) _ := hP.sub [0, 1] rfl
  have hDc : va_D A ([] ++ [(b, .inr (7, [.ref w, .int 0, .int ml, .int (nI cnt)])), (w, .inl (cA 4, cap, .inl f))]) := hD.sub [0, 1] (by decide +kernel) rfl
  refine xg_v (X := []) (W' := [(b, .inr (7, [.ref w, .int 0, .int ml, .int (nI cnt)])), (w, .inl (cA 4, cap, .inl f))]) (xr_U (As := [.ref a]) (rest := []) (b := b) ES_ok ((E_in ES_ok hE hDc hS hA)) ⟨hx, hb, hml, hown, hts⟩ hl.1 (kJ5_inflateIf l D cA n bs a v hn9 b w ml cnt cap f) (va_cwU 1 hts gJ5_putStringAt_47b60_J5_inflateIfNeededFor_a7421_u397J4 rfl rfl rfl rfl (by decide +kernel) ⟨Nat.le_of_ble_eq_true rfl, Nat.le_of_ble_eq_true rfl⟩) rfl (va_recv hK hP (ci := 7) (q0 := 0) rfl rfl) hK hPc hDc (Nat.le_of_ble_eq_true rfl) dJ5_putStringAt_47b60_2 ⟨Nat.le_of_ble_eq_true rfl, Nat.le_of_ble_eq_true rfl⟩) hPc hDc hS hA (fun u1 H locs hu1 hP hD hS => ?_)
  have hP : va_P D vwCl [(b, .inr (7, [.ref w, .int 0, .int ml, .int (nI cnt)])), (w, .inl (cA 4, cap, .inl f))] H := hP
  have hD : va_D A [(b, .inr (7, [.ref w, .int 0, .int ml, .int (nI cnt)])), (w, .inl (cA 4, cap, .inl f))] := hD
  refine lv_aload_n hx hb dJ5_putStringAt_47b60_5 rfl (lv_at hl 2 rfl) ?_
  refine lv_aload_n hx hb dJ5_putStringAt_47b60_6 rfl (lv_at hl 0 rfl) ?_
  refine va_get (D := D) (ci := 7) (v := .ref w) (C := RJ4) (T := TJ4) (N := 4) hx hb hts iJ4 hown hK hP 0 rfl rfl 0 (Nat.le_of_ble_eq_true rfl) (hts (.fieldLink RJ5 15 "java/lang/AbstractStringBuilder" "value" "[B") (by decide +kernel)) (fun _ h9 => h9) rfl dJ5_putStringAt_47b60_7 ?_
  refine lv_iload_n hx hb dJ5_putStringAt_47b60_10 rfl (lv_at hl 1 rfl) ?_
  refine lv_aload_n hx hb dJ5_putStringAt_47b60_11 rfl (lv_at hl 0 rfl) ?_
  refine va_get (D := D) (ci := 7) (v := .int 0) (C := RJ4) (T := TJ4) (N := 4) hx hb hts iJ4 hown hK hP 0 rfl rfl 1 (Nat.le_of_ble_eq_true rfl) (hts (.fieldLink RJ5 22 "java/lang/AbstractStringBuilder" "coder" "B") (by decide +kernel)) (fun _ h9 => h9) rfl dJ5_putStringAt_47b60_12 ?_
  have hPc : va_P D vwCl ([(b, .inr (7, [.ref w, .int 0, .int ml, .int (nI cnt)]))] ++ [(w, .inl (cA 4, cap, .inl f))]) _ := hP.sub [0, 1] rfl
  have hDc : va_D A ([(b, .inr (7, [.ref w, .int 0, .int ml, .int (nI cnt)]))] ++ [(w, .inl (cA 4, cap, .inl f))]) := hD.sub [0, 1] (by decide +kernel) rfl
  refine xg_v (X := [(b, .inr (7, [.ref w, .int 0, .int ml, .int (nI cnt)]))]) (W' := [(w, .inl (cA 4, cap, .inl f))]) (xr_V (As := [.ref w, .int (nI k), .int 0]) (rest := []) (b := a) ES_ok ((E_in ES_ok hE hDc hS hA)) ⟨hx, hb, hml, hown, hts⟩ hl.1 (kT_getBytes l D cA n bs a v hn9 w k cap f hbf hk hc) (cwV 3 hts gJ5_putStringAt_47b60_J0_getBytes_840e7 rfl rfl rfl (by decide +kernel) ⟨Nat.le_of_ble_eq_true rfl, Nat.le_of_ble_eq_true rfl⟩) rfl (vk_recv (i := 0) hE.2.1 (by decide) hS) hK hPc hDc (Nat.le_of_ble_eq_true rfl) dJ5_putStringAt_47b60_15 ⟨Nat.le_of_ble_eq_true rfl, Nat.le_of_ble_eq_true rfl⟩) hPc hDc hS hA (fun u2 H locs hu2 hP hD hS => ?_)
  have hP : va_P D vwCl [(b, .inr (7, [.ref w, .int 0, .int ml, .int (nI cnt)])), (w, .inl (cA 4, cap, .inl (va_cpy (fun j => bs.getD j 0) f 0 k n)))] H := hP
  have hD : va_D A [(b, .inr (7, [.ref w, .int 0, .int ml, .int (nI cnt)])), (w, .inl (cA 4, cap, .inl (va_cpy (fun j => bs.getD j 0) f 0 k n)))] := hD
  exact hret (fun _ => 0, fun _ => 0, 0) trivial hP hD hS dJ5_putStringAt_47b60_18
set_option maxHeartbeats 4000000 in
set_option maxRecDepth 100000 in
theorem kJ5_appendS (l : Launch) (D : va_G) (cA : Nat → ClassId) (n : Nat) (bs : List Int32) (a v : Nat) (hn9 : n < 1000) (b w : Nat) (ml : Int32) (cnt cap : Nat) (f : Nat → Int32) (hbf : sb_Fit (fun j => bs.getD j 0)) (hf : sb_Fit f) (hcc : cnt ≤ cap) (hc : cap ≤ 902) (hq2 : cnt + n ≤ 450) : MXr l yJ5_append_cf1ce wsJ5_append_cf1ce { frames := 4, cells := 1, slots := 902, locals := 170 } D cA (ES n bs a v) [.ref b, .ref a] (sbW cA b w ml (nI cnt) cap f) (fun u => sbW cA b (u.1 0) ml (nI (cnt + n)) u.2.2 u.2.1) (fun u => cnt + n ≤ u.2.2 ∧ u.2.2 ≤ 902 ∧ sb_Fit u.2.1 ∧ (∀ i, i < cnt → u.2.1 i = f i) ∧ ∀ i, i < n → u.2.1 (cnt + i) = bs.getD i 0) (fun _ => b) 1 902 := by
  refine MXr.of (cc := cJ5_append_cf1ce) (maxL := 3) (by decide) rfl (Or.inl ⟨_, rfl⟩) (Nat.le_of_ble_eq_true rfl) ?_
  intro p e s m args below meth c A ls Q hx hb hml hin hts hown hK hE hP hD hA hS hl hret
  have hl : lv_has ls 3 [(0, .ref b), (1, .ref a)] := hl
  have iJ4 : ∀ w ∈ wsJ40, w ∈ wsJ5_append_cf1ce := by decide +kernel
  refine lv_aload_n hx hb dJ5_append_cf1ce_0 rfl (lv_at hl 1 rfl) ?_
  refine lv_ifnonnull (tgt := 9) hx hb dJ5_append_cf1ce_1 (by decide) ?_
  refine lv_aload_n hx hb dJ5_append_cf1ce_9 rfl (lv_at hl 1 rfl) ?_
  have hPc : va_P D vwCl ([(b, .inr (7, [.ref w, .int 0, .int ml, .int (nI cnt)])), (w, .inl (cA 4, cap, .inl f))] ++ []) _ := hP.sub [0, 1] rfl
  have hDc : va_D A ([(b, .inr (7, [.ref w, .int 0, .int ml, .int (nI cnt)])), (w, .inl (cA 4, cap, .inl f))] ++ []) := hD.sub [0, 1] (by decide +kernel) rfl
  refine xg_i (X := [(b, .inr (7, [.ref w, .int 0, .int ml, .int (nI cnt)])), (w, .inl (cA 4, cap, .inl f))]) (W' := []) (xr_V (As := []) (rest := []) (b := a) ES_ok ((E_in ES_ok hE hDc hS hA)) ⟨hx, hb, hml, hown, hts⟩ hl.1 (kT_length l D cA n bs a v hn9) (cwV 0 hts gJ5_append_cf1ce_J0_length_8abf5 rfl rfl rfl (by decide +kernel) ⟨Nat.le_of_ble_eq_true rfl, Nat.le_of_ble_eq_true rfl⟩) rfl (vk_recv (i := 0) hE.2.1 (by decide) hS) hK hPc hDc (Nat.le_of_ble_eq_true rfl) dJ5_append_cf1ce_10 ⟨Nat.le_of_ble_eq_true rfl, Nat.le_of_ble_eq_true rfl⟩) hPc hDc hS hA (fun u1 H locs hu1 hP hD hS hnu1 => ?_)
  have hP : va_P D vwCl [(b, .inr (7, [.ref w, .int 0, .int ml, .int (nI cnt)])), (w, .inl (cA 4, cap, .inl f))] H := hP
  have hD : va_D A [(b, .inr (7, [.ref w, .int 0, .int ml, .int (nI cnt)])), (w, .inl (cA 4, cap, .inl f))] := hD
  refine lv_istore_n (lv' := [(2, .int (nI n)), (0, .ref b), (1, .ref a)]) hx hb dJ5_append_cf1ce_13 rfl hl (by decide) rfl (fun ls hl => ?_)
  refine lv_aload_n hx hb dJ5_append_cf1ce_14 rfl (lv_at hl 1 rfl) ?_
  refine lv_aload_n hx hb dJ5_append_cf1ce_15 rfl (lv_at hl 1 rfl) ?_
  refine va_get (D := D) (ci := 7) (v := .int (nI cnt)) (C := RJ4) (T := TJ4) (N := 4) hx hb hts iJ4 hown hK hP 0 rfl rfl 3 (Nat.le_of_ble_eq_true rfl) (hts (.fieldLink RJ5 79 "java/lang/AbstractStringBuilder" "count" "I") (by decide +kernel)) (fun _ h9 => h9) rfl dJ5_append_cf1ce_16 ?_
  refine lv_iload_n hx hb dJ5_append_cf1ce_19 rfl (lv_at hl 0 rfl) ?_
  refine lv_iadd hx hb dJ5_append_cf1ce_20 ?_
  refine lv_topi (fun y9 hy9 => ?_)
  obtain rfl : y9 = nI (cnt + n) := hy9.trans (nI_add _ _)
  have hPc : va_P D vwCl ([] ++ [(b, .inr (7, [.ref w, .int 0, .int ml, .int (nI cnt)])), (w, .inl (cA 4, cap, .inl f))]) _ := hP.sub [0, 1] rfl
  have hDc : va_D A ([] ++ [(b, .inr (7, [.ref w, .int 0, .int ml, .int (nI cnt)])), (w, .inl (cA 4, cap, .inl f))]) := hD.sub [0, 1] (by decide +kernel) rfl
  refine xg_v (X := []) (W' := [(b, .inr (7, [.ref w, .int 0, .int ml, .int (nI cnt)])), (w, .inl (cA 4, cap, .inl f))]) (xr_U (As := [.int (nI (cnt + n))]) (rest := []) (b := b) E0_ok (trivial) ⟨hx, hb, hml, hown, hts⟩ hl.1 (kJ5_ensure l D cA b w ml cnt cap f (cnt + n) hf hc hq2) (va_cwU 1 hts gJ5_append_cf1ce_J5_ensureCapacityInternal_d00df_u100J4 rfl rfl rfl rfl (by decide +kernel) ⟨Nat.le_of_ble_eq_true rfl, Nat.le_of_ble_eq_true rfl⟩) rfl (va_recv hK hP (ci := 7) (q0 := 0) rfl rfl) hK hPc hDc (Nat.le_of_ble_eq_true rfl) dJ5_append_cf1ce_21 ⟨Nat.le_of_ble_eq_true rfl, Nat.le_of_ble_eq_true rfl⟩) hPc hDc hS hA (fun u2 H locs hu2 hP hD hS => ?_)
  have hP : va_P D vwCl [(b, .inr (7, [.ref (u2.1 0), .int 0, .int ml, .int (nI cnt)])), ((u2.1 0), .inl (cA 4, u2.2.2, .inl u2.2.1))] H := hP
  have hD : va_D A [(b, .inr (7, [.ref (u2.1 0), .int 0, .int ml, .int (nI cnt)])), ((u2.1 0), .inl (cA 4, u2.2.2, .inl u2.2.1))] := hD
  refine lv_aload_n hx hb dJ5_append_cf1ce_24 rfl (lv_at hl 1 rfl) ?_
  refine lv_aload_n hx hb dJ5_append_cf1ce_25 rfl (lv_at hl 1 rfl) ?_
  refine va_get (D := D) (ci := 7) (v := .int (nI cnt)) (C := RJ4) (T := TJ4) (N := 4) hx hb hts iJ4 hown hK hP 0 rfl rfl 3 (Nat.le_of_ble_eq_true rfl) (hts (.fieldLink RJ5 79 "java/lang/AbstractStringBuilder" "count" "I") (by decide +kernel)) (fun _ h9 => h9) rfl dJ5_append_cf1ce_26 ?_
  refine lv_aload_n hx hb dJ5_append_cf1ce_29 rfl (lv_at hl 2 rfl) ?_
  have hPc : va_P D vwCl ([] ++ [(b, .inr (7, [.ref (u2.1 0), .int 0, .int ml, .int (nI cnt)])), ((u2.1 0), .inl (cA 4, u2.2.2, .inl u2.2.1))]) _ := hP.sub [0, 1] rfl
  have hDc : va_D A ([] ++ [(b, .inr (7, [.ref (u2.1 0), .int 0, .int ml, .int (nI cnt)])), ((u2.1 0), .inl (cA 4, u2.2.2, .inl u2.2.1))]) := hD.sub [0, 1] (by decide +kernel) rfl
  refine xg_v (X := []) (W' := [(b, .inr (7, [.ref (u2.1 0), .int 0, .int ml, .int (nI cnt)])), ((u2.1 0), .inl (cA 4, u2.2.2, .inl u2.2.1))]) (xr_U (As := [.int (nI cnt), .ref a]) (rest := []) (b := b) ES_ok ((E_in ES_ok hE hDc hS hA)) ⟨hx, hb, hml, hown, hts⟩ hl.1 (kJ5_putStringAt l D cA n bs a v hn9 b (u2.1 0) ml cnt u2.2.2 u2.2.1 cnt hbf hu2.1 (by have := hu2.2.1; omega)) (va_cwU 2 hts gJ5_append_cf1ce_J5_putStringAt_47b60_u208J4 rfl rfl rfl rfl (by decide +kernel) ⟨Nat.le_of_ble_eq_true rfl, Nat.le_of_ble_eq_true rfl⟩) rfl (va_recv hK hP (ci := 7) (q0 := 0) rfl rfl) hK hPc hDc (Nat.le_of_ble_eq_true rfl) dJ5_append_cf1ce_30 ⟨Nat.le_of_ble_eq_true rfl, Nat.le_of_ble_eq_true rfl⟩) hPc hDc hS hA (fun u3 H locs hu3 hP hD hS => ?_)
  have hP : va_P D vwCl [(b, .inr (7, [.ref (u2.1 0), .int 0, .int ml, .int (nI cnt)])), ((u2.1 0), .inl (cA 4, u2.2.2, .inl (va_cpy (fun j => bs.getD j 0) u2.2.1 0 cnt n)))] H := hP
  have hD : va_D A [(b, .inr (7, [.ref (u2.1 0), .int 0, .int ml, .int (nI cnt)])), ((u2.1 0), .inl (cA 4, u2.2.2, .inl (va_cpy (fun j => bs.getD j 0) u2.2.1 0 cnt n)))] := hD
  refine lv_aload_n hx hb dJ5_append_cf1ce_33 rfl (lv_at hl 1 rfl) ?_
  refine lv_dup hx hb dJ5_append_cf1ce_34 rfl ?_
  refine va_get (D := D) (ci := 7) (v := .int (nI cnt)) (C := RJ4) (T := TJ4) (N := 4) hx hb hts iJ4 hown hK hP 0 rfl rfl 3 (Nat.le_of_ble_eq_true rfl) (hts (.fieldLink RJ5 79 "java/lang/AbstractStringBuilder" "count" "I") (by decide +kernel)) (fun _ h9 => h9) rfl dJ5_append_cf1ce_35 ?_
  refine lv_iload_n hx hb dJ5_append_cf1ce_38 rfl (lv_at hl 0 rfl) ?_
  refine lv_iadd hx hb dJ5_append_cf1ce_39 ?_
  refine lv_topi (fun y9 hy9 => ?_)
  obtain rfl : y9 = nI (cnt + n) := hy9.trans (nI_add _ _)
  refine va_put (D := D) (ci := 7) (v := .int (nI (cnt + n))) (ty := .int) (C := RJ4) (T := TJ4) (N := 4) hx hb hts iJ4 tyJ4 tyJ4_ok nmJ4 hown hK hP hD hS 0 rfl rfl 3 (Nat.le_of_ble_eq_true rfl) (hts (.fieldLink RJ5 79 "java/lang/AbstractStringBuilder" "count" "I") (by decide +kernel)) (fun _ h9 => h9) rfl (tyJ4_ok 3 (Nat.le_of_ble_eq_true rfl)) rfl rfl (Nat.le_of_ble_eq_true rfl) dJ5_append_cf1ce_40 (fun H locs hP hD hS => ?_)
  have hP : va_P D vwCl [(b, .inr (7, [.ref (u2.1 0), .int 0, .int ml, .int (nI (cnt + n))])), ((u2.1 0), .inl (cA 4, u2.2.2, .inl (va_cpy (fun j => bs.getD j 0) u2.2.1 0 cnt n)))] H := hP
  have hD : va_D A [(b, .inr (7, [.ref (u2.1 0), .int 0, .int ml, .int (nI (cnt + n))])), ((u2.1 0), .inl (cA 4, u2.2.2, .inl (va_cpy (fun j => bs.getD j 0) u2.2.1 0 cnt n)))] := hD
  refine lv_aload_n hx hb dJ5_append_cf1ce_43 rfl (lv_at hl 1 rfl) ?_
  refine W.widen (k := 1) (n := 902) (by omega) (by omega) ?_
  exact hret (fun _ => u2.1 0, va_cpy (fun j => bs.getD j 0) u2.2.1 0 cnt n, u2.2.2) ⟨hu2.1, hu2.2.1, sb_fitC hbf hu2.2.2.2, fun i hi => by show va_cpy (fun j => bs.getD j 0) u2.2.1 0 cnt n i = f i; exact (pk_cpy_out (Or.inl hi)).trans (hu2.2.2.1 i (by omega)), fun i hi => by show va_cpy (fun j => bs.getD j 0) u2.2.1 0 cnt n (cnt + i) = _; rw [pk_cpy_in (by omega) (by omega)]; show bs.getD (0 + (cnt + i - cnt)) 0 = _; rw [show 0 + (cnt + i - cnt) = i by omega]⟩ hP hD hS dJ5_append_cf1ce_44
set_option maxHeartbeats 4000000 in
set_option maxRecDepth 100000 in
theorem kJ4_appendS (l : Launch) (D : va_G) (cA : Nat → ClassId) (n : Nat) (bs : List Int32) (a v : Nat) (hn9 : n < 1000) (b w : Nat) (ml : Int32) (cnt cap : Nat) (f : Nat → Int32) (hbf : sb_Fit (fun j => bs.getD j 0)) (hf : sb_Fit f) (hcc : cnt ≤ cap) (hc : cap ≤ 902) (hq2 : cnt + n ≤ 450) : MXr l yJ4_append_15ec4 wsJ4_append_15ec4 { frames := 5, cells := 1, slots := 902, locals := 200 } D cA (ES n bs a v) [.ref b, .ref a] (sbW cA b w ml (nI cnt) cap f) (fun u => sbW cA b (u.1 0) ml (nI (cnt + n)) u.2.2 u.2.1) (fun u => cnt + n ≤ u.2.2 ∧ u.2.2 ≤ 902 ∧ sb_Fit u.2.1 ∧ (∀ i, i < cnt → u.2.1 i = f i) ∧ ∀ i, i < n → u.2.1 (cnt + i) = bs.getD i 0) (fun _ => b) 1 902 := by
  refine MXr.of (cc := cJ4_append_15ec4) (maxL := 2) (by decide) rfl (Or.inl ⟨_, rfl⟩) (Nat.le_of_ble_eq_true rfl) ?_
  intro p e s m args below meth c A ls Q hx hb hml hin hts hown hK hE hP hD hA hS hl hret
  have hl : lv_has ls 2 [(0, .ref b), (1, .ref a)] := hl
  refine lv_aload_n hx hb dJ4_append_15ec4_0 rfl (lv_at hl 0 rfl) ?_
  refine lv_aload_n hx hb dJ4_append_15ec4_1 rfl (lv_at hl 1 rfl) ?_
  have hPc : va_P D vwCl ([] ++ [(b, .inr (7, [.ref w, .int 0, .int ml, .int (nI cnt)])), (w, .inl (cA 4, cap, .inl f))]) _ := hP.sub [0, 1] rfl
  have hDc : va_D A ([] ++ [(b, .inr (7, [.ref w, .int 0, .int ml, .int (nI cnt)])), (w, .inl (cA 4, cap, .inl f))]) := hD.sub [0, 1] (by decide +kernel) rfl
  refine xg_r (X := []) (W' := [(b, .inr (7, [.ref w, .int 0, .int ml, .int (nI cnt)])), (w, .inl (cA 4, cap, .inl f))]) (xr_SU (As := [.ref a]) (rest := []) (b := b) ES_ok ((E_in ES_ok hE hDc hS hA)) (hK.1 7 _ rfl).2 ⟨hx, hb, hml, hown, hts⟩ hl.1 (kJ5_appendS l D cA n bs a v hn9 b w ml cnt cap f hbf hf hcc hc hq2) (va_cwSU 1 hts gJ4_append_15ec4_J5_append_cf1ce_s29 rfl rfl rfl (by decide +kernel) ⟨Nat.le_of_ble_eq_true rfl, Nat.le_of_ble_eq_true rfl⟩) rfl (va_recv hK hP (ci := 7) (q0 := 0) rfl rfl) hK hPc hDc (Nat.le_of_ble_eq_true rfl) dJ4_append_15ec4_2 ⟨Nat.le_of_ble_eq_true rfl, Nat.le_of_ble_eq_true rfl⟩) hPc hDc hS hA (fun u1 H locs hu1 hP hD hS => ?_)
  have hP : va_P D vwCl [(b, .inr (7, [.ref (u1.1 0), .int 0, .int ml, .int (nI (cnt + n))])), ((u1.1 0), .inl (cA 4, u1.2.2, .inl u1.2.1))] H := hP
  have hD : va_D A [(b, .inr (7, [.ref (u1.1 0), .int 0, .int ml, .int (nI (cnt + n))])), ((u1.1 0), .inl (cA 4, u1.2.2, .inl u1.2.1))] := hD
  refine lv_pop hx hb dJ4_append_15ec4_5 rfl ?_
  refine lv_aload_n hx hb dJ4_append_15ec4_6 rfl (lv_at hl 0 rfl) ?_
  refine W.widen (k := 1) (n := 902) (by omega) (by omega) ?_
  exact hret u1 hu1 hP hD hS dJ4_append_15ec4_7

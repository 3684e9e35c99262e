/-! numbers appended; a text out of a builder -/
theorem nI_minE {n cap : Nat} (h : n ≤ cap) (hc : cap < 2 ^ 31) : (if nI n < nI cap then nI n else nI cap) = nI n := by
  by_cases z : n < cap
  · rw [if_pos (nI_lt z hc)]
  · rw [if_neg (nI_nlt (by omega) (by omega)), show cap = n by omega]
theorem w_fitB {cI : ClassId} {n : Nat} {f : Nat → Int32} (hf : sb_Fit f) (i : Nat) (v : Value) (h : (vp_cell cI (n, .inl f)).slots[i]? = some v) : fits .byte v = true := by
  rw [vp_cell_i] at h
  have hi : i < n := by
    have := (Array.getElem?_eq_some_iff.mp h).1
    rw [arrV_size] at this
    exact this
  rw [arrV_read _ _ hi] at h
  cases h
  exact hf i
set_option maxHeartbeats 4000000 in
set_option maxRecDepth 100000 in
theorem kJ5_appendI (l : Launch) (D : va_G) (cA : Nat → ClassId) (tO tT x : Nat) (hx9 : x < 100) (b w : Nat) (ml : Int32) (cnt cap : Nat) (f : Nat → Int32) (hf : sb_Fit f) (hcc : cnt ≤ cap) (hc : cap ≤ 902) (hq2 : cnt + dgn x ≤ 450) : MXr l yJ5_append_c97b9 wsJ5_append_c97b9 { frames := 4, cells := 1, slots := 902, locals := 170 } D cA (ED tO tT) [.ref b, .int (nI x)] (sbW cA b w ml (nI cnt) cap f) (fun u => sbW cA b (u.1 0) ml (nI (cnt + dgn x)) u.2.2 u.2.1) (fun u => cnt + dgn x ≤ u.2.2 ∧ u.2.2 ≤ 902 ∧ sb_Fit u.2.1 ∧ (∀ i, i < cnt → u.2.1 i = f i) ∧ ∀ i, i < dgn x → u.2.1 (cnt + i) = (dgs x).getD i 0) (fun _ => b) 1 902 := by
  refine MXr.of (cc := cJ5_append_c97b9) (maxL := 4) (by decide) rfl (Or.inl ⟨_, rfl⟩) (Nat.le_of_ble_eq_true rfl) ?_
  intro p e s m args below meth c A ls Q hx hb hml hin hts hown hK hE hP hD hA hS hl hret
  have hl : lv_has ls 4 [(0, .ref b), (1, .int (nI x))] := hl
  have iJ4 : ∀ w ∈ wsJ40, w ∈ wsJ5_append_c97b9 := by decide +kernel
  refine lv_aload_n hx hb dJ5_append_c97b9_0 rfl (lv_at hl 0 rfl) ?_
  refine va_get (D := D) (ci := 7) (v := .int (nI cnt)) (C := RJ4) (T := TJ4) (N := 4) hx hb hts iJ4 hown hK hP 0 rfl rfl 3 (Nat.le_of_ble_eq_true rfl) (hts (.fieldLink RJ5 79 "java/lang/AbstractStringBuilder" "count" "I") (by decide +kernel)) (fun _ h9 => h9) rfl dJ5_append_c97b9_1 ?_
  refine lv_istore_n (lv' := [(2, .int (nI cnt)), (0, .ref b), (1, .int (nI x))]) hx hb dJ5_append_c97b9_4 rfl hl (by decide) rfl (fun ls hl => ?_)
  refine lv_iload_n hx hb dJ5_append_c97b9_5 rfl (lv_at hl 0 rfl) ?_
  refine lv_iload_n hx hb dJ5_append_c97b9_6 rfl (lv_at hl 2 rfl) ?_
  have hPc : va_P D vwCl ([(b, .inr (7, [.ref w, .int 0, .int ml, .int (nI cnt)])), (w, .inl (cA 4, cap, .inl f))] ++ []) _ := hP.sub [0, 1] rfl
  have hDc : va_D A ([(b, .inr (7, [.ref w, .int 0, .int ml, .int (nI cnt)])), (w, .inl (cA 4, cap, .inl f))] ++ []) := hD.sub [0, 1] (by decide +kernel) rfl
  refine xg_i (X := [(b, .inr (7, [.ref w, .int 0, .int ml, .int (nI cnt)])), (w, .inl (cA 4, cap, .inl f))]) (W' := []) (xr_S (As := [.int (nI x)]) (rest := [.int (nI cnt)]) E0_ok (trivial) ⟨hx, hb, hml, hown, hts⟩ hl.1 (kJ6_stringSize l D cA x hx9) (va_cwS 1 hts gJ5_append_c97b9_J6_stringSize_0f7a4 rfl rfl rfl (by decide +kernel) ⟨Nat.le_of_ble_eq_true rfl, Nat.le_of_ble_eq_true rfl⟩) rfl hK hPc hDc (Nat.le_of_ble_eq_true rfl) dJ5_append_c97b9_7 ⟨Nat.le_of_ble_eq_true rfl, Nat.le_of_ble_eq_true rfl⟩) hPc hDc hS hA (fun u1 H locs hu1 hP hD hS hnu1 => ?_)
  have hP : va_P D vwCl [(b, .inr (7, [.ref w, .int 0, .int ml, .int (nI cnt)])), (w, .inl (cA 4, cap, .inl f))] H := hP
  have hD : va_D A [(b, .inr (7, [.ref w, .int 0, .int ml, .int (nI cnt)])), (w, .inl (cA 4, cap, .inl f))] := hD
  refine lv_iadd hx hb dJ5_append_c97b9_10 ?_
  refine lv_topi (fun y9 hy9 => ?_)
  obtain rfl : y9 = nI (cnt + dgn x) := hy9.trans (nI_add _ _)
  refine lv_istore_n (lv' := [(3, .int (nI (cnt + dgn x))), (2, .int (nI cnt)), (0, .ref b), (1, .int (nI x))]) hx hb dJ5_append_c97b9_11 rfl hl (by decide) rfl (fun ls hl => ?_)
  refine lv_aload_n hx hb dJ5_append_c97b9_12 rfl (lv_at hl 2 rfl) ?_
  refine lv_iload_n hx hb dJ5_append_c97b9_13 rfl (lv_at hl 0 rfl) ?_
  have hPc : va_P D vwCl ([] ++ [(b, .inr (7, [.ref w, .int 0, .int ml, .int (nI cnt)])), (w, .inl (cA 4, cap, .inl f))]) _ := hP.sub [0, 1] rfl
  have hDc : va_D A ([] ++ [(b, .inr (7, [.ref w, .int 0, .int ml, .int (nI cnt)])), (w, .inl (cA 4, cap, .inl f))]) := hD.sub [0, 1] (by decide +kernel) rfl
  refine xg_v (X := []) (W' := [(b, .inr (7, [.ref w, .int 0, .int ml, .int (nI cnt)])), (w, .inl (cA 4, cap, .inl f))]) (xr_U (As := [.int (nI (cnt + dgn x))]) (rest := []) (b := b) E0_ok (trivial) ⟨hx, hb, hml, hown, hts⟩ hl.1 (kJ5_ensure l D cA b w ml cnt cap f (cnt + dgn x) hf hc hq2) (va_cwU 1 hts gJ5_append_c97b9_J5_ensureCapacityInternal_d00df_u100J4 rfl rfl rfl rfl (by decide +kernel) ⟨Nat.le_of_ble_eq_true rfl, Nat.le_of_ble_eq_true rfl⟩) rfl (va_recv hK hP (ci := 7) (q0 := 0) rfl rfl) hK hPc hDc (Nat.le_of_ble_eq_true rfl) dJ5_append_c97b9_14 ⟨Nat.le_of_ble_eq_true rfl, Nat.le_of_ble_eq_true rfl⟩) hPc hDc hS hA (fun u2 H locs hu2 hP hD hS => ?_)
  have hP : va_P D vwCl [(b, .inr (7, [.ref (u2.1 0), .int 0, .int ml, .int (nI cnt)])), ((u2.1 0), .inl (cA 4, u2.2.2, .inl u2.2.1))] H := hP
  have hD : va_D A [(b, .inr (7, [.ref (u2.1 0), .int 0, .int ml, .int (nI cnt)])), ((u2.1 0), .inl (cA 4, u2.2.2, .inl u2.2.1))] := hD
  refine lv_aload_n hx hb dJ5_append_c97b9_17 rfl (lv_at hl 2 rfl) ?_
  have hPc : va_P D vwCl ([] ++ [(b, .inr (7, [.ref (u2.1 0), .int 0, .int ml, .int (nI cnt)])), ((u2.1 0), .inl (cA 4, u2.2.2, .inl u2.2.1))]) _ := hP.sub [0, 1] rfl
  have hDc : va_D A ([] ++ [(b, .inr (7, [.ref (u2.1 0), .int 0, .int ml, .int (nI cnt)])), ((u2.1 0), .inl (cA 4, u2.2.2, .inl u2.2.1))]) := hD.sub [0, 1] (by decide +kernel) rfl
  refine xg_i (X := []) (W' := [(b, .inr (7, [.ref (u2.1 0), .int 0, .int ml, .int (nI cnt)])), ((u2.1 0), .inl (cA 4, u2.2.2, .inl u2.2.1))]) (xr_U (As := []) (rest := []) (b := b) EC_ok ((E_in EC_ok hE.1 hDc hS hA)) ⟨hx, hb, hml, hown, hts⟩ hl.1 (kJ5_isLatin1 l D cA b (u2.1 0) ml cnt u2.2.2 u2.2.1) (va_cwU 0 hts gJ5_append_c97b9_J5_isLatin1_aae02_u83J4 rfl rfl rfl rfl (by decide +kernel) ⟨Nat.le_of_ble_eq_true rfl, Nat.le_of_ble_eq_true rfl⟩) rfl (va_recv hK hP (ci := 7) (q0 := 0) rfl rfl) hK hPc hDc (Nat.le_of_ble_eq_true rfl) dJ5_append_c97b9_18 ⟨Nat.le_of_ble_eq_true rfl, Nat.le_of_ble_eq_true rfl⟩) hPc hDc hS hA (fun u3 H locs hu3 hP hD hS hnu3 => ?_)
  have hP : va_P D vwCl [(b, .inr (7, [.ref (u2.1 0), .int 0, .int ml, .int (nI cnt)])), ((u2.1 0), .inl (cA 4, u2.2.2, .inl u2.2.1))] H := hP
  have hD : va_D A [(b, .inr (7, [.ref (u2.1 0), .int 0, .int ml, .int (nI cnt)])), ((u2.1 0), .inl (cA 4, u2.2.2, .inl u2.2.1))] := hD
  refine lv_if_eq (tgt := 37) hx hb dJ5_append_c97b9_21 (by decide) (fun c9 => absurd c9 (by decide)) (fun _ => ?_)
  refine lv_iload_n hx hb dJ5_append_c97b9_24 rfl (lv_at hl 3 rfl) ?_
  refine lv_iload_n hx hb dJ5_append_c97b9_25 rfl (lv_at hl 0 rfl) ?_
  refine lv_aload_n hx hb dJ5_append_c97b9_26 rfl (lv_at hl 2 rfl) ?_
  refine va_get (D := D) (ci := 7) (v := .ref (u2.1 0)) (C := RJ4) (T := TJ4) (N := 4) hx hb hts iJ4 hown hK hP 0 rfl rfl 0 (Nat.le_of_ble_eq_true rfl) (hts (.fieldLink RJ5 15 "java/lang/AbstractStringBuilder" "value" "[B") (by decide +kernel)) (fun _ h9 => h9) rfl dJ5_append_c97b9_27 ?_
  have hPc : va_P D vwCl ([(b, .inr (7, [.ref (u2.1 0), .int 0, .int ml, .int (nI cnt)]))] ++ [((u2.1 0), .inl (cA 4, u2.2.2, .inl u2.2.1))]) _ := hP.sub [0, 1] rfl
  have hDc : va_D A ([(b, .inr (7, [.ref (u2.1 0), .int 0, .int ml, .int (nI cnt)]))] ++ [((u2.1 0), .inl (cA 4, u2.2.2, .inl u2.2.1))]) := hD.sub [0, 1] (by decide +kernel) rfl
  refine xg_i (X := [(b, .inr (7, [.ref (u2.1 0), .int 0, .int ml, .int (nI cnt)]))]) (W' := [((u2.1 0), .inl (cA 4, u2.2.2, .inl u2.2.1))]) (xr_S (As := [.int (nI x), .int (nI (cnt + dgn x)), .ref (u2.1 0)]) (rest := []) ED_ok ((E_in ED_ok hE hDc hS hA)) ⟨hx, hb, hml, hown, hts⟩ hl.1 (kJ6_getChars l D cA tO tT x (cnt + dgn x) (u2.1 0) u2.2.2 u2.2.1 hx9 (Nat.le_add_left _ _) hu2.1 (by have := hu2.2.1; omega) hu2.2.2.2) (va_cwS 3 hts gJ5_append_c97b9_J6_getChars_ba4f3 rfl rfl rfl (by decide +kernel) ⟨Nat.le_of_ble_eq_true rfl, Nat.le_of_ble_eq_true rfl⟩) rfl hK hPc hDc (Nat.le_of_ble_eq_true rfl) dJ5_append_c97b9_30 ⟨Nat.le_of_ble_eq_true rfl, Nat.le_of_ble_eq_true rfl⟩) hPc hDc hS hA (fun u4 H locs hu4 hP hD hS hnu4 => ?_)
  have hP : va_P D vwCl [(b, .inr (7, [.ref (u2.1 0), .int 0, .int ml, .int (nI cnt)])), ((u2.1 0), .inl (cA 4, u2.2.2, .inl u4.2.1))] H := hP
  have hD : va_D A [(b, .inr (7, [.ref (u2.1 0), .int 0, .int ml, .int (nI cnt)])), ((u2.1 0), .inl (cA 4, u2.2.2, .inl u4.2.1))] := hD
  refine lv_pop hx hb dJ5_append_c97b9_33 rfl ?_
  refine lv_goto (tgt := 48) hx hb dJ5_append_c97b9_34 (by decide) ?_
  refine lv_aload_n hx hb dJ5_append_c97b9_48 rfl (lv_at hl 2 rfl) ?_
  refine lv_iload_n hx hb dJ5_append_c97b9_49 rfl (lv_at hl 0 rfl) ?_
  refine va_put (D := D) (ci := 7) (v := .int (nI (cnt + dgn x))) (ty := .int) (C := RJ4) (T := TJ4) (N := 4) hx hb hts iJ4 tyJ4 tyJ4_ok nmJ4 hown hK hP hD hS 0 rfl rfl 3 (Nat.le_of_ble_eq_true rfl) (hts (.fieldLink RJ5 79 "java/lang/AbstractStringBuilder" "count" "I") (by decide +kernel)) (fun _ h9 => h9) rfl (tyJ4_ok 3 (Nat.le_of_ble_eq_true rfl)) rfl rfl (Nat.le_of_ble_eq_true rfl) dJ5_append_c97b9_50 (fun H locs hP hD hS => ?_)
  have hP : va_P D vwCl [(b, .inr (7, [.ref (u2.1 0), .int 0, .int ml, .int (nI (cnt + dgn x))])), ((u2.1 0), .inl (cA 4, u2.2.2, .inl u4.2.1))] H := hP
  have hD : va_D A [(b, .inr (7, [.ref (u2.1 0), .int 0, .int ml, .int (nI (cnt + dgn x))])), ((u2.1 0), .inl (cA 4, u2.2.2, .inl u4.2.1))] := hD
  refine lv_aload_n hx hb dJ5_append_c97b9_53 rfl (lv_at hl 2 rfl) ?_
  refine W.widen (k := 1) (n := 902) (by omega) (by omega) ?_
  have ek : cnt + dgn x - dgn x = cnt := Nat.add_sub_cancel _ _
  rw [ek] at hu4
  exact hret (fun _ => u2.1 0, u4.2.1, u2.2.2) ⟨hu2.1, hu2.2.1, hu4.1, fun i hi => by show u4.2.1 i = f i; exact (hu4.2.1 i hi).trans (hu2.2.2.1 i (by omega)), hu4.2.2⟩ hP hD hS dJ5_append_c97b9_54
set_option maxHeartbeats 4000000 in
set_option maxRecDepth 100000 in
theorem kJ4_appendI (l : Launch) (D : va_G) (cA : Nat → ClassId) (tO tT x : Nat) (hx9 : x < 100) (b w : Nat) (ml : Int32) (cnt cap : Nat) (f : Nat → Int32) (hf : sb_Fit f) (hcc : cnt ≤ cap) (hc : cap ≤ 902) (hq2 : cnt + dgn x ≤ 450) : MXr l yJ4_append_bf812 wsJ4_append_bf812 { frames := 5, cells := 1, slots := 902, locals := 200 } D cA (ED tO tT) [.ref b, .int (nI x)] (sbW cA b w ml (nI cnt) cap f) (fun u => sbW cA b (u.1 0) ml (nI (cnt + dgn x)) u.2.2 u.2.1) (fun u => cnt + dgn x ≤ u.2.2 ∧ u.2.2 ≤ 902 ∧ sb_Fit u.2.1 ∧ (∀ i, i < cnt → u.2.1 i = f i) ∧ ∀ i, i < dgn x → u.2.1 (cnt + i) = (dgs x).getD i 0) (fun _ => b) 1 902 := by
  refine MXr.of (cc := cJ4_append_bf812) (maxL := 2) (by decide) rfl (Or.inl ⟨_, rfl⟩) (Nat.le_of_ble_eq_true rfl) ?_
  intro p e s m args below meth c A ls Q hx hb hml hin hts hown hK hE hP hD hA hS hl hret
  have hl : lv_has ls 2 [(0, .ref b), (1, .int (nI x))] := hl
  refine lv_aload_n hx hb dJ4_append_bf812_0 rfl (lv_at hl 0 rfl) ?_
  refine lv_iload_n hx hb dJ4_append_bf812_1 rfl (lv_at hl 1 rfl) ?_
  have hPc : va_P D vwCl ([] ++ [(b, .inr (7, [.ref w, .int 0, .int ml, .int (nI cnt)])), (w, .inl (cA 4, cap, .inl f))]) _ := hP.sub [0, 1] rfl
  have hDc : va_D A ([] ++ [(b, .inr (7, [.ref w, .int 0, .int ml, .int (nI cnt)])), (w, .inl (cA 4, cap, .inl f))]) := hD.sub [0, 1] (by decide +kernel) rfl
  refine xg_r (X := []) (W' := [(b, .inr (7, [.ref w, .int 0, .int ml, .int (nI cnt)])), (w, .inl (cA 4, cap, .inl f))]) (xr_SU (As := [.int (nI x)]) (rest := []) (b := b) ED_ok ((E_in ED_ok hE hDc hS hA)) (hK.1 7 _ rfl).2 ⟨hx, hb, hml, hown, hts⟩ hl.1 (kJ5_appendI l D cA tO tT x hx9 b w ml cnt cap f hf hcc hc hq2) (va_cwSU 1 hts gJ4_append_bf812_J5_append_c97b9_s53 rfl rfl rfl (by decide +kernel) ⟨Nat.le_of_ble_eq_true rfl, Nat.le_of_ble_eq_true rfl⟩) rfl (va_recv hK hP (ci := 7) (q0 := 0) rfl rfl) hK hPc hDc (Nat.le_of_ble_eq_true rfl) dJ4_append_bf812_2 ⟨Nat.le_of_ble_eq_true rfl, Nat.le_of_ble_eq_true rfl⟩) hPc hDc hS hA (fun u1 H locs hu1 hP hD hS => ?_)
  have hP : va_P D vwCl [(b, .inr (7, [.ref (u1.1 0), .int 0, .int ml, .int (nI (cnt + dgn x))])), ((u1.1 0), .inl (cA 4, u1.2.2, .inl u1.2.1))] H := hP
  have hD : va_D A [(b, .inr (7, [.ref (u1.1 0), .int 0, .int ml, .int (nI (cnt + dgn x))])), ((u1.1 0), .inl (cA 4, u1.2.2, .inl u1.2.1))] := hD
  refine lv_pop hx hb dJ4_append_bf812_5 rfl ?_
  refine lv_aload_n hx hb dJ4_append_bf812_6 rfl (lv_at hl 0 rfl) ?_
  refine W.widen (k := 1) (n := 902) (by omega) (by omega) ?_
  exact hret u1 hu1 hP hD hS dJ4_append_bf812_7
set_option maxHeartbeats 4000000 in
set_option maxRecDepth 100000 in
theorem kJ5_getValue (l : Launch) (D : va_G) (cA : Nat → ClassId) (b w : Nat) (ml : Int32) (cnt cap : Nat) (f : Nat → Int32)  : MXr l yJ5_getValue_6d5f1 wsJ5_getValue_6d5f1 { frames := 0, cells := 0, slots := 0, locals := 0 } D cA E0 [.ref b] (sbW cA b w ml (nI cnt) cap f) (fun u => sbW cA b w ml (nI cnt) cap f) (fun _ => True) (fun _ => w) 0 0 := by
  refine MXr.of (cc := cJ5_getValue_6d5f1) (maxL := 1) (by decide) rfl (Or.inr ⟨_, rfl⟩) (Nat.le_of_ble_eq_true rfl) ?_
  intro p e s m args below meth c A ls Q hx hb hml hin hts hown hK hE hP hD hA hS hl hret
  have hl : lv_has ls 1 [(0, .ref b)] := hl
  have iJ4 : ∀ w ∈ wsJ40, w ∈ wsJ5_getValue_6d5f1 := by decide +kernel
  refine lv_aload_n hx hb dJ5_getValue_6d5f1_0 rfl (lv_at hl 0 rfl) ?_
  refine va_get (D := D) (ci := 7) (v := .ref w) (C := RJ4) (T := TJ4) (N := 4) hx hb hts iJ4 hown hK hP 0 rfl rfl 0 (Nat.le_of_ble_eq_true rfl) (hts (.fieldLink RJ5 15 "java/lang/AbstractStringBuilder" "value" "[B") (by decide +kernel)) (fun _ h9 => h9) rfl dJ5_getValue_6d5f1_1 ?_
  exact hret (fun _ => 0, fun _ => 0, 0) trivial hP hD hS dJ5_getValue_6d5f1_4
set_option maxHeartbeats 4000000 in
set_option maxRecDepth 100000 in
theorem kJ5_length (l : Launch) (D : va_G) (cA : Nat → ClassId) (b w : Nat) (ml : Int32) (cnt cap : Nat) (f : Nat → Int32)  : MXi l yJ5_length_8abf5 wsJ5_length_8abf5 { frames := 0, cells := 0, slots := 0, locals := 0 } D cA E0 .int [.ref b] (sbW cA b w ml (nI cnt) cap f) (fun u => sbW cA b w ml (nI cnt) cap f) (fun _ => True) (fun _ => nI cnt) 0 0 := by
  refine MXi.of (cc := cJ5_length_8abf5) (maxL := 1) (by decide +kernel) rfl (Nat.le_of_ble_eq_true rfl) ?_
  intro p e s m args below meth c A ls Q hx hb hml hin hts hown hK hE hP hD hA hS hl hret
  have hl : lv_has ls 1 [(0, .ref b)] := hl
  have iJ4 : ∀ w ∈ wsJ40, w ∈ wsJ5_length_8abf5 := by decide +kernel
  refine lv_aload_n hx hb dJ5_length_8abf5_0 rfl (lv_at hl 0 rfl) ?_
  refine va_get (D := D) (ci := 7) (v := .int (nI cnt)) (C := RJ4) (T := TJ4) (N := 4) hx hb hts iJ4 hown hK hP 0 rfl rfl 3 (Nat.le_of_ble_eq_true rfl) (hts (.fieldLink RJ5 79 "java/lang/AbstractStringBuilder" "count" "I") (by decide +kernel)) (fun _ h9 => h9) rfl dJ5_length_8abf5_1 ?_
  exact hret (fun _ => 0, fun _ => 0, 0) trivial hP hD hS rfl dJ5_length_8abf5_4
set_option maxHeartbeats 4000000 in
set_option maxRecDepth 100000 in
theorem kJ4_length (l : Launch) (D : va_G) (cA : Nat → ClassId) (b w : Nat) (ml : Int32) (cnt cap : Nat) (f : Nat → Int32)  : MXi l yJ4_length_8abf5 wsJ4_length_8abf5 { frames := 1, cells := 0, slots := 0, locals := 30 } D cA E0 .int [.ref b] (sbW cA b w ml (nI cnt) cap f) (fun u => sbW cA b w ml (nI cnt) cap f) (fun _ => True) (fun _ => nI cnt) 0 0 := by
  refine MXi.of (cc := cJ4_length_8abf5) (maxL := 1) (by decide +kernel) rfl (Nat.le_of_ble_eq_true rfl) ?_
  intro p e s m args below meth c A ls Q hx hb hml hin hts hown hK hE hP hD hA hS hl hret
  have hl : lv_has ls 1 [(0, .ref b)] := hl
  refine lv_aload_n hx hb dJ4_length_8abf5_0 rfl (lv_at hl 0 rfl) ?_
  have hPc : va_P D vwCl ([] ++ [(b, .inr (7, [.ref w, .int 0, .int ml, .int (nI cnt)])), (w, .inl (cA 4, cap, .inl f))]) _ := hP.sub [0, 1] rfl
  have hDc : va_D A ([] ++ [(b, .inr (7, [.ref w, .int 0, .int ml, .int (nI cnt)])), (w, .inl (cA 4, cap, .inl f))]) := hD.sub [0, 1] (by decide +kernel) rfl
  refine xg_i (X := []) (W' := [(b, .inr (7, [.ref w, .int 0, .int ml, .int (nI cnt)])), (w, .inl (cA 4, cap, .inl f))]) (xr_SU (As := []) (rest := []) (b := b) E0_ok (trivial) (hK.1 7 _ rfl).2 ⟨hx, hb, hml, hown, hts⟩ hl.1 (kJ5_length l D cA b w ml cnt cap f) (va_cwSU 0 hts gJ4_length_8abf5_J5_length_8abf5_s343 rfl rfl rfl (by decide +kernel) ⟨Nat.le_of_ble_eq_true rfl, Nat.le_of_ble_eq_true rfl⟩) rfl (va_recv hK hP (ci := 7) (q0 := 0) rfl rfl) hK hPc hDc (Nat.le_of_ble_eq_true rfl) dJ4_length_8abf5_1 ⟨Nat.le_of_ble_eq_true rfl, Nat.le_of_ble_eq_true rfl⟩) hPc hDc hS hA (fun u1 H locs hu1 hP hD hS hnu1 => ?_)
  have hP : va_P D vwCl [(b, .inr (7, [.ref w, .int 0, .int ml, .int (nI cnt)])), (w, .inl (cA 4, cap, .inl f))] H := hP
  have hD : va_D A [(b, .inr (7, [.ref w, .int 0, .int ml, .int (nI cnt)])), (w, .inl (cA 4, cap, .inl f))] := hD
  exact hret (fun _ => 0, fun _ => 0, 0) trivial hP hD hS rfl dJ4_length_8abf5_4
set_option maxHeartbeats 4000000 in
set_option maxRecDepth 100000 in
theorem kJ7_checkLength (l : Launch) (D : va_G) (cA : Nat → ClassId) (n : Nat) (hn : n ≤ 902) : MXv l yJ7_checkLength_df160 wsJ7_checkLength_df160 { frames := 0, cells := 0, slots := 0, locals := 0 } D cA E0 [.int 0, .int (nI n)] [] (fun u => []) (fun _ => True) 0 0 := by
  refine MXv.of (cc := cJ7_checkLength_df160) (maxL := 2) (by decide) rfl (Nat.le_of_ble_eq_true rfl) ?_
  intro p e s m args below meth c A ls Q hx hb hml hin hts hown hK hE hP hD hA hS hl hret
  have hl : lv_has ls 2 [(0, .int 0), (1, .int (nI n))] := hl
  refine lv_iload_n hx hb dJ7_checkLength_df160_0 rfl (lv_at hl 1 rfl) ?_
  refine lv_iload_n hx hb dJ7_checkLength_df160_1 rfl (lv_at hl 0 rfl) ?_
  refine lv_icmp_ge (tgt := 37) hx hb dJ7_checkLength_df160_2 (by decide) (fun _ => ?_) (fun c9 => absurd (nI_pos' (by omega)) c9)
  exact hret (fun _ => 0, fun _ => 0, 0) trivial hP hD hS dJ7_checkLength_df160_37
set_option maxHeartbeats 4000000 in
set_option maxRecDepth 100000 in
theorem kJ7_copyOfRangeByte (l : Launch) (D : va_G) (cA : Nat → ClassId) (v n cap : Nat) (f : Nat → Int32) (hf : sb_Fit f) (hn : n ≤ cap) (hc : cap ≤ 902) : MXr l yJ7_copyOfRangeByte_39247 wsJ7_copyOfRangeByte_39247 { frames := 1, cells := 1, slots := n, locals := 90 } D cA E0 [.ref v, .int 0, .int (nI n)] [(v, .inl (cA 4, cap, .inl f))] (fun u => [(v, .inl (cA 4, cap, .inl f)), (u.1 0, .inl (cA 4, n, .inl (va_cpy f (fun _ => 0) 0 0 n)))]) (fun _ => True) (fun u => u.1 0) 1 n := by
  refine MXr.of (cc := cJ7_copyOfRangeByte_39247) (maxL := 5) (by decide) rfl (Or.inr ⟨_, rfl⟩) (Nat.le_of_ble_eq_true rfl) ?_
  intro p e s m args below meth c A ls Q hx hb hml hin hts hown hK hE hP hD hA hS hl hret
  have hl : lv_has ls 5 [(0, .ref v), (1, .int 0), (2, .int (nI n))] := hl
  refine lv_iload_n hx hb dJ7_copyOfRangeByte_39247_0 rfl (lv_at hl 1 rfl) ?_
  refine lv_iload_n hx hb dJ7_copyOfRangeByte_39247_1 rfl (lv_at hl 2 rfl) ?_
  have hPc : va_P D vwCl ([(v, .inl (cA 4, cap, .inl f))] ++ []) _ := hP.sub [0] rfl
  have hDc : va_D A ([(v, .inl (cA 4, cap, .inl f))] ++ []) := hD.sub [0] (by decide +kernel) rfl
  refine xg_v (X := [(v, .inl (cA 4, cap, .inl f))]) (W' := []) (xr_S (As := [.int 0, .int (nI n)]) (rest := []) E0_ok (trivial) ⟨hx, hb, hml, hown, hts⟩ hl.1 (kJ7_checkLength l D cA n (by omega)) (va_cwS 2 hts gJ7_copyOfRangeByte_39247_J7_checkLength_df160 rfl rfl rfl (by decide +kernel) ⟨Nat.le_of_ble_eq_true rfl, Nat.le_of_ble_eq_true rfl⟩) rfl hK hPc hDc (Nat.le_of_ble_eq_true rfl) dJ7_copyOfRangeByte_39247_2 ⟨Nat.le_of_ble_eq_true rfl, show 0 + 0 ≤ n by omega⟩) hPc hDc hS hA (fun u1 H locs hu1 hP hD hS => ?_)
  have hP : va_P D vwCl [(v, .inl (cA 4, cap, .inl f))] H := hP
  have hD : va_D A [(v, .inl (cA 4, cap, .inl f))] := hD
  refine lv_iload_n hx hb dJ7_copyOfRangeByte_39247_5 rfl (lv_at hl 2 rfl) ?_
  refine lv_iload_n hx hb dJ7_copyOfRangeByte_39247_6 rfl (lv_at hl 1 rfl) ?_
  refine lv_isub hx hb dJ7_copyOfRangeByte_39247_7 ?_
  refine lv_topi (fun y9 hy9 => ?_)
  obtain rfl : y9 = nI n := hy9.trans (show nI n - nI 0 = nI n from pk_sub (Nat.zero_le _))
  refine lv_istore_n (lv' := [(3, .int (nI n)), (0, .ref v), (1, .int 0), (2, .int (nI n))]) hx hb dJ7_copyOfRangeByte_39247_8 rfl hl (by decide) rfl (fun ls hl => ?_)
  refine lv_iload_n hx hb dJ7_copyOfRangeByte_39247_9 rfl (lv_at hl 0 rfl) ?_
  refine xa_newb (N' := n) hx hb (hts (.arrayClass .byte) (by decide +kernel)) hK hP hD hS hA (nI_pos (by omega)) (nI_clamp (by omega)) (by omega) (Nat.le_of_ble_eq_true rfl) (show 0 + n ≤ n by omega) dJ7_copyOfRangeByte_39247_10 (fun q2 H hP hD hS => ?_)
  have hP : va_P D vwCl [(v, .inl (cA 4, cap, .inl f)), (q2, .inl (cA 4, n, .inl (fun _ => 0)))] H := hP
  have hD : va_D A [(v, .inl (cA 4, cap, .inl f)), (q2, .inl (cA 4, n, .inl (fun _ => 0)))] := hD
  refine lv_astore (lv' := [(4, .ref q2), (3, .int (nI n)), (0, .ref v), (1, .int 0), (2, .int (nI n))]) hx hb dJ7_copyOfRangeByte_39247_12 hl (by decide) rfl (fun ls hl => ?_)
  refine lv_aload_n hx hb dJ7_copyOfRangeByte_39247_14 rfl (lv_at hl 2 rfl) ?_
  refine lv_iload_n hx hb dJ7_copyOfRangeByte_39247_15 rfl (lv_at hl 3 rfl) ?_
  refine lv_aload hx hb dJ7_copyOfRangeByte_39247_16 (lv_at hl 0 rfl) ?_
  refine lv_iconst (v := 0) hx hb dJ7_copyOfRangeByte_39247_18 (by decide) ?_
  refine lv_aload_n hx hb dJ7_copyOfRangeByte_39247_19 rfl (lv_at hl 2 rfl) ?_
  refine va_alen (v := nI cap) hx hb hK hP 0 4 rfl rfl rfl dJ7_copyOfRangeByte_39247_20 ?_
  refine lv_iload_n hx hb dJ7_copyOfRangeByte_39247_21 rfl (lv_at hl 3 rfl) ?_
  refine lv_isub hx hb dJ7_copyOfRangeByte_39247_22 ?_
  refine lv_topi (fun y9 hy9 => ?_)
  obtain rfl : y9 = nI cap := hy9.trans (show nI cap - nI 0 = nI cap from pk_sub (Nat.zero_le _))
  refine lv_iload_n hx hb dJ7_copyOfRangeByte_39247_23 rfl (lv_at hl 1 rfl) ?_
  refine va_mmin hx hb (by rw [hml, hl.1]) hown (hts (.methodLink RJ7 304 Lib.Math.min.name) (by decide +kernel)) (hts (.static Lib.Math.min.name) (by decide +kernel)) (hts (.initialized "java/lang/Math") (by decide +kernel)) (hts (.code Lib.Math.min.name Lib.Math.min.code 2 (some .int)) (by decide +kernel)) (Nat.le_of_ble_eq_true rfl) (Nat.le_of_ble_eq_true rfl) (Nat.le_of_ble_eq_true rfl) (show (0 + n) + 0 ≤ n by omega) dJ7_copyOfRangeByte_39247_24 ?_
  refine lv_topi (fun y9 hy9 => ?_)
  obtain rfl : y9 = nI n := hy9.trans (nI_minE hn (by omega))
  refine va_copyi hx hb (by rw [hml, hl.1]) hown (hts (.methodLink RJ7 150 arraycopyName) (by decide +kernel)) (hts (.native arraycopyName) (by decide +kernel)) (hts (.static arraycopyName) (by decide +kernel)) (hts (.initialized "java/lang/System") (by decide +kernel)) hK hP hD hS 0 1 4 4 rfl rfl rfl rfl rfl (by decide) (by decide) (nI_pos (by omega)) (by rw [nI_clamp (by omega)]; show 0 + n ≤ cap; omega) (by rw [nI_clamp (by omega)]; show 0 + n ≤ n; omega) (fun i _ => hf _) (Nat.le_of_ble_eq_true rfl) (Nat.le_of_ble_eq_true rfl) dJ7_copyOfRangeByte_39247_27 (fun H locs hP hD hS => ?_)
  rw [nI_clamp (show n < 2 ^ 31 by omega)] at hP hD
  have hP : va_P D vwCl [(v, .inl (cA 4, cap, .inl f)), (q2, .inl (cA 4, n, .inl (va_cpy f (fun _ => 0) 0 0 n)))] H := hP
  have hD : va_D A [(v, .inl (cA 4, cap, .inl f)), (q2, .inl (cA 4, n, .inl (va_cpy f (fun _ => 0) 0 0 n)))] := hD
  refine lv_aload hx hb dJ7_copyOfRangeByte_39247_30 (lv_at hl 0 rfl) ?_
  refine W.widen (k := 1) (n := n) (by omega) (by omega) ?_
  exact hret (fun _ => q2, fun _ => 0, 0) trivial hP hD hS dJ7_copyOfRangeByte_39247_32
set_option maxHeartbeats 4000000 in
set_option maxRecDepth 100000 in
theorem kJ7_copyOfRange (l : Launch) (D : va_G) (cA : Nat → ClassId) (v n cap : Nat) (f : Nat → Int32) (hf : sb_Fit f) (hn : n ≤ cap) (hc : cap ≤ 902) : MXr l yJ7_copyOfRange_39247 wsJ7_copyOfRange_39247 { frames := 2, cells := 1, slots := n, locals := 130 } D cA EK [.ref v, .int 0, .int (nI n)] [(v, .inl (cA 4, cap, .inl f))] (fun u => [(v, .inl (cA 4, cap, .inl f)), (u.1 0, .inl (cA 4, u.2.2, .inl u.2.1))]) (fun u => u.2.2 = n ∧ (∀ i, i < n → u.2.1 i = f i) ∧ sb_Fit u.2.1) (fun u => u.1 0) 1 n := by
  refine MXr.of (cc := cJ7_copyOfRange_39247) (maxL := 3) (by decide) rfl (Or.inr ⟨_, rfl⟩) (Nat.le_of_ble_eq_true rfl) ?_
  intro p e s m args below meth c A ls Q hx hb hml hin hts hown hK hE hP hD hA hS hl hret
  have hl : lv_has ls 3 [(0, .ref v), (1, .int 0), (2, .int (nI n))] := hl
  refine lv_iload_n hx hb dJ7_copyOfRange_39247_0 rfl (lv_at hl 1 rfl) ?_
  refine lv_if_ne (tgt := 10) hx hb dJ7_copyOfRange_39247_1 (by decide) (fun c9 => absurd (rfl) c9) (fun _ => ?_)
  refine lv_iload_n hx hb dJ7_copyOfRange_39247_4 rfl (lv_at hl 2 rfl) ?_
  refine lv_aload_n hx hb dJ7_copyOfRange_39247_5 rfl (lv_at hl 0 rfl) ?_
  refine va_alen (v := nI cap) hx hb hK hP 0 4 rfl rfl rfl dJ7_copyOfRange_39247_6 ?_
  refine lv_icmp_eq (tgt := 17) hx hb dJ7_copyOfRange_39247_7 (by decide) (fun c1 => ?_) (fun c1 => ?_)
  · have e9 : n = cap := (nI_eq (by omega) (by omega)).mp c1
    refine lv_aload_n hx hb dJ7_copyOfRange_39247_17 rfl (lv_at hl 0 rfl) ?_
    refine va_clone hx hb (by rw [hml, hl.1]) hown (hts (.methodLink RJ7 310 ⟨"[B", "clone", "()Ljava/lang/Object;"⟩) (by decide +kernel)) (hts (.sameMethod "[B" "java/lang/Object" "clone" "()Ljava/lang/Object;") (by decide +kernel)) (hts (.native ⟨"java/lang/Object", "clone", "()Ljava/lang/Object;"⟩) (by decide +kernel)) (hts (.instanceMethod ⟨"java/lang/Object", "clone", "()Ljava/lang/Object;"⟩) (by decide +kernel)) (hts (.selects "[B" ⟨"[B", "clone", "()Ljava/lang/Object;"⟩ ⟨"java/lang/Object", "clone", "()Ljava/lang/Object;"⟩) (by decide +kernel)) hE.2 hK hP hD hS hA 0 4 rfl rfl (hK.2 4 _ rfl).2 (fun i v h => w_fitB hf i v h) (Nat.le_of_ble_eq_true rfl) (Nat.le_of_ble_eq_true rfl) (Nat.le_of_ble_eq_true rfl) (show 0 + cap ≤ n by omega) dJ7_copyOfRange_39247_18 (fun q1 H _ hP hD hS => ?_)
    have hP : va_P D vwCl [(v, .inl (cA 4, cap, .inl f)), (q1, .inl (cA 4, cap, .inl f))] H := hP
    have hD : va_D A [(v, .inl (cA 4, cap, .inl f)), (q1, .inl (cA 4, cap, .inl f))] := hD
    refine va_castA hx hb hown (hts (.classLink RJ7 311 "[B") (by decide +kernel)) hP 1 rfl (hK.2 4 _ rfl).2 dJ7_copyOfRange_39247_21 ?_
    refine W.widen (k := 1) (n := n) (by omega) (by omega) ?_
    exact hret (fun _ => q1, f, cap) ⟨e9.symm, fun i _ => rfl, hf⟩ hP hD hS dJ7_copyOfRange_39247_24
  · refine lv_aload_n hx hb dJ7_copyOfRange_39247_10 rfl (lv_at hl 0 rfl) ?_
    refine lv_iload_n hx hb dJ7_copyOfRange_39247_11 rfl (lv_at hl 1 rfl) ?_
    refine lv_iload_n hx hb dJ7_copyOfRange_39247_12 rfl (lv_at hl 2 rfl) ?_
    have hPc : va_P D vwCl ([] ++ [(v, .inl (cA 4, cap, .inl f))]) _ := hP.sub [0] rfl
    have hDc : va_D A ([] ++ [(v, .inl (cA 4, cap, .inl f))]) := hD.sub [0] (by decide +kernel) rfl
    refine xg_r (X := []) (W' := [(v, .inl (cA 4, cap, .inl f))]) (xr_S (As := [.ref v, .int 0, .int (nI n)]) (rest := []) E0_ok (trivial) ⟨hx, hb, hml, hown, hts⟩ hl.1 (kJ7_copyOfRangeByte l D cA v n cap f hf hn hc) (va_cwS 3 hts gJ7_copyOfRange_39247_J7_copyOfRangeByte_39247 rfl rfl rfl (by decide +kernel) ⟨Nat.le_of_ble_eq_true rfl, Nat.le_of_ble_eq_true rfl⟩) rfl hK hPc hDc (Nat.le_of_ble_eq_true rfl) dJ7_copyOfRange_39247_13 ⟨Nat.le_of_ble_eq_true rfl, show 0 + n ≤ n by omega⟩) hPc hDc hS hA (fun u1 H locs hu1 hP hD hS => ?_)
    have hP : va_P D vwCl [(v, .inl (cA 4, cap, .inl f)), ((u1.1 0), .inl (cA 4, n, .inl (va_cpy f (fun _ => 0) 0 0 n)))] H := hP
    have hD : va_D A [(v, .inl (cA 4, cap, .inl f)), ((u1.1 0), .inl (cA 4, n, .inl (va_cpy f (fun _ => 0) 0 0 n)))] := hD
    refine W.widen (k := 1) (n := n) (by omega) (by omega) ?_
    exact hret (fun _ => (u1.1 0), va_cpy f (fun _ => 0) 0 0 n, n) ⟨rfl, fun i hi => by show va_cpy f (fun _ => 0) 0 0 n i = f i; exact sb_cpy0 hi, sb_fitC hf sb_fit0⟩ hP hD hS dJ7_copyOfRange_39247_16
set_option maxHeartbeats 4000000 in
set_option maxRecDepth 100000 in
theorem kJ0_initA (l : Launch) (D : va_G) (cA : Nat → ClassId) (r : Nat) (b w : Nat) (ml : Int32) (cnt cap : Nat) (f : Nat → Int32) (hf : sb_Fit f) (hcc : cnt ≤ cap) (hc : cap ≤ 902) : MXv l yJ0_init_db425 wsJ0_init_db425 { frames := 3, cells := 1, slots := cnt, locals := 170 } D cA EK [.ref r, .ref b, .null] ((r, .inr (6, [.null, .int 0, .int 0, .int 0])) :: sbW cA b w ml (nI cnt) cap f) (fun u => [(r, .inr (6, [.ref (u.1 0), .int 0, .int 0, .int 0])), (b, .inr (7, [.ref w, .int 0, .int ml, .int (nI cnt)])), (w, .inl (cA 4, cap, .inl f)), (u.1 0, .inl (cA 4, u.2.2, .inl u.2.1))]) (fun u => u.2.2 = cnt ∧ (∀ i, i < cnt → u.2.1 i = f i) ∧ sb_Fit u.2.1) 1 cnt := by
  refine MXv.of (cc := cJ0_init_db425) (maxL := 5) (by decide) rfl (Nat.le_of_ble_eq_true rfl) ?_
  intro p e s m args below meth c A ls Q hx hb hml hin hts hown hK hE hP hD hA hS hl hret
  have hl : lv_has ls 5 [(0, .ref r), (1, .ref b), (2, .null)] := hl
  have iJ0 : ∀ w ∈ wsJ00, w ∈ wsJ0_init_db425 := by decide +kernel
  refine lv_aload_n hx hb dJ0_init_db425_0 rfl (lv_at hl 0 rfl) ?_
  refine W.objInit hx hb hown (hts (.methodLink RJ0 1 objectInit) (by decide +kernel)) (hts (.instanceMethod objectInit) (by decide +kernel)) (hts (.code objectInit ⟨#[0xb1]⟩ 1 none) (by decide +kernel)) rfl (by rw [hml]; exact hl.1) rfl dJ0_init_db425_1 (Nat.le_of_ble_eq_true rfl) (Nat.le_of_ble_eq_true rfl) ?_
  refine W.eq (g2 := F0 m 4 ls []) rfl ?_
  refine lv_aload_n hx hb dJ0_init_db425_4 rfl (lv_at hl 1 rfl) ?_
  have hPc : va_P D vwCl ([(r, .inr (6, [.null, .int 0, .int 0, .int 0]))] ++ [(b, .inr (7, [.ref w, .int 0, .int ml, .int (nI cnt)])), (w, .inl (cA 4, cap, .inl f))]) _ := hP.sub [0, 1, 2] rfl
  have hDc : va_D A ([(r, .inr (6, [.null, .int 0, .int 0, .int 0]))] ++ [(b, .inr (7, [.ref w, .int 0, .int ml, .int (nI cnt)])), (w, .inl (cA 4, cap, .inl f))]) := hD.sub [0, 1, 2] (by decide +kernel) rfl
  refine xg_r (X := [(r, .inr (6, [.null, .int 0, .int 0, .int 0]))]) (W' := [(b, .inr (7, [.ref w, .int 0, .int ml, .int (nI cnt)])), (w, .inl (cA 4, cap, .inl f))]) (xr_U (As := []) (rest := []) (b := b) E0_ok (trivial) ⟨hx, hb, hml, hown, hts⟩ hl.1 (kJ5_getValue l D cA b w ml cnt cap f) (va_cwU 0 hts gJ0_init_db425_J5_getValue_6d5f1_u552J4 rfl rfl rfl rfl (by decide +kernel) ⟨Nat.le_of_ble_eq_true rfl, Nat.le_of_ble_eq_true rfl⟩) rfl (va_recv hK hP (ci := 7) (q0 := 1) rfl rfl) hK hPc hDc (Nat.le_of_ble_eq_true rfl) dJ0_init_db425_5 ⟨Nat.le_of_ble_eq_true rfl, show 0 + 0 ≤ cnt by omega⟩) hPc hDc hS hA (fun u1 H locs hu1 hP hD hS => ?_)
  have hP : va_P D vwCl [(r, .inr (6, [.null, .int 0, .int 0, .int 0])), (b, .inr (7, [.ref w, .int 0, .int ml, .int (nI cnt)])), (w, .inl (cA 4, cap, .inl f))] H := hP
  have hD : va_D A [(r, .inr (6, [.null, .int 0, .int 0, .int 0])), (b, .inr (7, [.ref w, .int 0, .int ml, .int (nI cnt)])), (w, .inl (cA 4, cap, .inl f))] := hD
  refine lv_astore_n (lv' := [(3, .ref w), (0, .ref r), (1, .ref b), (2, .null)]) hx hb dJ0_init_db425_8 rfl hl (by decide) rfl (fun ls hl => ?_)
  refine lv_aload_n hx hb dJ0_init_db425_9 rfl (lv_at hl 2 rfl) ?_
  have hPc : va_P D vwCl ([(r, .inr (6, [.null, .int 0, .int 0, .int 0]))] ++ [(b, .inr (7, [.ref w, .int 0, .int ml, .int (nI cnt)])), (w, .inl (cA 4, cap, .inl f))]) _ := hP.sub [0, 1, 2] rfl
  have hDc : va_D A ([(r, .inr (6, [.null, .int 0, .int 0, .int 0]))] ++ [(b, .inr (7, [.ref w, .int 0, .int ml, .int (nI cnt)])), (w, .inl (cA 4, cap, .inl f))]) := hD.sub [0, 1, 2] (by decide +kernel) rfl
  refine xg_i (X := [(r, .inr (6, [.null, .int 0, .int 0, .int 0]))]) (W' := [(b, .inr (7, [.ref w, .int 0, .int ml, .int (nI cnt)])), (w, .inl (cA 4, cap, .inl f))]) (xr_U (As := []) (rest := []) (b := b) E0_ok (trivial) ⟨hx, hb, hml, hown, hts⟩ hl.1 (kJ4_length l D cA b w ml cnt cap f) (va_cwO 0 hts gJ0_init_db425_J4_length_8abf5_u549J4 rfl rfl rfl (b0 := cJ5_length_8abf5) (m0 := 1) (r0 := some .int) (by decide +kernel) (by decide +kernel) ⟨Nat.le_of_ble_eq_true rfl, Nat.le_of_ble_eq_true rfl⟩) rfl (va_recv hK hP (ci := 7) (q0 := 1) rfl rfl) hK hPc hDc (Nat.le_of_ble_eq_true rfl) dJ0_init_db425_10 ⟨Nat.le_of_ble_eq_true rfl, show 0 + 0 ≤ cnt by omega⟩) hPc hDc hS hA (fun u2 H locs hu2 hP hD hS hnu2 => ?_)
  have hP : va_P D vwCl [(r, .inr (6, [.null, .int 0, .int 0, .int 0])), (b, .inr (7, [.ref w, .int 0, .int ml, .int (nI cnt)])), (w, .inl (cA 4, cap, .inl f))] H := hP
  have hD : va_D A [(r, .inr (6, [.null, .int 0, .int 0, .int 0])), (b, .inr (7, [.ref w, .int 0, .int ml, .int (nI cnt)])), (w, .inl (cA 4, cap, .inl f))] := hD
  refine lv_istore (lv' := [(4, .int (nI cnt)), (3, .ref w), (0, .ref r), (1, .ref b), (2, .null)]) hx hb dJ0_init_db425_13 hl (by decide) rfl (fun ls hl => ?_)
  refine lv_aload_n hx hb dJ0_init_db425_15 rfl (lv_at hl 3 rfl) ?_
  have hPc : va_P D vwCl ([(r, .inr (6, [.null, .int 0, .int 0, .int 0]))] ++ [(b, .inr (7, [.ref w, .int 0, .int ml, .int (nI cnt)])), (w, .inl (cA 4, cap, .inl f))]) _ := hP.sub [0, 1, 2] rfl
  have hDc : va_D A ([(r, .inr (6, [.null, .int 0, .int 0, .int 0]))] ++ [(b, .inr (7, [.ref w, .int 0, .int ml, .int (nI cnt)])), (w, .inl (cA 4, cap, .inl f))]) := hD.sub [0, 1, 2] (by decide +kernel) rfl
  refine xg_i (X := [(r, .inr (6, [.null, .int 0, .int 0, .int 0]))]) (W' := [(b, .inr (7, [.ref w, .int 0, .int ml, .int (nI cnt)])), (w, .inl (cA 4, cap, .inl f))]) (xr_U (As := []) (rest := []) (b := b) EC_ok ((E_in EC_ok hE.1 hDc hS hA)) ⟨hx, hb, hml, hown, hts⟩ hl.1 (kJ5_isLatin1 l D cA b w ml cnt cap f) (va_cwU 0 hts gJ0_init_db425_J5_isLatin1_aae02_u1047J4 rfl rfl rfl rfl (by decide +kernel) ⟨Nat.le_of_ble_eq_true rfl, Nat.le_of_ble_eq_true rfl⟩) rfl (va_recv hK hP (ci := 7) (q0 := 1) rfl rfl) hK hPc hDc (Nat.le_of_ble_eq_true rfl) dJ0_init_db425_16 ⟨Nat.le_of_ble_eq_true rfl, show 0 + 0 ≤ cnt by omega⟩) hPc hDc hS hA (fun u3 H locs hu3 hP hD hS hnu3 => ?_)
  have hP : va_P D vwCl [(r, .inr (6, [.null, .int 0, .int 0, .int 0])), (b, .inr (7, [.ref w, .int 0, .int ml, .int (nI cnt)])), (w, .inl (cA 4, cap, .inl f))] H := hP
  have hD : va_D A [(r, .inr (6, [.null, .int 0, .int 0, .int 0])), (b, .inr (7, [.ref w, .int 0, .int ml, .int (nI cnt)])), (w, .inl (cA 4, cap, .inl f))] := hD
  refine lv_if_eq (tgt := 41) hx hb dJ0_init_db425_19 (by decide) (fun c9 => absurd c9 (by decide)) (fun _ => ?_)
  refine lv_aload_n hx hb dJ0_init_db425_22 rfl (lv_at hl 2 rfl) ?_
  refine lv_iconst (v := 0) hx hb dJ0_init_db425_23 (by decide) ?_
  refine va_putF (D := D) (ci := 6) (v := .int 0) (ty := .byte) (C := RJ0) (T := TJ0) (N := 4) hx hb hts iJ0 tyJ0 tyJ0_ok nmJ0 hown hK hP hD hS 0 rfl rfl 1 (Nat.le_of_ble_eq_true rfl) (hts (.fieldLink RJ0 15 "java/lang/String" "coder" "B") (by decide +kernel)) (fun _ h9 => h9) rfl hin rfl (tyJ0_ok 1 (Nat.le_of_ble_eq_true rfl)) rfl rfl (Nat.le_of_ble_eq_true rfl) dJ0_init_db425_24 (fun H locs hP hD hS => ?_)
  have hP : va_P D vwCl [(r, .inr (6, [.null, .int 0, .int 0, .int 0])), (b, .inr (7, [.ref w, .int 0, .int ml, .int (nI cnt)])), (w, .inl (cA 4, cap, .inl f))] H := hP
  have hD : va_D A [(r, .inr (6, [.null, .int 0, .int 0, .int 0])), (b, .inr (7, [.ref w, .int 0, .int ml, .int (nI cnt)])), (w, .inl (cA 4, cap, .inl f))] := hD
  refine lv_aload_n hx hb dJ0_init_db425_27 rfl (lv_at hl 2 rfl) ?_
  refine lv_aload_n hx hb dJ0_init_db425_28 rfl (lv_at hl 1 rfl) ?_
  refine lv_iconst (v := 0) hx hb dJ0_init_db425_29 (by decide) ?_
  refine lv_iload hx hb dJ0_init_db425_30 (lv_at hl 0 rfl) ?_
  have hPc : va_P D vwCl ([(r, .inr (6, [.null, .int 0, .int 0, .int 0])), (b, .inr (7, [.ref w, .int 0, .int ml, .int (nI cnt)]))] ++ [(w, .inl (cA 4, cap, .inl f))]) _ := hP.sub [0, 1, 2] rfl
  have hDc : va_D A ([(r, .inr (6, [.null, .int 0, .int 0, .int 0])), (b, .inr (7, [.ref w, .int 0, .int ml, .int (nI cnt)]))] ++ [(w, .inl (cA 4, cap, .inl f))]) := hD.sub [0, 1, 2] (by decide +kernel) rfl
  refine xg_r (X := [(r, .inr (6, [.null, .int 0, .int 0, .int 0])), (b, .inr (7, [.ref w, .int 0, .int ml, .int (nI cnt)]))]) (W' := [(w, .inl (cA 4, cap, .inl f))]) (xr_S (As := [.ref w, .int 0, .int (nI cnt)]) (rest := [.ref r]) EK_ok ((E_in EK_ok hE hDc hS hA)) ⟨hx, hb, hml, hown, hts⟩ hl.1 (kJ7_copyOfRange l D cA w cnt cap f hf hcc hc) (va_cwS 3 hts gJ0_init_db425_J7_copyOfRange_39247 rfl rfl rfl (by decide +kernel) ⟨Nat.le_of_ble_eq_true rfl, Nat.le_of_ble_eq_true rfl⟩) rfl hK hPc hDc (Nat.le_of_ble_eq_true rfl) dJ0_init_db425_32 ⟨Nat.le_of_ble_eq_true rfl, show 0 + cnt ≤ cnt by omega⟩) hPc hDc hS hA (fun u4 H locs hu4 hP hD hS => ?_)
  have hP : va_P D vwCl [(r, .inr (6, [.null, .int 0, .int 0, .int 0])), (b, .inr (7, [.ref w, .int 0, .int ml, .int (nI cnt)])), (w, .inl (cA 4, cap, .inl f)), ((u4.1 0), .inl (cA 4, u4.2.2, .inl u4.2.1))] H := hP
  have hD : va_D A [(r, .inr (6, [.null, .int 0, .int 0, .int 0])), (b, .inr (7, [.ref w, .int 0, .int ml, .int (nI cnt)])), (w, .inl (cA 4, cap, .inl f)), ((u4.1 0), .inl (cA 4, u4.2.2, .inl u4.2.1))] := hD
  refine va_putF (D := D) (ci := 6) (v := .ref (u4.1 0)) (ty := .array .byte) (C := RJ0) (T := TJ0) (N := 4) hx hb hts iJ0 tyJ0 tyJ0_ok nmJ0 hown hK hP hD hS 0 rfl rfl 0 (Nat.le_of_ble_eq_true rfl) (hts (.fieldLink RJ0 9 "java/lang/String" "value" "[B") (by decide +kernel)) (fun _ h9 => h9) rfl hin rfl (tyJ0_ok 0 (Nat.le_of_ble_eq_true rfl)) rfl rfl (Nat.le_of_ble_eq_true rfl) dJ0_init_db425_35 (fun H locs hP hD hS => ?_)
  have hP : va_P D vwCl [(r, .inr (6, [.ref (u4.1 0), .int 0, .int 0, .int 0])), (b, .inr (7, [.ref w, .int 0, .int ml, .int (nI cnt)])), (w, .inl (cA 4, cap, .inl f)), ((u4.1 0), .inl (cA 4, u4.2.2, .inl u4.2.1))] H := hP
  have hD : va_D A [(r, .inr (6, [.ref (u4.1 0), .int 0, .int 0, .int 0])), (b, .inr (7, [.ref w, .int 0, .int ml, .int (nI cnt)])), (w, .inl (cA 4, cap, .inl f)), ((u4.1 0), .inl (cA 4, u4.2.2, .inl u4.2.1))] := hD
  refine lv_goto (tgt := 97) hx hb dJ0_init_db425_38 (by decide) ?_
  refine W.widen (k := 1) (n := cnt) (by omega) (by omega) ?_
  exact hret u4 hu4 hP hD hS dJ0_init_db425_97
set_option maxHeartbeats 4000000 in
set_option maxRecDepth 100000 in
theorem kJ0_initS (l : Launch) (D : va_G) (cA : Nat → ClassId) (r : Nat) (b w : Nat) (ml : Int32) (cnt cap : Nat) (f : Nat → Int32) (hf : sb_Fit f) (hcc : cnt ≤ cap) (hc : cap ≤ 902) : MXv l yJ0_init_81219 wsJ0_init_81219 { frames := 4, cells := 1, slots := cnt, locals := 200 } D cA EK [.ref r, .ref b] ((r, .inr (6, [.null, .int 0, .int 0, .int 0])) :: sbW cA b w ml (nI cnt) cap f) (fun u => [(r, .inr (6, [.ref (u.1 0), .int 0, .int 0, .int 0])), (b, .inr (7, [.ref w, .int 0, .int ml, .int (nI cnt)])), (w, .inl (cA 4, cap, .inl f)), (u.1 0, .inl (cA 4, u.2.2, .inl u.2.1))]) (fun u => u.2.2 = cnt ∧ (∀ i, i < cnt → u.2.1 i = f i) ∧ sb_Fit u.2.1) 1 cnt := by
  refine MXv.of (cc := cJ0_init_81219) (maxL := 2) (by decide) rfl (Nat.le_of_ble_eq_true rfl) ?_
  intro p e s m args below meth c A ls Q hx hb hml hin hts hown hK hE hP hD hA hS hl hret
  have hl : lv_has ls 2 [(0, .ref r), (1, .ref b)] := hl
  refine lv_aload_n hx hb dJ0_init_81219_0 rfl (lv_at hl 0 rfl) ?_
  refine lv_aload_n hx hb dJ0_init_81219_1 rfl (lv_at hl 1 rfl) ?_
  refine lv_null hx hb dJ0_init_81219_2 ?_
  have hPc : va_P D vwCl ([] ++ [(r, .inr (6, [.null, .int 0, .int 0, .int 0])), (b, .inr (7, [.ref w, .int 0, .int ml, .int (nI cnt)])), (w, .inl (cA 4, cap, .inl f))]) _ := hP.sub [0, 1, 2] rfl
  have hDc : va_D A ([] ++ [(r, .inr (6, [.null, .int 0, .int 0, .int 0])), (b, .inr (7, [.ref w, .int 0, .int ml, .int (nI cnt)])), (w, .inl (cA 4, cap, .inl f))]) := hD.sub [0, 1, 2] (by decide +kernel) rfl
  refine xg_v (X := []) (W' := [(r, .inr (6, [.null, .int 0, .int 0, .int 0])), (b, .inr (7, [.ref w, .int 0, .int ml, .int (nI cnt)])), (w, .inl (cA 4, cap, .inl f))]) (xr_I (As := [.ref b, .null]) (rest := []) (b := r) EK_ok ((E_in EK_ok hE hDc hS hA)) ⟨hx, hb, hml, hown, hts⟩ hl.1 (kJ0_initA l D cA r b w ml cnt cap f hf hcc hc) (cwI 2 hts gJ0_init_81219_J0_init_db425 rfl rfl rfl (hts (.initialized RJ0) (by decide +kernel)) (hts (.methodLink RJ0 489 yJ0_init_db425) (by decide +kernel)) (hts (.instanceMethod yJ0_init_db425) (by decide +kernel)) rfl (by decide +kernel) ⟨Nat.le_of_ble_eq_true rfl, Nat.le_of_ble_eq_true rfl⟩) rfl hK hPc hDc (Nat.le_of_ble_eq_true rfl) dJ0_init_81219_3 ⟨Nat.le_of_ble_eq_true rfl, show 0 + cnt ≤ cnt by omega⟩) hPc hDc hS hA (fun u1 H locs hu1 hP hD hS => ?_)
  have hP : va_P D vwCl [(r, .inr (6, [.ref (u1.1 0), .int 0, .int 0, .int 0])), (b, .inr (7, [.ref w, .int 0, .int ml, .int (nI cnt)])), (w, .inl (cA 4, cap, .inl f)), ((u1.1 0), .inl (cA 4, u1.2.2, .inl u1.2.1))] H := hP
  have hD : va_D A [(r, .inr (6, [.ref (u1.1 0), .int 0, .int 0, .int 0])), (b, .inr (7, [.ref w, .int 0, .int ml, .int (nI cnt)])), (w, .inl (cA 4, cap, .inl f)), ((u1.1 0), .inl (cA 4, u1.2.2, .inl u1.2.1))] := hD
  refine W.widen (k := 1) (n := cnt) (by omega) (by omega) ?_
  exact hret u1 hu1 hP hD hS dJ0_init_81219_6
set_option maxHeartbeats 4000000 in
set_option maxRecDepth 100000 in
theorem kJ4_toString (l : Launch) (D : va_G) (cA : Nat → ClassId) (b w : Nat) (ml : Int32) (cnt cap : Nat) (f : Nat → Int32) (hf : sb_Fit f) (hcc : cnt ≤ cap) (hc : cap ≤ 902) : MXr l yJ4_toString_0e30d wsJ4_toString_0e30d { frames := 5, cells := 2, slots := (4 + cnt), locals := 230 } D cA EK [.ref b] (sbW cA b w ml (nI cnt) cap f) (fun u => [(u.1 0, .inr (6, [.ref (u.1 1), .int 0, .int 0, .int 0])), (b, .inr (7, [.ref w, .int 0, .int ml, .int (nI cnt)])), (w, .inl (cA 4, cap, .inl f)), (u.1 1, .inl (cA 4, u.2.2, .inl u.2.1))]) (fun u => u.2.2 = cnt ∧ (∀ i, i < cnt → u.2.1 i = f i) ∧ sb_Fit u.2.1) (fun u => u.1 0) 2 (4 + cnt) := by
  refine MXr.of (cc := cJ4_toString_0e30d) (maxL := 1) (by decide) rfl (Or.inl ⟨_, rfl⟩) (Nat.le_of_ble_eq_true rfl) ?_
  intro p e s m args below meth c A ls Q hx hb hml hin hts hown hK hE hP hD hA hS hl hret
  have hl : lv_has ls 1 [(0, .ref b)] := hl
  have iJ0 : ∀ w ∈ wsJ00, w ∈ wsJ4_toString_0e30d := by decide +kernel
  refine va_new (ci := 6) (fs := [.null, .int 0, .int 0, .int 0]) (C := RJ0) (T := TJ0) (N := 4) hx hb hts iJ0 tyJ0 tyJ0_ok hown (hts (.classLink RJ4 18 RJ0) (by decide +kernel)) (hts (.instantiable RJ0 4) (by decide +kernel)) (hts (.initialized RJ0) (by decide +kernel)) hK hP hD hS hA rfl (fun j hj => by rcases (show j = 0 ∨ j = 1 ∨ j = 2 ∨ j = 3 by omega) with rfl | rfl | rfl | rfl <;> rfl) (Nat.le_of_ble_eq_true rfl) (show 0 + 4 ≤ (4 + cnt) by omega) dJ4_toString_0e30d_0 (fun q1 H hP hD hS => ?_)
  have hP : va_P D vwCl [(b, .inr (7, [.ref w, .int 0, .int ml, .int (nI cnt)])), (w, .inl (cA 4, cap, .inl f)), (q1, .inr (6, [.null, .int 0, .int 0, .int 0]))] H := hP
  have hD : va_D A [(b, .inr (7, [.ref w, .int 0, .int ml, .int (nI cnt)])), (w, .inl (cA 4, cap, .inl f)), (q1, .inr (6, [.null, .int 0, .int 0, .int 0]))] := hD
  refine lv_dup hx hb dJ4_toString_0e30d_3 rfl ?_
  refine lv_aload_n hx hb dJ4_toString_0e30d_4 rfl (lv_at hl 0 rfl) ?_
  have hPc : va_P D vwCl ([] ++ [(q1, .inr (6, [.null, .int 0, .int 0, .int 0])), (b, .inr (7, [.ref w, .int 0, .int ml, .int (nI cnt)])), (w, .inl (cA 4, cap, .inl f))]) _ := hP.sub [2, 0, 1] rfl
  have hDc : va_D A ([] ++ [(q1, .inr (6, [.null, .int 0, .int 0, .int 0])), (b, .inr (7, [.ref w, .int 0, .int ml, .int (nI cnt)])), (w, .inl (cA 4, cap, .inl f))]) := hD.sub [2, 0, 1] (by decide +kernel) rfl
  refine xg_v (X := []) (W' := [(q1, .inr (6, [.null, .int 0, .int 0, .int 0])), (b, .inr (7, [.ref w, .int 0, .int ml, .int (nI cnt)])), (w, .inl (cA 4, cap, .inl f))]) (xr_I (As := [.ref b]) (rest := [.ref q1]) (b := q1) EK_ok ((E_in EK_ok hE hDc hS hA)) ⟨hx, hb, hml, hown, hts⟩ hl.1 (kJ0_initS l D cA q1 b w ml cnt cap f hf hcc hc) (cwI 1 hts gJ4_toString_0e30d_J0_init_81219 rfl rfl rfl (hts (.initialized RJ0) (by decide +kernel)) (hts (.methodLink RJ4 137 yJ0_init_81219) (by decide +kernel)) (hts (.instanceMethod yJ0_init_81219) (by decide +kernel)) rfl (by decide +kernel) ⟨Nat.le_of_ble_eq_true rfl, Nat.le_of_ble_eq_true rfl⟩) rfl hK hPc hDc (Nat.le_of_ble_eq_true rfl) dJ4_toString_0e30d_5 ⟨Nat.le_of_ble_eq_true rfl, show (0 + 4) + cnt ≤ (4 + cnt) by omega⟩) hPc hDc hS hA (fun u2 H locs hu2 hP hD hS => ?_)
  have hP : va_P D vwCl [(q1, .inr (6, [.ref (u2.1 0), .int 0, .int 0, .int 0])), (b, .inr (7, [.ref w, .int 0, .int ml, .int (nI cnt)])), (w, .inl (cA 4, cap, .inl f)), ((u2.1 0), .inl (cA 4, u2.2.2, .inl u2.2.1))] H := hP
  have hD : va_D A [(q1, .inr (6, [.ref (u2.1 0), .int 0, .int 0, .int 0])), (b, .inr (7, [.ref w, .int 0, .int ml, .int (nI cnt)])), (w, .inl (cA 4, cap, .inl f)), ((u2.1 0), .inl (cA 4, u2.2.2, .inl u2.2.1))] := hD
  refine W.widen (k := 2) (n := (4 + cnt)) (by omega) (by omega) ?_
  exact hret (fun i => if i = 0 then q1 else u2.1 0, u2.2.1, u2.2.2) hu2 hP hD hS dJ4_toString_0e30d_8

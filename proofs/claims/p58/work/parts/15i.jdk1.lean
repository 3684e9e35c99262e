/-! the JDK's own members over texts: what they read, statics -/
def E0 : (Nat → Prop) → State → Heap → Prop := fun _ _ _ => True
theorem E0_ok : EOK E0 := ⟨fun _ _ _ _ _ _ => trivial, fun _ _ _ _ _ _ => trivial, fun _ _ _ _ _ _ => trivial, fun _ _ _ _ _ _ => trivial⟩
def EC : (Nat → Prop) → State → Heap → Prop := fun A U H => va_Z "java/lang/String" "COMPACT_STRINGS" "Z" (.int 1) A U H
theorem EC_ok : EOK EC := ⟨fun _ _ _ _ hW h => va_Z.moved hW.alike h, fun _ u U _ hv h => va_Z.moved (u := u) (U := U) (by rw [hv]; exact Vm.Alike.refl _) h, fun _ _ _ _ hq h => va_Z.kept h hq, fun _ _ _ _ hAB h => va_Z.narrow h hAB⟩
/-- a text, read only: n letters bs, the String at a, her bytes at v -/
def ES (n : Nat) (bs : List Int32) (a v : Nat) : (Nat → Prop) → State → Heap → Prop := fun A U H => EC A U H ∧ vk_S 1 [n] [bs] (fun _ => a) (fun _ => v) A U H ∧ va_Zq "jdk/internal/util/Preconditions" "SIOOBE_FORMATTER" "Ljava/util/function/BiFunction;" A U H
theorem ES_ok {n : Nat} {bs : List Int32} {a v : Nat} : EOK (ES n bs a v) :=
  ⟨fun A s U H hW h => ⟨EC_ok.1 A s U H hW h.1, h.2.1.moved hW.alike, h.2.2.moved hW.alike⟩,
   fun A u U H hv h => ⟨EC_ok.2.1 A u U H hv h.1, h.2.1.moved (by rw [hv]; exact Vm.Alike.refl _), h.2.2.moved (by rw [hv]; exact Vm.Alike.refl _)⟩,
   fun A U H H1 hq h => ⟨EC_ok.2.2.1 A U H H1 hq h.1, h.2.1.kept hq, h.2.2.kept hq⟩, fun A B U H hAB h => ⟨EC_ok.2.2.2 A B U H hAB h.1, h.2.1.narrow hAB, h.2.2.narrow hAB⟩⟩
/-- what a callee sees of what the caller sees -/
theorem E_in {E : (Nat → Prop) → State → Heap → Prop} (ok : EOK E) {A : Nat → Prop} {s : State} {H : Heap} {locs : List Loc} {X W' : va_W} (hE : E A s s.heap) (hD : va_D A (X ++ W')) (hS : va_S A s.heap H locs) (hA : ∀ q : Nat, s.heap.size ≤ q → A q) : E (va_A W' H.size) s H :=
  ok.2.2.2 A _ s H (xg_free hD hS hA) (ok.2.2.1 A s s.heap H hS.2.1 hE)
abbrev sbW (cA : Nat → ClassId) (b v : Nat) (ml cnt : Int32) (cap : Nat) (f : Nat → Int32) : va_W := [(b, .inr (7, [.ref v, .int 0, .int ml, .int cnt])), (v, .inl (cA 4, cap, .inl f))]
theorem nI_max {a b : Nat} (ha : a < 2 ^ 31) (hb : b < 2 ^ 31) : (if nI a < nI b then nI b else nI a) = nI (if a < b then b else a) := by
  by_cases z : a < b
  · rw [if_pos z, if_pos (nI_lt z hb)]
  · rw [if_neg z, if_neg (nI_nlt (by omega) ha)]
theorem le_sub {q cap : Nat} (h : nI q - nI cap ≤ 0) (hq : q < 2 ^ 30) (hc : cap < 2 ^ 30) : q ≤ cap := by
  have := Int32.le_iff_toInt_le.mp h
  rw [pk_sub_toInt hq hc, Int32.toInt_zero] at this
  omega
theorem nle_sub {q cap : Nat} (h : ¬ nI q - nI cap ≤ 0) (hq : q < 2 ^ 30) (hc : cap < 2 ^ 30) : cap < q := by
  rw [Int32.le_iff_toInt_le, pk_sub_toInt hq hc, Int32.toInt_zero] at h
  omega
set_option maxHeartbeats 4000000 in
set_option maxRecDepth 100000 in
theorem kJ5_init (l : Launch) (D : va_G) (cA : Nat → ClassId) (b : Nat) : MXv l yJ5_init_d00df wsJ5_init_d00df { frames := 1, cells := 1, slots := 16, locals := 40 } D cA EC [.ref b, .int 16] [(b, .inr (7, [.null, .int 0, .int 0, .int 0]))] (fun u => sbW cA b (u.1 0) 0 0 16 (fun _ => 0)) (fun _ => True) 1 16 := by
  refine MXv.of (cc := cJ5_init_d00df) (maxL := 2) (by decide) rfl (Nat.le_of_ble_eq_true rfl) ?_
  intro p e s m args below meth c A ls Q hx hb hml hin hts hown hK hE hP hD hA hS hl hret
  have hl : lv_has ls 2 [(0, .ref b), (1, .int 16)] := hl
  have iJ4 : ∀ w ∈ wsJ40, w ∈ wsJ5_init_d00df := by decide +kernel
  refine lv_aload_n hx hb dJ5_init_d00df_0 rfl (lv_at hl 0 rfl) ?_
  refine W.objInit hx hb hown (hts (.methodLink RJ5 3 objectInit) (by decide +kernel)) (hts (.instanceMethod objectInit) (by decide +kernel)) (hts (.code objectInit ⟨#[0xb1]⟩ 1 none) (by decide +kernel)) rfl (by rw [hml]; exact hl.1) rfl dJ5_init_d00df_1 (Nat.le_of_ble_eq_true rfl) (Nat.le_of_ble_eq_true rfl) ?_
  refine W.eq (g2 := F0 m 4 ls []) rfl ?_
  refine va_gets (v := .int 1) hx hb hE hS hown (hts (.fieldLink RJ5 18 "java/lang/String" "COMPACT_STRINGS" "Z") (by decide +kernel)) (fun _ h => h) dJ5_init_d00df_4 ?_
  refine lv_if_eq (tgt := 25) hx hb dJ5_init_d00df_7 (by decide) (fun c9 => absurd c9 (by decide)) (fun _ => ?_)
  refine lv_aload_n hx hb dJ5_init_d00df_10 rfl (lv_at hl 0 rfl) ?_
  refine lv_iload_n hx hb dJ5_init_d00df_11 rfl (lv_at hl 1 rfl) ?_
  refine xa_newb (N' := 16) hx hb (hts (.arrayClass .byte) (by decide +kernel)) hK hP hD hS hA (by decide) (by decide) (Nat.le_of_ble_eq_true rfl) (Nat.le_of_ble_eq_true rfl) (Nat.le_of_ble_eq_true rfl) dJ5_init_d00df_12 (fun q1 H hP hD hS => ?_)
  have hP : va_P D vwCl [(b, .inr (7, [.null, .int 0, .int 0, .int 0])), (q1, .inl (cA 4, 16, .inl (fun _ => 0)))] H := hP
  have hD : va_D A [(b, .inr (7, [.null, .int 0, .int 0, .int 0])), (q1, .inl (cA 4, 16, .inl (fun _ => 0)))] := hD
  refine va_put (D := D) (ci := 7) (v := .ref q1) (ty := .array .byte) (C := RJ4) (T := TJ4) (N := 4) hx hb hts iJ4 tyJ4 tyJ4_ok nmJ4 hown hK hP hD hS 0 rfl rfl 0 (Nat.le_of_ble_eq_true rfl) (hts (.fieldLink RJ5 15 "java/lang/AbstractStringBuilder" "value" "[B") (by decide +kernel)) (fun _ h9 => h9) rfl (tyJ4_ok 0 (Nat.le_of_ble_eq_true rfl)) rfl rfl (Nat.le_of_ble_eq_true rfl) dJ5_init_d00df_14 (fun H locs hP hD hS => ?_)
  have hP : va_P D vwCl [(b, .inr (7, [.ref q1, .int 0, .int 0, .int 0])), (q1, .inl (cA 4, 16, .inl (fun _ => 0)))] H := hP
  have hD : va_D A [(b, .inr (7, [.ref q1, .int 0, .int 0, .int 0])), (q1, .inl (cA 4, 16, .inl (fun _ => 0)))] := hD
  refine lv_aload_n hx hb dJ5_init_d00df_17 rfl (lv_at hl 0 rfl) ?_
  refine lv_iconst (v := 0) hx hb dJ5_init_d00df_18 (by decide) ?_
  refine va_put (D := D) (ci := 7) (v := .int 0) (ty := .byte) (C := RJ4) (T := TJ4) (N := 4) hx hb hts iJ4 tyJ4 tyJ4_ok nmJ4 hown hK hP hD hS 0 rfl rfl 1 (Nat.le_of_ble_eq_true rfl) (hts (.fieldLink RJ5 22 "java/lang/AbstractStringBuilder" "coder" "B") (by decide +kernel)) (fun _ h9 => h9) rfl (tyJ4_ok 1 (Nat.le_of_ble_eq_true rfl)) rfl rfl (Nat.le_of_ble_eq_true rfl) dJ5_init_d00df_19 (fun H locs hP hD hS => ?_)
  have hP : va_P D vwCl [(b, .inr (7, [.ref q1, .int 0, .int 0, .int 0])), (q1, .inl (cA 4, 16, .inl (fun _ => 0)))] H := hP
  have hD : va_D A [(b, .inr (7, [.ref q1, .int 0, .int 0, .int 0])), (q1, .inl (cA 4, 16, .inl (fun _ => 0)))] := hD
  refine lv_goto (tgt := 38) hx hb dJ5_init_d00df_22 (by decide) ?_
  refine W.widen (k := 1) (n := 16) (by omega) (by omega) ?_
  exact hret (fun _ => q1, fun _ => 0, 0) trivial hP hD hS dJ5_init_d00df_38
set_option maxHeartbeats 4000000 in
set_option maxRecDepth 100000 in
theorem kJ4_init (l : Launch) (D : va_G) (cA : Nat → ClassId) (b : Nat) : MXv l yJ4_init_da8c8 wsJ4_init_da8c8 { frames := 2, cells := 1, slots := 16, locals := 70 } D cA EC [.ref b] [(b, .inr (7, [.null, .int 0, .int 0, .int 0]))] (fun u => sbW cA b (u.1 0) 0 0 16 (fun _ => 0)) (fun _ => True) 1 16 := by
  refine MXv.of (cc := cJ4_init_da8c8) (maxL := 1) (by decide) rfl (Nat.le_of_ble_eq_true rfl) ?_
  intro p e s m args below meth c A ls Q hx hb hml hin hts hown hK hE hP hD hA hS hl hret
  have hl : lv_has ls 1 [(0, .ref b)] := hl
  refine lv_aload_n hx hb dJ4_init_da8c8_0 rfl (lv_at hl 0 rfl) ?_
  refine lv_bipush (v := 16) hx hb dJ4_init_da8c8_1 (by decide) ?_
  have hPc : va_P D vwCl ([] ++ [(b, .inr (7, [.null, .int 0, .int 0, .int 0]))]) _ := hP.sub [0] rfl
  have hDc : va_D A ([] ++ [(b, .inr (7, [.null, .int 0, .int 0, .int 0]))]) := hD.sub [0] (by decide +kernel) rfl
  refine xg_v (X := []) (W' := [(b, .inr (7, [.null, .int 0, .int 0, .int 0]))]) (xr_I (As := [.int 16]) (rest := []) (b := b) EC_ok (E_in EC_ok hE hDc hS hA) ⟨hx, hb, hml, hown, hts⟩ hl.1 (kJ5_init l D cA b) (cwI 1 hts gJ4_init_da8c8_J5_init_d00df rfl rfl rfl (hts (.initialized RJ5) (by decide +kernel)) (hts (.methodLink RJ4 1 yJ5_init_d00df) (by decide +kernel)) (hts (.instanceMethod yJ5_init_d00df) (by decide +kernel)) rfl (by decide +kernel) ⟨Nat.le_of_ble_eq_true rfl, Nat.le_of_ble_eq_true rfl⟩) rfl hK hPc hDc (Nat.le_of_ble_eq_true rfl) dJ4_init_da8c8_3 ⟨Nat.le_of_ble_eq_true rfl, Nat.le_of_ble_eq_true rfl⟩) hPc hDc hS hA (fun u1 H locs hu1 hP hD hS => ?_)
  have hP : va_P D vwCl [(b, .inr (7, [.ref (u1.1 0), .int 0, .int 0, .int 0])), ((u1.1 0), .inl (cA 4, 16, .inl (fun _ => 0)))] H := hP
  have hD : va_D A [(b, .inr (7, [.ref (u1.1 0), .int 0, .int 0, .int 0])), ((u1.1 0), .inl (cA 4, 16, .inl (fun _ => 0)))] := hD
  refine W.widen (k := 1) (n := 16) (by omega) (by omega) ?_
  exact hret u1 trivial hP hD hS dJ4_init_da8c8_6
set_option maxHeartbeats 4000000 in
set_option maxRecDepth 100000 in
theorem kJ8_newLength (l : Launch) (D : va_G) (cA : Nat → ClassId) (o mn pr : Nat) (h1 : o + mn + pr < 1000000) (h2 : 0 < pr) : MXi l yJ8_newLength_cabcc wsJ8_newLength_cabcc { frames := 1, cells := 0, slots := 0, locals := 40 } D cA E0 .int [.int (nI o), .int (nI mn), .int (nI pr)] [] (fun u => []) (fun _ => True) (fun _ => nI (o + (if mn < pr then pr else mn))) 0 0 := by
  refine MXi.of (cc := cJ8_newLength_cabcc) (maxL := 4) (by decide +kernel) rfl (Nat.le_of_ble_eq_true rfl) ?_
  intro p e s m args below meth c A ls Q hx hb hml hin hts hown hK hE hP hD hA hS hl hret
  have hl : lv_has ls 4 [(0, .int (nI o)), (1, .int (nI mn)), (2, .int (nI pr))] := hl
  refine lv_iload_n hx hb dJ8_newLength_cabcc_0 rfl (lv_at hl 0 rfl) ?_
  refine lv_iload_n hx hb dJ8_newLength_cabcc_1 rfl (lv_at hl 1 rfl) ?_
  refine lv_iload_n hx hb dJ8_newLength_cabcc_2 rfl (lv_at hl 2 rfl) ?_
  refine va_mmax hx hb (by rw [hml, hl.1]) hown (hts (.methodLink RJ8 194 Lib.Math.max.name) (by decide +kernel)) (hts (.static Lib.Math.max.name) (by decide +kernel)) (hts (.initialized "java/lang/Math") (by decide +kernel)) (hts (.code Lib.Math.max.name Lib.Math.max.code 2 (some .int)) (by decide +kernel)) (Nat.le_of_ble_eq_true rfl) (Nat.le_of_ble_eq_true rfl) (Nat.le_of_ble_eq_true rfl) (Nat.le_of_ble_eq_true rfl) dJ8_newLength_cabcc_3 ?_
  refine lv_topi (fun y9 hy9 => ?_)
  obtain rfl : y9 = nI (if mn < pr then pr else mn) := hy9.trans (nI_max (by omega) (by omega))
  refine lv_iadd hx hb dJ8_newLength_cabcc_6 ?_
  refine lv_topi (fun y9 hy9 => ?_)
  obtain rfl : y9 = nI (o + (if mn < pr then pr else mn)) := hy9.trans (nI_add _ _)
  refine lv_istore_n (lv' := [(3, .int (nI (o + (if mn < pr then pr else mn)))), (0, .int (nI o)), (1, .int (nI mn)), (2, .int (nI pr))]) hx hb dJ8_newLength_cabcc_7 rfl hl (by decide) rfl (fun ls hl => ?_)
  refine lv_iconst (v := 0) hx hb dJ8_newLength_cabcc_8 (by decide) ?_
  refine lv_iload_n hx hb dJ8_newLength_cabcc_9 rfl (lv_at hl 0 rfl) ?_
  refine lv_icmp_ge (tgt := 21) hx hb dJ8_newLength_cabcc_10 (by decide) (fun c9 => absurd c9 (nI_nle (by split <;> omega) (by split <;> omega))) (fun _ => ?_)
  refine lv_iload_n hx hb dJ8_newLength_cabcc_13 rfl (lv_at hl 0 rfl) ?_
  refine lv_ldc (v := 2147483639) hx hb hown (hts (.constant RJ8 200 (2147483639)) (by decide +kernel)) dJ8_newLength_cabcc_14 ?_
  refine lv_icmp_gt (tgt := 21) hx hb dJ8_newLength_cabcc_16 (by decide) (fun c9 => absurd c9 (show ¬ (nI 2147483639) < _ from nI_nlt (by split <;> omega) (by decide))) (fun _ => ?_)
  refine lv_iload_n hx hb dJ8_newLength_cabcc_19 rfl (lv_at hl 0 rfl) ?_
  exact hret (fun _ => 0, fun _ => 0, 0) trivial hP hD hS rfl dJ8_newLength_cabcc_20
set_option maxHeartbeats 4000000 in
set_option maxRecDepth 100000 in
theorem kJ5_newCapacity (l : Launch) (D : va_G) (cA : Nat → ClassId) (b v : Nat) (ml : Int32) (cnt cap : Nat) (f : Nat → Int32) (q : Nat) (h1 : cap < q) (h2 : q ≤ 450) : MXi l yJ5_newCapacity_0f7a4 wsJ5_newCapacity_0f7a4 { frames := 2, cells := 0, slots := 0, locals := 70 } D cA E0 .int [.ref b, .int (nI q)] (sbW cA b v ml (nI cnt) cap f) (fun u => sbW cA b v ml (nI cnt) cap f) (fun _ => True) (fun _ => nI (cap + (if q - cap < cap + 2 then cap + 2 else q - cap))) 0 0 := by
  refine MXi.of (cc := cJ5_newCapacity_0f7a4) (maxL := 6) (by decide +kernel) rfl (Nat.le_of_ble_eq_true rfl) ?_
  intro p e s m args below meth c A ls Q hx hb hml hin hts hown hK hE hP hD hA hS hl hret
  have hl : lv_has ls 6 [(0, .ref b), (1, .int (nI q))] := hl
  have iJ4 : ∀ w ∈ wsJ40, w ∈ wsJ5_newCapacity_0f7a4 := by decide +kernel
  refine lv_aload_n hx hb dJ5_newCapacity_0f7a4_0 rfl (lv_at hl 0 rfl) ?_
  refine va_get (D := D) (ci := 7) (v := .ref v) (C := RJ4) (T := TJ4) (N := 4) hx hb hts iJ4 hown hK hP 0 rfl rfl 0 (Nat.le_of_ble_eq_true rfl) (hts (.fieldLink RJ5 15 "java/lang/AbstractStringBuilder" "value" "[B") (by decide +kernel)) (fun _ h9 => h9) rfl dJ5_newCapacity_0f7a4_1 ?_
  refine va_alen (v := nI cap) hx hb hK hP 1 4 rfl rfl rfl dJ5_newCapacity_0f7a4_4 ?_
  refine lv_istore_n (lv' := [(2, .int (nI cap)), (0, .ref b), (1, .int (nI q))]) hx hb dJ5_newCapacity_0f7a4_5 rfl hl (by decide) rfl (fun ls hl => ?_)
  refine lv_iload_n hx hb dJ5_newCapacity_0f7a4_6 rfl (lv_at hl 2 rfl) ?_
  refine lv_aload_n hx hb dJ5_newCapacity_0f7a4_7 rfl (lv_at hl 1 rfl) ?_
  refine va_get (D := D) (ci := 7) (v := .int 0) (C := RJ4) (T := TJ4) (N := 4) hx hb hts iJ4 hown hK hP 0 rfl rfl 1 (Nat.le_of_ble_eq_true rfl) (hts (.fieldLink RJ5 22 "java/lang/AbstractStringBuilder" "coder" "B") (by decide +kernel)) (fun _ h9 => h9) rfl dJ5_newCapacity_0f7a4_8 ?_
  refine lv_ishl hx hb dJ5_newCapacity_0f7a4_11 ?_
  refine lv_topi (fun y9 hy9 => ?_)
  obtain rfl : y9 = nI q := hy9.trans (sb_shl0 _)
  refine lv_istore_n (lv' := [(3, .int (nI q)), (2, .int (nI cap)), (0, .ref b), (1, .int (nI q))]) hx hb dJ5_newCapacity_0f7a4_12 rfl hl (by decide) rfl (fun ls hl => ?_)
  refine lv_iload_n hx hb dJ5_newCapacity_0f7a4_13 rfl (lv_at hl 0 rfl) ?_
  refine lv_iload_n hx hb dJ5_newCapacity_0f7a4_14 rfl (lv_at hl 1 rfl) ?_
  refine lv_isub hx hb dJ5_newCapacity_0f7a4_15 ?_
  refine lv_topi (fun y9 hy9 => ?_)
  obtain rfl : y9 = nI (q - cap) := hy9.trans (pk_sub (by omega))
  refine lv_istore (lv' := [(4, .int (nI (q - cap))), (3, .int (nI q)), (2, .int (nI cap)), (0, .ref b), (1, .int (nI q))]) hx hb dJ5_newCapacity_0f7a4_16 hl (by decide) rfl (fun ls hl => ?_)
  refine lv_iload_n hx hb dJ5_newCapacity_0f7a4_18 rfl (lv_at hl 2 rfl) ?_
  refine lv_iload hx hb dJ5_newCapacity_0f7a4_19 (lv_at hl 0 rfl) ?_
  refine lv_iload_n hx hb dJ5_newCapacity_0f7a4_21 rfl (lv_at hl 2 rfl) ?_
  refine lv_iconst (v := 2) hx hb dJ5_newCapacity_0f7a4_22 (by decide) ?_
  refine lv_aload_n hx hb dJ5_newCapacity_0f7a4_23 rfl (lv_at hl 3 rfl) ?_
  refine va_get (D := D) (ci := 7) (v := .int 0) (C := RJ4) (T := TJ4) (N := 4) hx hb hts iJ4 hown hK hP 0 rfl rfl 1 (Nat.le_of_ble_eq_true rfl) (hts (.fieldLink RJ5 22 "java/lang/AbstractStringBuilder" "coder" "B") (by decide +kernel)) (fun _ h9 => h9) rfl dJ5_newCapacity_0f7a4_24 ?_
  refine lv_ishl hx hb dJ5_newCapacity_0f7a4_27 ?_
  refine lv_topi (fun y9 hy9 => ?_)
  obtain rfl : y9 = 2 := hy9.trans (sb_shl0 _)
  refine lv_iadd hx hb dJ5_newCapacity_0f7a4_28 ?_
  refine lv_topi (fun y9 hy9 => ?_)
  obtain rfl : y9 = nI (cap + 2) := hy9.trans (nI_add cap 2)
  have hPc : va_P D vwCl ([(b, .inr (7, [.ref v, .int 0, .int ml, .int (nI cnt)])), (v, .inl (cA 4, cap, .inl f))] ++ []) _ := hP.sub [0, 1] rfl
  have hDc : va_D A ([(b, .inr (7, [.ref v, .int 0, .int ml, .int (nI cnt)])), (v, .inl (cA 4, cap, .inl f))] ++ []) := hD.sub [0, 1] (by decide +kernel) rfl
  refine xg_i (X := [(b, .inr (7, [.ref v, .int 0, .int ml, .int (nI cnt)])), (v, .inl (cA 4, cap, .inl f))]) (W' := []) (xr_S (As := [.int (nI cap), .int (nI (q - cap)), .int (nI (cap + 2))]) (rest := []) E0_ok (trivial) ⟨hx, hb, hml, hown, hts⟩ hl.1 (kJ8_newLength l D cA cap (q - cap) (cap + 2) (by omega) (by omega)) (va_cwS 3 hts gJ5_newCapacity_0f7a4_J8_newLength_cabcc rfl rfl rfl (by decide +kernel) ⟨Nat.le_of_ble_eq_true rfl, Nat.le_of_ble_eq_true rfl⟩) rfl hK hPc hDc (Nat.le_of_ble_eq_true rfl) dJ5_newCapacity_0f7a4_29 ⟨Nat.le_of_ble_eq_true rfl, Nat.le_of_ble_eq_true rfl⟩) hPc hDc hS hA (fun u1 H locs hu1 hP hD hS hnu1 => ?_)
  have hP : va_P D vwCl [(b, .inr (7, [.ref v, .int 0, .int ml, .int (nI cnt)])), (v, .inl (cA 4, cap, .inl f))] H := hP
  have hD : va_D A [(b, .inr (7, [.ref v, .int 0, .int ml, .int (nI cnt)])), (v, .inl (cA 4, cap, .inl f))] := hD
  refine lv_istore (lv' := [(5, .int (nI (cap + (if q - cap < cap + 2 then cap + 2 else q - cap)))), (4, .int (nI (q - cap))), (3, .int (nI q)), (2, .int (nI cap)), (0, .ref b), (1, .int (nI q))]) hx hb dJ5_newCapacity_0f7a4_32 hl (by decide) rfl (fun ls hl => ?_)
  refine lv_iload hx hb dJ5_newCapacity_0f7a4_34 (lv_at hl 0 rfl) ?_
  refine lv_ldc (v := 2147483647) hx hb hown (hts (.constant RJ5 39 (2147483647)) (by decide +kernel)) dJ5_newCapacity_0f7a4_36 ?_
  refine lv_icmp_ne (tgt := 51) hx hb dJ5_newCapacity_0f7a4_38 (by decide) (fun _ => ?_) (fun c9 => absurd c9 (show ¬ nI (cap + (if q - cap < cap + 2 then cap + 2 else q - cap)) = nI 2147483647 from fun z => by have := (nI_eq (by split <;> omega) (by decide)).mp z; split at this <;> omega))
  refine lv_iload hx hb dJ5_newCapacity_0f7a4_51 (lv_at hl 0 rfl) ?_
  refine lv_aload_n hx hb dJ5_newCapacity_0f7a4_53 rfl (lv_at hl 4 rfl) ?_
  refine va_get (D := D) (ci := 7) (v := .int 0) (C := RJ4) (T := TJ4) (N := 4) hx hb hts iJ4 hown hK hP 0 rfl rfl 1 (Nat.le_of_ble_eq_true rfl) (hts (.fieldLink RJ5 22 "java/lang/AbstractStringBuilder" "coder" "B") (by decide +kernel)) (fun _ h9 => h9) rfl dJ5_newCapacity_0f7a4_54 ?_
  refine lv_ishr hx hb dJ5_newCapacity_0f7a4_57 ?_
  refine lv_topi (fun y9 hy9 => ?_)
  obtain rfl : y9 = nI (cap + (if q - cap < cap + 2 then cap + 2 else q - cap)) := hy9.trans (sb_shr0 _)
  exact hret (fun _ => 0, fun _ => 0, 0) trivial hP hD hS rfl dJ5_newCapacity_0f7a4_58
set_option maxHeartbeats 4000000 in
set_option maxRecDepth 100000 in
theorem kJ7_copyOf (l : Launch) (D : va_G) (cA : Nat → ClassId) (v n q : Nat) (f : Nat → Int32) (hf : sb_Fit f) (h1 : n < q) (h2 : q ≤ 1000) : MXr l yJ7_copyOf_9075b wsJ7_copyOf_9075b { frames := 1, cells := 1, slots := q, locals := 90 } D cA E0 [.ref v, .int (nI q)] [(v, .inl (cA 4, n, .inl f))] (fun u => [(v, .inl (cA 4, n, .inl f)), (u.1 0, .inl (cA 4, q, .inl (va_cpy f (fun _ => 0) 0 0 n)))]) (fun _ => True) (fun u => u.1 0) 1 q := by
  refine MXr.of (cc := cJ7_copyOf_9075b) (maxL := 3) (by decide) rfl (Or.inr ⟨_, rfl⟩) (Nat.le_of_ble_eq_true rfl) ?_
  intro p e s m args below meth c A ls Q hx hb hml hin hts hown hK hE hP hD hA hS hl hret
  have hl : lv_has ls 3 [(0, .ref v), (1, .int (nI q))] := hl
  refine lv_iload_n hx hb dJ7_copyOf_9075b_0 rfl (lv_at hl 1 rfl) ?_
  refine lv_aload_n hx hb dJ7_copyOf_9075b_1 rfl (lv_at hl 0 rfl) ?_
  refine va_alen (v := nI n) hx hb hK hP 0 4 rfl rfl rfl dJ7_copyOf_9075b_2 ?_
  refine lv_icmp_ne (tgt := 14) hx hb dJ7_copyOf_9075b_3 (by decide) (fun _ => ?_) (fun c9 => absurd c9 (fun z => by have := (nI_eq (by omega) (by omega)).mp z; omega))
  refine lv_iload_n hx hb dJ7_copyOf_9075b_14 rfl (lv_at hl 1 rfl) ?_
  refine xa_newb (N' := q) hx hb (hts (.arrayClass .byte) (by decide +kernel)) hK hP hD hS hA (nI_pos (by omega)) (nI_clamp (by omega)) (by omega) (Nat.le_of_ble_eq_true rfl) (show 0 + q ≤ q by omega) dJ7_copyOf_9075b_15 (fun q1 H hP hD hS => ?_)
  have hP : va_P D vwCl [(v, .inl (cA 4, n, .inl f)), (q1, .inl (cA 4, q, .inl (fun _ => 0)))] H := hP
  have hD : va_D A [(v, .inl (cA 4, n, .inl f)), (q1, .inl (cA 4, q, .inl (fun _ => 0)))] := hD
  refine lv_astore_n (lv' := [(2, .ref q1), (0, .ref v), (1, .int (nI q))]) hx hb dJ7_copyOf_9075b_17 rfl hl (by decide) rfl (fun ls hl => ?_)
  refine lv_aload_n hx hb dJ7_copyOf_9075b_18 rfl (lv_at hl 1 rfl) ?_
  refine lv_iconst (v := 0) hx hb dJ7_copyOf_9075b_19 (by decide) ?_
  refine lv_aload_n hx hb dJ7_copyOf_9075b_20 rfl (lv_at hl 0 rfl) ?_
  refine lv_iconst (v := 0) hx hb dJ7_copyOf_9075b_21 (by decide) ?_
  refine lv_aload_n hx hb dJ7_copyOf_9075b_22 rfl (lv_at hl 1 rfl) ?_
  refine va_alen (v := nI n) hx hb hK hP 0 4 rfl rfl rfl dJ7_copyOf_9075b_23 ?_
  refine lv_iload_n hx hb dJ7_copyOf_9075b_24 rfl (lv_at hl 2 rfl) ?_
  refine va_mmin hx hb (by rw [hml, hl.1]) hown (hts (.methodLink RJ7 304 Lib.Math.min.name) (by decide +kernel)) (hts (.static Lib.Math.min.name) (by decide +kernel)) (hts (.initialized "java/lang/Math") (by decide +kernel)) (hts (.code Lib.Math.min.name Lib.Math.min.code 2 (some .int)) (by decide +kernel)) (Nat.le_of_ble_eq_true rfl) (Nat.le_of_ble_eq_true rfl) (Nat.le_of_ble_eq_true rfl) (show (0 + q) + 0 ≤ q by omega) dJ7_copyOf_9075b_25 ?_
  refine lv_topi (fun y9 hy9 => ?_)
  obtain rfl : y9 = nI n := hy9.trans (by rw [if_neg (nI_nlt (by omega) (by omega))])
  refine va_copyi hx hb (by rw [hml, hl.1]) hown (hts (.methodLink RJ7 150 arraycopyName) (by decide +kernel)) (hts (.native arraycopyName) (by decide +kernel)) (hts (.static arraycopyName) (by decide +kernel)) (hts (.initialized "java/lang/System") (by decide +kernel)) hK hP hD hS 0 1 4 4 rfl rfl rfl rfl rfl (by decide) (by decide) (nI_pos (by omega)) (by rw [nI_clamp (by omega)]; show 0 + n ≤ n; omega) (by rw [nI_clamp (by omega)]; show 0 + n ≤ q; omega) (fun i _ => hf _) (Nat.le_of_ble_eq_true rfl) (Nat.le_of_ble_eq_true rfl) dJ7_copyOf_9075b_28 (fun H locs hP hD hS => ?_)
  rw [nI_clamp (show n < 2 ^ 31 by omega)] at hP hD
  have hP : va_P D vwCl [(v, .inl (cA 4, n, .inl f)), (q1, .inl (cA 4, q, .inl (va_cpy f (fun _ => 0) 0 0 n)))] H := hP
  have hD : va_D A [(v, .inl (cA 4, n, .inl f)), (q1, .inl (cA 4, q, .inl (va_cpy f (fun _ => 0) 0 0 n)))] := hD
  refine lv_aload_n hx hb dJ7_copyOf_9075b_31 rfl (lv_at hl 0 rfl) ?_
  refine W.widen (k := 1) (n := q) (by omega) (by omega) ?_
  exact hret (fun _ => q1, fun _ => 0, 0) trivial hP hD hS dJ7_copyOf_9075b_32
set_option maxHeartbeats 4000000 in
set_option maxRecDepth 100000 in
theorem kJ5_ensure (l : Launch) (D : va_G) (cA : Nat → ClassId) (b v : Nat) (ml : Int32) (cnt cap : Nat) (f : Nat → Int32) (q : Nat) (hf : sb_Fit f) (hc : cap ≤ 902) (hq2 : q ≤ 450) : MXv l yJ5_ensureCapacityInternal_d00df wsJ5_ensureCapacityInternal_d00df { frames := 3, cells := 1, slots := 902, locals := 130 } D cA E0 [.ref b, .int (nI q)] (sbW cA b v ml (nI cnt) cap f) (fun u => sbW cA b (u.1 0) ml (nI cnt) u.2.2 u.2.1) (fun u => q ≤ u.2.2 ∧ u.2.2 ≤ 902 ∧ (∀ i, i < cap → u.2.1 i = f i) ∧ sb_Fit u.2.1) 1 902 := by
  refine MXv.of (cc := cJ5_ensureCapacityInternal_d00df) (maxL := 3) (by decide) rfl (Nat.le_of_ble_eq_true rfl) ?_
  intro p e s m args below meth c A ls Q hx hb hml hin hts hown hK hE hP hD hA hS hl hret
  have hl : lv_has ls 3 [(0, .ref b), (1, .int (nI q))] := hl
  have iJ4 : ∀ w ∈ wsJ40, w ∈ wsJ5_ensureCapacityInternal_d00df := by decide +kernel
  refine lv_aload_n hx hb dJ5_ensureCapacityInternal_d00df_0 rfl (lv_at hl 0 rfl) ?_
  refine va_get (D := D) (ci := 7) (v := .ref v) (C := RJ4) (T := TJ4) (N := 4) hx hb hts iJ4 hown hK hP 0 rfl rfl 0 (Nat.le_of_ble_eq_true rfl) (hts (.fieldLink RJ5 15 "java/lang/AbstractStringBuilder" "value" "[B") (by decide +kernel)) (fun _ h9 => h9) rfl dJ5_ensureCapacityInternal_d00df_1 ?_
  refine va_alen (v := nI cap) hx hb hK hP 1 4 rfl rfl rfl dJ5_ensureCapacityInternal_d00df_4 ?_
  refine lv_aload_n hx hb dJ5_ensureCapacityInternal_d00df_5 rfl (lv_at hl 0 rfl) ?_
  refine va_get (D := D) (ci := 7) (v := .int 0) (C := RJ4) (T := TJ4) (N := 4) hx hb hts iJ4 hown hK hP 0 rfl rfl 1 (Nat.le_of_ble_eq_true rfl) (hts (.fieldLink RJ5 22 "java/lang/AbstractStringBuilder" "coder" "B") (by decide +kernel)) (fun _ h9 => h9) rfl dJ5_ensureCapacityInternal_d00df_6 ?_
  refine lv_ishr hx hb dJ5_ensureCapacityInternal_d00df_9 ?_
  refine lv_topi (fun y9 hy9 => ?_)
  obtain rfl : y9 = nI cap := hy9.trans (sb_shr0 _)
  refine lv_istore_n (lv' := [(2, .int (nI cap)), (0, .ref b), (1, .int (nI q))]) hx hb dJ5_ensureCapacityInternal_d00df_10 rfl hl (by decide) rfl (fun ls hl => ?_)
  refine lv_iload_n hx hb dJ5_ensureCapacityInternal_d00df_11 rfl (lv_at hl 2 rfl) ?_
  refine lv_iload_n hx hb dJ5_ensureCapacityInternal_d00df_12 rfl (lv_at hl 0 rfl) ?_
  refine lv_isub hx hb dJ5_ensureCapacityInternal_d00df_13 ?_
  refine lv_if_le (tgt := 38) hx hb dJ5_ensureCapacityInternal_d00df_14 (by decide) (fun c1 => ?_) (fun c1 => ?_)
  · refine W.widen (k := 1) (n := 902) (by omega) (by omega) ?_
    exact hret (fun _ => v, f, cap) ⟨by have := (le_sub c1 (by omega) (by omega)); omega, by omega, fun _ _ => rfl, hf⟩ hP hD hS dJ5_ensureCapacityInternal_d00df_38
  · have hq : cap < q := nle_sub c1 (by omega) (by omega)
    have hNL : cap + (if q - cap < cap + 2 then cap + 2 else q - cap) ≤ 902 := by split <;> omega
    refine lv_aload_n hx hb dJ5_ensureCapacityInternal_d00df_17 rfl (lv_at hl 1 rfl) ?_
    refine lv_aload_n hx hb dJ5_ensureCapacityInternal_d00df_18 rfl (lv_at hl 1 rfl) ?_
    refine va_get (D := D) (ci := 7) (v := .ref v) (C := RJ4) (T := TJ4) (N := 4) hx hb hts iJ4 hown hK hP 0 rfl rfl 0 (Nat.le_of_ble_eq_true rfl) (hts (.fieldLink RJ5 15 "java/lang/AbstractStringBuilder" "value" "[B") (by decide +kernel)) (fun _ h9 => h9) rfl dJ5_ensureCapacityInternal_d00df_19 ?_
    refine lv_aload_n hx hb dJ5_ensureCapacityInternal_d00df_22 rfl (lv_at hl 1 rfl) ?_
    refine lv_iload_n hx hb dJ5_ensureCapacityInternal_d00df_23 rfl (lv_at hl 2 rfl) ?_
    have hPc : va_P D vwCl ([] ++ [(b, .inr (7, [.ref v, .int 0, .int ml, .int (nI cnt)])), (v, .inl (cA 4, cap, .inl f))]) _ := hP.sub [0, 1] rfl
    have hDc : va_D A ([] ++ [(b, .inr (7, [.ref v, .int 0, .int ml, .int (nI cnt)])), (v, .inl (cA 4, cap, .inl f))]) := hD.sub [0, 1] (by decide +kernel) rfl
    refine xg_i (X := []) (W' := [(b, .inr (7, [.ref v, .int 0, .int ml, .int (nI cnt)])), (v, .inl (cA 4, cap, .inl f))]) (xr_U (As := [.int (nI q)]) (rest := [.ref v, .ref b]) (b := b) E0_ok (trivial) ⟨hx, hb, hml, hown, hts⟩ hl.1 (kJ5_newCapacity l D cA b v ml cnt cap f q hq (by omega)) (va_cwU 1 hts gJ5_ensureCapacityInternal_d00df_J5_newCapacity_0f7a4_u104J4 rfl rfl rfl rfl (by decide +kernel) ⟨Nat.le_of_ble_eq_true rfl, Nat.le_of_ble_eq_true rfl⟩) rfl (va_recv hK hP (ci := 7) (q0 := 0) rfl rfl) hK hPc hDc (Nat.le_of_ble_eq_true rfl) dJ5_ensureCapacityInternal_d00df_24 ⟨Nat.le_of_ble_eq_true rfl, Nat.le_of_ble_eq_true rfl⟩) hPc hDc hS hA (fun u1 H locs hu1 hP hD hS hnu1 => ?_)
    have hP : va_P D vwCl [(b, .inr (7, [.ref v, .int 0, .int ml, .int (nI cnt)])), (v, .inl (cA 4, cap, .inl f))] H := hP
    have hD : va_D A [(b, .inr (7, [.ref v, .int 0, .int ml, .int (nI cnt)])), (v, .inl (cA 4, cap, .inl f))] := hD
    refine lv_aload_n hx hb dJ5_ensureCapacityInternal_d00df_27 rfl (lv_at hl 1 rfl) ?_
    refine va_get (D := D) (ci := 7) (v := .int 0) (C := RJ4) (T := TJ4) (N := 4) hx hb hts iJ4 hown hK hP 0 rfl rfl 1 (Nat.le_of_ble_eq_true rfl) (hts (.fieldLink RJ5 22 "java/lang/AbstractStringBuilder" "coder" "B") (by decide +kernel)) (fun _ h9 => h9) rfl dJ5_ensureCapacityInternal_d00df_28 ?_
    refine lv_ishl hx hb dJ5_ensureCapacityInternal_d00df_31 ?_
    refine lv_topi (fun y9 hy9 => ?_)
    obtain rfl : y9 = nI (cap + (if q - cap < cap + 2 then cap + 2 else q - cap)) := hy9.trans (sb_shl0 _)
    have hPc : va_P D vwCl ([(b, .inr (7, [.ref v, .int 0, .int ml, .int (nI cnt)]))] ++ [(v, .inl (cA 4, cap, .inl f))]) _ := hP.sub [0, 1] rfl
    have hDc : va_D A ([(b, .inr (7, [.ref v, .int 0, .int ml, .int (nI cnt)]))] ++ [(v, .inl (cA 4, cap, .inl f))]) := hD.sub [0, 1] (by decide +kernel) rfl
    refine xg_r (X := [(b, .inr (7, [.ref v, .int 0, .int ml, .int (nI cnt)]))]) (W' := [(v, .inl (cA 4, cap, .inl f))]) (xr_S (As := [.ref v, .int (nI (cap + (if q - cap < cap + 2 then cap + 2 else q - cap)))]) (rest := [.ref b]) E0_ok (trivial) ⟨hx, hb, hml, hown, hts⟩ hl.1 (kJ7_copyOf l D cA v cap (cap + (if q - cap < cap + 2 then cap + 2 else q - cap)) f hf (by split <;> omega) (by split <;> omega)) (va_cwS 2 hts gJ5_ensureCapacityInternal_d00df_J7_copyOf_9075b rfl rfl rfl (by decide +kernel) ⟨Nat.le_of_ble_eq_true rfl, Nat.le_of_ble_eq_true rfl⟩) rfl hK hPc hDc (Nat.le_of_ble_eq_true rfl) dJ5_ensureCapacityInternal_d00df_32 ⟨Nat.le_of_ble_eq_true rfl, show 0 + (cap + (if q - cap < cap + 2 then cap + 2 else q - cap)) ≤ 902 by omega⟩) hPc hDc hS hA (fun u2 H locs hu2 hP hD hS => ?_)
    have hP : va_P D vwCl [(b, .inr (7, [.ref v, .int 0, .int ml, .int (nI cnt)])), (v, .inl (cA 4, cap, .inl f)), ((u2.1 0), .inl (cA 4, cap + (if q - cap < cap + 2 then cap + 2 else q - cap), .inl (va_cpy f (fun _ => 0) 0 0 cap)))] H := hP
    have hD : va_D A [(b, .inr (7, [.ref v, .int 0, .int ml, .int (nI cnt)])), (v, .inl (cA 4, cap, .inl f)), ((u2.1 0), .inl (cA 4, cap + (if q - cap < cap + 2 then cap + 2 else q - cap), .inl (va_cpy f (fun _ => 0) 0 0 cap)))] := hD
    refine va_put (D := D) (ci := 7) (v := .ref (u2.1 0)) (ty := .array .byte) (C := RJ4) (T := TJ4) (N := 4) hx hb hts iJ4 tyJ4 tyJ4_ok nmJ4 hown hK hP hD hS 0 rfl rfl 0 (Nat.le_of_ble_eq_true rfl) (hts (.fieldLink RJ5 15 "java/lang/AbstractStringBuilder" "value" "[B") (by decide +kernel)) (fun _ h9 => h9) rfl (tyJ4_ok 0 (Nat.le_of_ble_eq_true rfl)) rfl rfl (Nat.le_of_ble_eq_true rfl) dJ5_ensureCapacityInternal_d00df_35 (fun H locs hP hD hS => ?_)
    have hP : va_P D vwCl [(b, .inr (7, [.ref (u2.1 0), .int 0, .int ml, .int (nI cnt)])), (v, .inl (cA 4, cap, .inl f)), ((u2.1 0), .inl (cA 4, cap + (if q - cap < cap + 2 then cap + 2 else q - cap), .inl (va_cpy f (fun _ => 0) 0 0 cap)))] H := hP
    have hD : va_D A [(b, .inr (7, [.ref (u2.1 0), .int 0, .int ml, .int (nI cnt)])), (v, .inl (cA 4, cap, .inl f)), ((u2.1 0), .inl (cA 4, cap + (if q - cap < cap + 2 then cap + 2 else q - cap), .inl (va_cpy f (fun _ => 0) 0 0 cap)))] := hD
    have hP : va_P D vwCl (sbW cA b (u2.1 0) ml (nI cnt) (cap + (if q - cap < cap + 2 then cap + 2 else q - cap)) (va_cpy f (fun _ => 0) 0 0 cap)) H := hP.sub [0, 2] rfl
    have hD : va_D A (sbW cA b (u2.1 0) ml (nI cnt) (cap + (if q - cap < cap + 2 then cap + 2 else q - cap)) (va_cpy f (fun _ => 0) 0 0 cap)) := hD.sub [0, 2] (by decide +kernel) rfl
    refine W.widen (k := 1) (n := 902) (by omega) (by split <;> omega) ?_
    exact hret (fun _ => u2.1 0, va_cpy f (fun _ => 0) 0 0 cap, cap + (if q - cap < cap + 2 then cap + 2 else q - cap)) ⟨by show q ≤ cap + (if q - cap < cap + 2 then cap + 2 else q - cap); split <;> omega, hNL, fun i hi => by show va_cpy f (fun _ => 0) 0 0 cap i = f i; exact sb_cpy0 hi, sb_fitC hf sb_fit0⟩ hP hD hS dJ5_ensureCapacityInternal_d00df_38

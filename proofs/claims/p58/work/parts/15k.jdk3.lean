/-! numbers below 100 told as texts; a text out of a builder -/
def dgO (j : Nat) : Int32 := nI (48 + j % 10)
def dgT (j : Nat) : Int32 := nI (48 + j / 10)
/-- the letters of a number below 100 -/
def dgs (x : Nat) : List Int32 := if x < 10 then [dgO x] else [dgT x, dgO x]
def dgn (x : Nat) : Nat := if x < 10 then 1 else 2
def ED (tO tT : Nat) : (Nat → Prop) → State → Heap → Prop := fun A U H => EC A U H ∧ va_Z "java/lang/Integer" "DigitOnes" "[B" (.ref tO) A U H ∧ va_T .byte tO 100 (fun j => .int (dgO j)) A U H ∧ va_Z "java/lang/Integer" "DigitTens" "[B" (.ref tT) A U H ∧ va_T .byte tT 100 (fun j => .int (dgT j)) A U H
theorem ED_ok {tO tT : Nat} : EOK (ED tO tT) :=
  ⟨fun A s U H hW h => ⟨EC_ok.1 A s U H hW h.1, h.2.1.moved hW.alike, h.2.2.1.moved hW.alike, h.2.2.2.1.moved hW.alike, h.2.2.2.2.moved hW.alike⟩,
   fun A u U H hv h => ⟨EC_ok.2.1 A u U H hv h.1, h.2.1.moved (by rw [hv]; exact Vm.Alike.refl _), h.2.2.1.moved (by rw [hv]; exact Vm.Alike.refl _), h.2.2.2.1.moved (by rw [hv]; exact Vm.Alike.refl _), h.2.2.2.2.moved (by rw [hv]; exact Vm.Alike.refl _)⟩,
   fun A U H H1 hq h => ⟨EC_ok.2.2.1 A U H H1 hq h.1, h.2.1.kept hq, h.2.2.1.kept hq, h.2.2.2.1.kept hq, h.2.2.2.2.kept hq⟩,
   fun A B U H hAB h => ⟨EC_ok.2.2.2 A B U H hAB h.1, h.2.1.narrow hAB, h.2.2.1.narrow hAB, h.2.2.2.1.narrow hAB, h.2.2.2.2.narrow hAB⟩⟩
/-- a row of bytes may be cloned -/
def EK : (Nat → Prop) → State → Heap → Prop := fun A U H => EC A U H ∧ va_Nw (.castable "[B" "java/lang/Cloneable") U
theorem EK_ok : EOK EK :=
  ⟨fun A s U H hW h => ⟨EC_ok.1 A s U H hW h.1, va_Nw.warmC hW h.2⟩, fun A u U H hv h => ⟨EC_ok.2.1 A u U H hv h.1, va_Nw.same rfl hv.symm h.2⟩,
   fun A U H H1 hq h => ⟨EC_ok.2.2.1 A U H H1 hq h.1, h.2⟩, fun A B U H hAB h => ⟨EC_ok.2.2.2 A B U H hAB h.1, h.2⟩⟩
theorem ss_1 : ∀ x, x < 100 → ((-(nI x) ≤ (-10)) ↔ 10 ≤ x) := by decide +kernel
theorem ss_2 : ∀ x, x < 100 → ¬ (-(nI x) ≤ (-100)) := by decide +kernel
theorem ss_3 : ∀ x, x < 100 → ((-100) < -(nI x)) := by decide +kernel
theorem ss_4 : ∀ x, x < 100 → (((-9) ≤ -(nI x)) ↔ x < 10) := by decide +kernel
theorem ss_5 : ∀ x, x < 100 → -(-(nI x)) = nI x := by decide +kernel
theorem dg_b1 : ∀ x, x < 100 → vp_nar .byte (dgO x) = dgO x := by decide +kernel
theorem dg_b2 : ∀ x, x < 100 → vp_nar .byte (dgT x) = dgT x := by decide +kernel
theorem dg_f1 : ∀ x, x < 100 → fits .byte (.int (dgO x)) = true := by decide +kernel
theorem dg_f2 : ∀ x, x < 100 → fits .byte (.int (dgT x)) = true := by decide +kernel
theorem dgn_in (x : Nat) : 1 ≤ dgn x ∧ dgn x ≤ 2 := by unfold dgn; split <;> omega
theorem xa_bast {p : Program} {l : Launch} {e : Env} {R : Room} {s : State} {m : MethodId} {args : Array Value} {below : List Frame} {meth : Method} {c : Code} {H : Heap} {locs : List Loc} {cells slots : Nat} {Q : State → Prop}
    {cc : ByteArray} {pc : Nat} {ls : Array Slot} {rest : List Value} {D : va_G} {cA : Nat → ClassId} {A : Nat → Prop} {a : Nat} {ws : va_W} {H0 : Heap} (hx : p.tables.exec = Jvm.exec) (hb : c.code = cc) (hK : va_K D vwCl (TY cA) s) (hP : va_P D vwCl ws H) (hD : va_D A ws) (hS : va_S A H0 H locs) (q0 : Nat) {n : Nat} {f g : Nat → Int32} (ha : ws[q0]? = some (a, .inl (cA 4, n, .inl f))) {i x : Int32} (hin : vp_in i n) (hv : upd f i.toNatClampNeg (vp_nar .byte x) = g) (hdg : decode cc pc = .ok (.bastore, 1))
    (kk : ∀ (H1 : Heap) (locs1 : List Loc), va_P D vwCl (ws.set q0 (a, .inl (cA 4, n, .inl g))) H1 → va_D A (ws.set q0 (a, .inl (cA 4, n, .inl g))) → va_S A H0 H1 locs1 → W p l e R s m args below meth c H1 locs1 cells slots Q (F0 m (pc + 1) ls rest)) : W p l e R s m args below meth c H locs cells slots Q (F0 m pc ls (.int x :: .int i :: .ref a :: rest)) := by
  subst hv; exact va_bast hx hb hK hP hD hS q0 4 ha rfl hin hdg kk
theorem zI_nd {k : Nat} (h : 1 ≤ k) : nI k + (-1) = nI (k - 1) := by
  have e : nI k - nI 1 = nI (k - 1) := pk_sub h
  rw [← e, Int32.sub_eq_add_neg]
  rfl
set_option maxHeartbeats 4000000 in
set_option maxRecDepth 100000 in
theorem kJ6_stringSize (l : Launch) (D : va_G) (cA : Nat → ClassId) (x : Nat) (hx9 : x < 100) : MXi l yJ6_stringSize_0f7a4 wsJ6_stringSize_0f7a4 { frames := 0, cells := 0, slots := 0, locals := 0 } D cA E0 .int [.int (nI x)] [] (fun u => []) (fun _ => True) (fun _ => nI (dgn x)) 0 0 := by
  refine MXi.of (cc := cJ6_stringSize_0f7a4) (maxL := 4) (by decide +kernel) rfl (Nat.le_of_ble_eq_true rfl) ?_
  intro p e s m args below meth c A ls Q hx hb hml hin hts hown hK hE hP hD hA hS hl hret
  have hl : lv_has ls 4 [(0, .int (nI x))] := hl
  refine lv_iconst (v := 1) hx hb dJ6_stringSize_0f7a4_0 (by decide) ?_
  refine lv_istore_n (lv' := [(1, .int 1), (0, .int (nI x))]) hx hb dJ6_stringSize_0f7a4_1 rfl hl (by decide) rfl (fun ls hl => ?_)
  refine lv_iload_n hx hb dJ6_stringSize_0f7a4_2 rfl (lv_at hl 1 rfl) ?_
  refine lv_if_lt (tgt := 11) hx hb dJ6_stringSize_0f7a4_3 (by decide) (fun c9 => absurd c9 (nI_pos (by omega))) (fun _ => ?_)
  refine lv_iconst (v := 0) hx hb dJ6_stringSize_0f7a4_6 (by decide) ?_
  refine lv_istore_n (lv' := [(1, .int 0), (0, .int (nI x))]) hx hb dJ6_stringSize_0f7a4_7 rfl hl (by decide) rfl (fun ls hl => ?_)
  refine lv_iload_n hx hb dJ6_stringSize_0f7a4_8 rfl (lv_at hl 1 rfl) ?_
  refine lv_ineg hx hb dJ6_stringSize_0f7a4_9 ?_
  refine lv_istore_n (lv' := [(0, .int (-(nI x))), (1, .int 0)]) hx hb dJ6_stringSize_0f7a4_10 rfl hl (by decide) rfl (fun ls hl => ?_)
  refine lv_bipush (v := (-10)) hx hb dJ6_stringSize_0f7a4_11 (by decide) ?_
  refine lv_istore_n (lv' := [(2, .int (-10)), (0, .int (-(nI x))), (1, .int 0)]) hx hb dJ6_stringSize_0f7a4_13 rfl hl (by decide) rfl (fun ls hl => ?_)
  refine lv_iconst (v := 1) hx hb dJ6_stringSize_0f7a4_14 (by decide) ?_
  refine lv_istore_n (lv' := [(3, .int 1), (2, .int (-10)), (0, .int (-(nI x))), (1, .int 0)]) hx hb dJ6_stringSize_0f7a4_15 rfl hl (by decide) rfl (fun ls hl => ?_)
  refine lv_iload_n hx hb dJ6_stringSize_0f7a4_16 rfl (lv_at hl 0 rfl) ?_
  refine lv_bipush (v := 10) hx hb dJ6_stringSize_0f7a4_17 (by decide) ?_
  refine lv_icmp_ge (tgt := 42) hx hb dJ6_stringSize_0f7a4_19 (by decide) (fun c9 => absurd c9 (by decide)) (fun _ => ?_)
  refine lv_iload_n hx hb dJ6_stringSize_0f7a4_22 rfl (lv_at hl 2 rfl) ?_
  refine lv_iload_n hx hb dJ6_stringSize_0f7a4_23 rfl (lv_at hl 1 rfl) ?_
  refine lv_icmp_le (tgt := 31) hx hb dJ6_stringSize_0f7a4_24 (by decide) (fun c1 => ?_) (fun c1 => ?_)
  · refine lv_bipush (v := 10) hx hb dJ6_stringSize_0f7a4_31 (by decide) ?_
    refine lv_iload_n hx hb dJ6_stringSize_0f7a4_33 rfl (lv_at hl 1 rfl) ?_
    refine lv_imul hx hb dJ6_stringSize_0f7a4_34 ?_
    refine lv_topi (fun y9 hy9 => ?_)
    obtain rfl : y9 = (-100) := hy9.trans (by decide)
    refine lv_istore_n (lv' := [(2, .int (-100)), (3, .int 1), (0, .int (-(nI x))), (1, .int 0)]) hx hb dJ6_stringSize_0f7a4_35 rfl hl (by decide) rfl (fun ls hl => ?_)
    refine lv_iinc (v := 2) (lv' := [(3, .int 2), (2, .int (-100)), (0, .int (-(nI x))), (1, .int 0)]) hx hb dJ6_stringSize_0f7a4_36 hl (k := 1) rfl (by decide) (by decide) rfl (fun ls hl => ?_)
    refine lv_goto (tgt := 16) hx hb dJ6_stringSize_0f7a4_39 (by decide) ?_
    refine lv_iload_n hx hb dJ6_stringSize_0f7a4_16 rfl (lv_at hl 0 rfl) ?_
    refine lv_bipush (v := 10) hx hb dJ6_stringSize_0f7a4_17 (by decide) ?_
    refine lv_icmp_ge (tgt := 42) hx hb dJ6_stringSize_0f7a4_19 (by decide) (fun c9 => absurd c9 (by decide)) (fun _ => ?_)
    refine lv_iload_n hx hb dJ6_stringSize_0f7a4_22 rfl (lv_at hl 2 rfl) ?_
    refine lv_iload_n hx hb dJ6_stringSize_0f7a4_23 rfl (lv_at hl 1 rfl) ?_
    refine lv_icmp_le (tgt := 31) hx hb dJ6_stringSize_0f7a4_24 (by decide) (fun c9 => absurd c9 (ss_2 x hx9)) (fun _ => ?_)
    refine lv_iload_n hx hb dJ6_stringSize_0f7a4_27 rfl (lv_at hl 0 rfl) ?_
    refine lv_iload_n hx hb dJ6_stringSize_0f7a4_28 rfl (lv_at hl 3 rfl) ?_
    refine lv_iadd hx hb dJ6_stringSize_0f7a4_29 ?_
    refine lv_topi (fun y9 hy9 => ?_)
    obtain rfl : y9 = nI (dgn x) := hy9.trans (by rw [dgn, if_neg (by have := (ss_1 x hx9).mp c1; omega)]; rfl)
    exact hret (fun _ => 0, fun _ => 0, 0) trivial hP hD hS rfl dJ6_stringSize_0f7a4_30
  · refine lv_iload_n hx hb dJ6_stringSize_0f7a4_27 rfl (lv_at hl 0 rfl) ?_
    refine lv_iload_n hx hb dJ6_stringSize_0f7a4_28 rfl (lv_at hl 3 rfl) ?_
    refine lv_iadd hx hb dJ6_stringSize_0f7a4_29 ?_
    refine lv_topi (fun y9 hy9 => ?_)
    obtain rfl : y9 = nI (dgn x) := hy9.trans (by rw [dgn, if_pos (Nat.lt_of_not_le (fun z => c1 ((ss_1 x hx9).mpr z)))]; rfl)
    exact hret (fun _ => 0, fun _ => 0, 0) trivial hP hD hS rfl dJ6_stringSize_0f7a4_30
set_option maxHeartbeats 4000000 in
set_option maxRecDepth 100000 in
theorem kJ5_isLatin1 (l : Launch) (D : va_G) (cA : Nat → ClassId) (b v : Nat) (ml : Int32) (cnt cap : Nat) (f : Nat → Int32)  : MXi l yJ5_isLatin1_aae02 wsJ5_isLatin1_aae02 { frames := 0, cells := 0, slots := 0, locals := 0 } D cA EC .boolean [.ref b] (sbW cA b v ml (nI cnt) cap f) (fun u => sbW cA b v ml (nI cnt) cap f) (fun _ => True) (fun _ => 1) 0 0 := by
  refine MXi.of (cc := cJ5_isLatin1_aae02) (maxL := 1) (by decide +kernel) rfl (Nat.le_of_ble_eq_true rfl) ?_
  intro p e s m args below meth c A ls Q hx hb hml hin hts hown hK hE hP hD hA hS hl hret
  have hl : lv_has ls 1 [(0, .ref b)] := hl
  have iJ4 : ∀ w ∈ wsJ40, w ∈ wsJ5_isLatin1_aae02 := by decide +kernel
  refine va_gets (v := .int 1) hx hb hE hS hown (hts (.fieldLink RJ5 18 "java/lang/String" "COMPACT_STRINGS" "Z") (by decide +kernel)) (fun _ h => h) dJ5_isLatin1_aae02_0 ?_
  refine lv_if_eq (tgt := 17) hx hb dJ5_isLatin1_aae02_3 (by decide) (fun c9 => absurd c9 (by decide)) (fun _ => ?_)
  refine lv_aload_n hx hb dJ5_isLatin1_aae02_6 rfl (lv_at hl 0 rfl) ?_
  refine va_get (D := D) (ci := 7) (v := .int 0) (C := RJ4) (T := TJ4) (N := 4) hx hb hts iJ4 hown hK hP 0 rfl rfl 1 (Nat.le_of_ble_eq_true rfl) (hts (.fieldLink RJ5 22 "java/lang/AbstractStringBuilder" "coder" "B") (by decide +kernel)) (fun _ h9 => h9) rfl dJ5_isLatin1_aae02_7 ?_
  refine lv_if_ne (tgt := 17) hx hb dJ5_isLatin1_aae02_10 (by decide) (fun c9 => absurd (rfl) c9) (fun _ => ?_)
  refine lv_iconst (v := 1) hx hb dJ5_isLatin1_aae02_13 (by decide) ?_
  refine lv_goto (tgt := 18) hx hb dJ5_isLatin1_aae02_14 (by decide) ?_
  exact hret (fun _ => 0, fun _ => 0, 0) trivial hP hD hS rfl dJ5_isLatin1_aae02_18
set_option maxHeartbeats 4000000 in
set_option maxRecDepth 100000 in
theorem kJ6_getChars (l : Launch) (D : va_G) (cA : Nat → ClassId) (tO tT : Nat) (x k d cap : Nat) (f : Nat → Int32) (hx9 : x < 100) (hk : dgn x ≤ k) (hkc : k ≤ cap) (hc : cap ≤ 1000) (hf : sb_Fit f) : MXi l yJ6_getChars_ba4f3 wsJ6_getChars_ba4f3 { frames := 0, cells := 0, slots := 0, locals := 0 } D cA (ED tO tT) .int [.int (nI x), .int (nI k), .ref d] [(d, .inl (cA 4, cap, .inl f))] (fun u => [(d, .inl (cA 4, cap, .inl u.2.1))]) (fun u => sb_Fit u.2.1 ∧ (∀ i, i < k - dgn x → u.2.1 i = f i) ∧ ∀ i, i < dgn x → u.2.1 (k - dgn x + i) = (dgs x).getD i 0) (fun _ => nI (k - dgn x)) 0 0 := by
  refine MXi.of (cc := cJ6_getChars_ba4f3) (maxL := 7) (by decide +kernel) rfl (Nat.le_of_ble_eq_true rfl) ?_
  intro p e s m args below meth c A ls Q hx hb hml hin hts hown hK hE hP hD hA hS hl hret
  have hl : lv_has ls 7 [(0, .int (nI x)), (1, .int (nI k)), (2, .ref d)] := hl
  have hk0 := dgn_in x
  refine lv_iload_n hx hb dJ6_getChars_ba4f3_0 rfl (lv_at hl 1 rfl) ?_
  refine lv_istore (lv' := [(5, .int (nI k)), (0, .int (nI x)), (1, .int (nI k)), (2, .ref d)]) hx hb dJ6_getChars_ba4f3_1 hl (by decide) rfl (fun ls hl => ?_)
  refine lv_iload_n hx hb dJ6_getChars_ba4f3_3 rfl (lv_at hl 1 rfl) ?_
  refine lv_if_ge (tgt := 11) hx hb dJ6_getChars_ba4f3_4 (by decide) (fun _ => ?_) (fun c9 => absurd (nI_pos' (by omega)) c9)
  refine lv_iconst (v := 0) hx hb dJ6_getChars_ba4f3_11 (by decide) ?_
  refine lv_istore (lv' := [(6, .int 0), (5, .int (nI k)), (0, .int (nI x)), (1, .int (nI k)), (2, .ref d)]) hx hb dJ6_getChars_ba4f3_12 hl (by decide) rfl (fun ls hl => ?_)
  refine lv_iload hx hb dJ6_getChars_ba4f3_14 (lv_at hl 0 rfl) ?_
  refine lv_if_ne (tgt := 22) hx hb dJ6_getChars_ba4f3_16 (by decide) (fun c9 => absurd (rfl) c9) (fun _ => ?_)
  refine lv_iload_n hx hb dJ6_getChars_ba4f3_19 rfl (lv_at hl 2 rfl) ?_
  refine lv_ineg hx hb dJ6_getChars_ba4f3_20 ?_
  refine lv_istore_n (lv' := [(0, .int (-(nI x))), (6, .int 0), (5, .int (nI k)), (1, .int (nI k)), (2, .ref d)]) hx hb dJ6_getChars_ba4f3_21 rfl hl (by decide) rfl (fun ls hl => ?_)
  refine lv_iload_n hx hb dJ6_getChars_ba4f3_22 rfl (lv_at hl 0 rfl) ?_
  refine lv_bipush (v := (-100)) hx hb dJ6_getChars_ba4f3_23 (by decide) ?_
  refine lv_icmp_gt (tgt := 72) hx hb dJ6_getChars_ba4f3_25 (by decide) (fun _ => ?_) (fun c9 => absurd (ss_3 x hx9) c9)
  refine lv_aload_n hx hb dJ6_getChars_ba4f3_72 rfl (lv_at hl 4 rfl) ?_
  refine lv_iinc (v := nI (k - 1)) (lv' := [(5, .int (nI (k - 1))), (0, .int (-(nI x))), (6, .int 0), (1, .int (nI k)), (2, .ref d)]) hx hb dJ6_getChars_ba4f3_73 hl (k := 2) rfl (zI_nd (by omega)) (by decide) rfl (fun ls hl => ?_)
  refine lv_iload hx hb dJ6_getChars_ba4f3_76 (lv_at hl 0 rfl) ?_
  refine va_gets (v := .ref tO) hx hb hE.2.1 hS hown (hts (.fieldLink RJ6 83 "java/lang/Integer" "DigitOnes" "[B") (by decide +kernel)) (fun _ h => h) dJ6_getChars_ba4f3_78 ?_
  refine lv_iload_n hx hb dJ6_getChars_ba4f3_81 rfl (lv_at hl 1 rfl) ?_
  refine lv_ineg hx hb dJ6_getChars_ba4f3_82 ?_
  refine lv_topi (fun y9 hy9 => ?_)
  obtain rfl : y9 = nI x := hy9.trans (ss_5 x hx9)
  refine va_tb (v := .int (dgO x)) hx hb hE.2.2.1 hS (vp_in_nI hx9 (by decide)) (by rw [nI_clamp (by omega)]) dJ6_getChars_ba4f3_83 ?_
  refine xa_bast (g := upd f (k - 1) (dgO x)) hx hb hK hP hD hS 0 rfl (vp_in_nI (by omega) (by omega)) (by rw [nI_clamp (by omega), dg_b1 x hx9]) dJ6_getChars_ba4f3_84 (fun H locs hP hD hS => ?_)
  have hP : va_P D vwCl [(d, .inl (cA 4, cap, .inl (upd f (k - 1) (dgO x))))] H := hP
  have hD : va_D A [(d, .inl (cA 4, cap, .inl (upd f (k - 1) (dgO x))))] := hD
  refine lv_iload_n hx hb dJ6_getChars_ba4f3_85 rfl (lv_at hl 1 rfl) ?_
  refine lv_bipush (v := (-9)) hx hb dJ6_getChars_ba4f3_86 (by decide) ?_
  refine lv_icmp_ge (tgt := 104) hx hb dJ6_getChars_ba4f3_88 (by decide) (fun c1 => ?_) (fun c1 => ?_)
  · refine lv_iload hx hb dJ6_getChars_ba4f3_104 (lv_at hl 2 rfl) ?_
    refine lv_if_eq (tgt := 118) hx hb dJ6_getChars_ba4f3_106 (by decide) (fun _ => ?_) (fun c9 => absurd (rfl) c9)
    have e1 : dgn x = 1 := if_pos ((ss_4 x hx9).mp c1)
    refine lv_iload hx hb dJ6_getChars_ba4f3_118 (lv_at hl 0 rfl) ?_
    refine lv_topi (fun y9 hy9 => ?_)
    obtain rfl : y9 = nI (k - dgn x) := hy9.trans (by rw [e1])
    have e2 : dgs x = [dgO x] := if_pos ((ss_4 x hx9).mp c1)
    refine hret (fun _ => 0, upd f (k - 1) (dgO x), 0) ⟨sb_fitU hf (dg_f1 x hx9), fun i hi => ?_, fun i hi => ?_⟩ hP hD hS rfl dJ6_getChars_ba4f3_120
    · show (upd f (k - 1) (dgO x)) i = f i
      rw [pk_un (by omega)]
    · show (upd f (k - 1) (dgO x)) (k - dgn x + i) = _
      rw [e1] at hi ⊢
      obtain rfl : i = 0 := by omega
      rw [e2, show k - 1 + 0 = k - 1 by omega]; exact if_pos rfl
  · have e1 : dgn x = 2 := if_neg (fun z => c1 ((ss_4 x hx9).mpr z))
    have hk1 : 2 ≤ k := by omega
    refine lv_aload_n hx hb dJ6_getChars_ba4f3_91 rfl (lv_at hl 4 rfl) ?_
    refine lv_iinc (v := nI (k - 1 - 1)) (lv' := [(5, .int (nI (k - 1 - 1))), (0, .int (-(nI x))), (6, .int 0), (1, .int (nI k)), (2, .ref d)]) hx hb dJ6_getChars_ba4f3_92 hl (k := 0) rfl (zI_nd (by omega)) (by decide) rfl (fun ls hl => ?_)
    refine lv_iload hx hb dJ6_getChars_ba4f3_95 (lv_at hl 0 rfl) ?_
    refine va_gets (v := .ref tT) hx hb hE.2.2.2.1 hS hown (hts (.fieldLink RJ6 87 "java/lang/Integer" "DigitTens" "[B") (by decide +kernel)) (fun _ h => h) dJ6_getChars_ba4f3_97 ?_
    refine lv_iload_n hx hb dJ6_getChars_ba4f3_100 rfl (lv_at hl 1 rfl) ?_
    refine lv_ineg hx hb dJ6_getChars_ba4f3_101 ?_
    refine lv_topi (fun y9 hy9 => ?_)
    obtain rfl : y9 = nI x := hy9.trans (ss_5 x hx9)
    refine va_tb (v := .int (dgT x)) hx hb hE.2.2.2.2 hS (vp_in_nI hx9 (by decide)) (by rw [nI_clamp (by omega)]) dJ6_getChars_ba4f3_102 ?_
    refine xa_bast (g := upd (upd f (k - 1) (dgO x)) (k - 1 - 1) (dgT x)) hx hb hK hP hD hS 0 rfl (vp_in_nI (by omega) (by omega)) (by rw [nI_clamp (by omega), dg_b2 x hx9]) dJ6_getChars_ba4f3_103 (fun H locs hP hD hS => ?_)
    have hP : va_P D vwCl [(d, .inl (cA 4, cap, .inl (upd (upd f (k - 1) (dgO x)) (k - 1 - 1) (dgT x))))] H := hP
    have hD : va_D A [(d, .inl (cA 4, cap, .inl (upd (upd f (k - 1) (dgO x)) (k - 1 - 1) (dgT x))))] := hD
    refine lv_iload hx hb dJ6_getChars_ba4f3_104 (lv_at hl 2 rfl) ?_
    refine lv_if_eq (tgt := 118) hx hb dJ6_getChars_ba4f3_106 (by decide) (fun _ => ?_) (fun c9 => absurd (rfl) c9)
    refine lv_iload hx hb dJ6_getChars_ba4f3_118 (lv_at hl 0 rfl) ?_
    refine lv_topi (fun y9 hy9 => ?_)
    obtain rfl : y9 = nI (k - dgn x) := hy9.trans (by rw [e1, Nat.sub_sub])
    have e2 : dgs x = [dgT x, dgO x] := if_neg (fun z => c1 ((ss_4 x hx9).mpr z))
    refine hret (fun _ => 0, upd (upd f (k - 1) (dgO x)) (k - 1 - 1) (dgT x), 0) ⟨sb_fitU (sb_fitU hf (dg_f1 x hx9)) (dg_f2 x hx9), fun i hi => ?_, fun i hi => ?_⟩ hP hD hS rfl dJ6_getChars_ba4f3_120
    · show (upd (upd f (k - 1) (dgO x)) (k - 1 - 1) (dgT x)) i = f i
      rw [pk_un (by omega), pk_un (by omega)]
    · show (upd (upd f (k - 1) (dgO x)) (k - 1 - 1) (dgT x)) (k - dgn x + i) = _
      rw [e1] at hi ⊢
      rcases (show i = 0 ∨ i = 1 by omega) with rfl | rfl
      · rw [e2, show k - 2 + 0 = k - 1 - 1 by omega]; exact if_pos rfl
      · rw [e2, pk_un (by omega), show k - 2 + 1 = k - 1 by omega]; exact if_pos rfl

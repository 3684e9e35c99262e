/-! THE START: classes, arrays, the String constants, what only nest mates may link, the statics -/
def tmS : Nat → Term
  | 0 => .string "ModeDesk$Reader" 60
  | 1 => .string "ModeDesk$Reader" 68
  | 2 => .string "ModeDesk$Reader" 73
  | 3 => .string "ModeDesk$Reader" 77
  | 4 => .string "ModeDeskLaw" 219
  | 5 => .string "ModeDeskLaw" 221
  | 6 => .string "ModeDeskLaw" 223
  | 7 => .string "ModeDeskLaw" 225
  | 8 => .string "ModeDeskLaw" 21
  | 9 => .string "ModeDeskLaw" 62
  | 10 => .string "ModeDeskLaw" 67
  | 11 => .string "ModeDeskLaw" 76
  | _ => .string "ModeDeskLaw" 81
def gvF : List Cond := flatC (Jvm.Cond.and given_1 narrow_1)
set_option maxRecDepth 20000 in
theorem gv_ex : ∀ i : Nat, i < 13 → Cond.exactly (tmS i) "java/lang/String" ∈ gvF := by decide +kernel
set_option maxRecDepth 20000 in
theorem gv_co : ∀ i : Nat, i < 13 → Cond.eq (.field (tmS i) "java/lang/String" "coder" "B") (.int 0) ∈ gvF := by decide +kernel
set_option maxRecDepth 20000 in
theorem gv_ar : ∀ i : Nat, i < 13 → Cond.arrayOf (.field (tmS i) "java/lang/String" "value" "[B") .byte ∈ gvF := by decide +kernel
set_option maxRecDepth 20000 in
theorem gv_le : ∀ i : Nat, i < 13 → Cond.eq (.length (.field (tmS i) "java/lang/String" "value" "[B")) (.int (Int32.ofNat (lenS.getD i 0))) ∈ gvF := by decide +kernel
def gvE : List Nat := [338, 353, 372, 391, 498, 523, 548, 575, 271, 279, 294, 309, 320]
def gvN : List (Nat × Nat) := [(0, 0), (1, 367), (1, 385), (1, 403), (1, 511), (1, 535), (1, 561), (1, 587), (0, 344), (0, 345), (0, 346), (0, 347), (0, 348), (0, 367), (0, 0), (1, 386), (1, 404), (1, 512), (1, 536), (1, 562), (1, 588), (0, 362), (0, 363), (0, 364), (0, 365), (0, 366), (0, 385), (0, 386), (0, 0), (1, 405), (1, 513), (1, 537), (1, 563), (1, 589), (0, 380), (0, 381), (0, 382), (0, 383), (0, 384), (0, 403), (0, 404), (0, 405), (0, 0), (1, 514), (1, 538), (1, 564), (1, 590), (0, 398), (0, 399), (0, 400), (0, 401), (0, 402), (0, 511), (0, 512), (0, 513), (0, 514), (0, 0), (1, 543), (1, 569), (1, 595), (0, 506), (0, 507), (0, 508), (0, 509), (0, 510), (0, 535), (0, 536), (0, 537), (0, 538), (0, 543), (0, 0), (1, 570), (1, 596), (0, 530), (0, 531), (0, 532), (0, 533), (0, 534), (0, 561), (0, 562), (0, 563), (0, 564), (0, 569), (0, 570), (0, 0), (1, 597), (0, 556), (0, 557), (0, 558), (0, 559), (0, 560), (0, 587), (0, 588), (0, 589), (0, 590), (0, 595), (0, 596), (0, 597), (0, 0), (0, 582), (0, 583), (0, 584), (0, 585), (0, 586), (1, 344), (1, 362), (1, 380), (1, 398), (1, 506), (1, 530), (1, 556), (1, 582), (0, 0), (1, 289), (1, 303), (1, 313), (1, 330), (1, 345), (1, 363), (1, 381), (1, 399), (1, 507), (1, 531), (1, 557), (1, 583), (0, 289), (0, 0), (1, 304), (1, 314), (1, 331), (1, 346), (1, 364), (1, 382), (1, 400), (1, 508), (1, 532), (1, 558), (1, 584), (0, 303), (0, 304), (0, 0), (1, 315), (1, 332), (1, 347), (1, 365), (1, 383), (1, 401), (1, 509), (1, 533), (1, 559), (1, 585), (0, 313), (0, 314), (0, 315), (0, 0), (1, 333), (1, 348), (1, 366), (1, 384), (1, 402), (1, 510), (1, 534), (1, 560), (1, 586), (0, 330), (0, 331), (0, 332), (0, 333), (0, 0)]
set_option maxRecDepth 20000 in
theorem gv_el0 : ∀ i : Nat, i < 13 → ∀ j : Nat, j < lenS.getD i 0 → gvF[gvE.getD i 0 + j]? = some (Cond.eq (.elem (.field (tmS i) "java/lang/String" "value" "[B") (.int (Int32.ofNat j))) (.int ((bytS.getD i []).getD j 0))) := by decide +kernel
theorem gv_el : ∀ i : Nat, i < 13 → ∀ j : Nat, j < lenS.getD i 0 → Cond.eq (.elem (.field (tmS i) "java/lang/String" "value" "[B") (.int (Int32.ofNat j))) (.int ((bytS.getD i []).getD j 0)) ∈ gvF := fun i hi j hj => List.mem_of_getElem? (gv_el0 i hi j hj)
set_option maxRecDepth 20000 in
theorem gv_ne0 : ∀ i : Nat, i < 13 → ∀ j : Nat, j < 13 → i ≠ j → gvF[(gvN.getD (13 * i + j) (0, 0)).2]? = some (if (gvN.getD (13 * i + j) (0, 0)).1 = 1 then Cond.not (Cond.eq (tmS i) (tmS j)) else Cond.not (Cond.eq (tmS j) (tmS i))) := by decide +kernel
theorem gv_ne : ∀ i : Nat, i < 13 → ∀ j : Nat, j < 13 → i ≠ j → (Cond.not (Cond.eq (tmS i) (tmS j)) ∈ gvF ∨ Cond.not (Cond.eq (tmS j) (tmS i)) ∈ gvF) := fun i hi j hj h => by
  have h1 := List.mem_of_getElem? (gv_ne0 i hi j hj h)
  split at h1
  · exact Or.inl h1
  · exact Or.inr h1
def tmDO : Term := .static "java/lang/Integer" "DigitOnes" "[B"
set_option maxRecDepth 20000 in
theorem gv_dO0 : ∀ j : Nat, j < 100 → gvF[14 + j]? = some (Cond.eq (.elem tmDO (.int (Int32.ofNat j))) (.int (dgO j))) := by decide +kernel
theorem gv_dO : ∀ j : Nat, j < 100 → Cond.eq (.elem tmDO (.int (Int32.ofNat j))) (.int (dgO j)) ∈ gvF := fun j hj => List.mem_of_getElem? (gv_dO0 j hj)
def tmDT : Term := .static "java/lang/Integer" "DigitTens" "[B"
set_option maxRecDepth 20000 in
theorem gv_dT0 : ∀ j : Nat, j < 100 → gvF[117 + j]? = some (Cond.eq (.elem tmDT (.int (Int32.ofNat j))) (.int (dgT j))) := by decide +kernel
theorem gv_dT : ∀ j : Nat, j < 100 → Cond.eq (.elem tmDT (.int (Int32.ofNat j))) (.int (dgT j)) ∈ gvF := fun j hj => List.mem_of_getElem? (gv_dT0 j hj)
def tmI : Term := .static "ModeDeskLaw" "TIES" "[Ljava/lang/String;"
set_option maxRecDepth 20000 in
theorem gv_ti : ∀ j : Nat, j < 4 → Cond.eq (.elem tmI (.int (Int32.ofNat j))) (tmS (4 + j)) ∈ gvF := by decide +kernel
theorem st_arr {s : State} {args : Array Value} {ty : FieldType} (hno : ∀ C, ty ≠ .object C) (h : (Cond.arrayClass ty).before args s = true) : ∃ cA : ClassId, ArrOfT s cA ty ∧ va_RA s cA ty := by
  obtain ⟨cA, kA, comp, h1, h2, h3⟩ := Cond.arrayClass_spec h
  refine ⟨cA, fun n z => ⟨fun k h => (by cases h), kA, h2, comp, h3⟩, ?_⟩
  cases ty with
  | object C => exact absurd rfl (hno C)
  | _ => exact h1
theorem st_arrq {s : State} {args : Array Value} {C : String} (h : (Cond.arrayOver (.object C)).before args s = true) : ∃ cA : ClassId, ArrOfT s cA (.object C) ∧ va_RA s cA (.object C) := by
  obtain ⟨comp, c, k, h1, h2, h3, h4, h5⟩ := Cond.arrayOver_spec h
  exact ⟨c, fun n z => ⟨fun k h => (by cases h), k, h3, comp, h4⟩, k, comp, h3, h4, h1, h5⟩
theorem st_arrA {s : State} {args : Array Value} {ty : FieldType} (h : (Cond.arrayOver (.array ty)).before args s = true) : ∃ cA : ClassId, ArrOfT s cA (.array ty) ∧ va_RA s cA (.array ty) := by
  obtain ⟨comp, c, k, h1, h2, h3, h4, h5⟩ := arrayOverA_spec h
  exact ⟨c, fun n z => ⟨fun k h => (by cases h), k, h3, comp, h4⟩, h5⟩
theorem st_len : ∀ i : Nat, i < 13 → lenS.getD i 0 < 2 ^ 31 := by decide +kernel
set_option maxHeartbeats 8000000 in
set_option maxRecDepth 100000 in
theorem whole_start {p : Program} {e : Env} {s : State} {m : MethodId} {below : List Frame} {meth : Method} {c : Code} (l : Launch) (hflags : l.flags = flags0) {b L : Nat} {xs : Nat → Int32} (hL : L ≤ 260) (C0 : lw_At p s m meth c b L xs) : W p l e room_1 s m #[Value.ref b] below meth c s.heap [] 0 0 (lw_Z below #[Value.ref b] s) (entryFrame m ([Value.ref b] : List Value).toArray 16) := by
  obtain ⟨hx, hb, hr, hml, hown, hts0, hX, hbl, hlocks, hgv⟩ := id C0
  have hts : ∀ w ∈ lw_tb2, w.before #[Value.ref b] s = true := upS_holds hts0
  have hgs : ∀ w ∈ gvF, w.before #[Value.ref b] s = true := flat_of_before _ hgv
  have hbA : ¬ (fun q : Nat => s.heap.size ≤ q) b := Nat.not_le.mpr hbl
  have hnA : ∀ a : Nat, a < s.heap.size → ¬ (fun q : Nat => s.heap.size ≤ q) a := fun a h => Nat.not_le.mpr h
  obtain ⟨c0, iS0, hKn0⟩ := u_known (C := RX0) (T := TX0) (N := 3) (n := 3) hts inX0 (hts (.instantiable RX0 3) (by decide +kernel))
  obtain ⟨c1, iS1, hKn1⟩ := u_known (C := RX1) (T := TX1) (N := 8) (n := 8) hts inX1 (hts (.instantiable RX1 8) (by decide +kernel))
  obtain ⟨c2, iS2, hKn2⟩ := u_known (C := RX2) (T := TX2) (N := 3) (n := 3) hts inX2 (hts (.instantiable RX2 3) (by decide +kernel))
  obtain ⟨c3, iS3, hKn3⟩ := u_known (C := RX3) (T := TX3) (N := 8) (n := 8) hts inX3 (hts (.instantiable RX3 8) (by decide +kernel))
  obtain ⟨c4, iS4, hKn4⟩ := u_known (C := RX4) (T := TX4) (N := 7) (n := 7) hts inX4 (hts (.instantiable RX4 7) (by decide +kernel))
  obtain ⟨c5, iS5, hKn5⟩ := u_known (C := RX5) (T := TX5) (N := 12) (n := 12) hts inX5 (hts (.instantiable RX5 12) (by decide +kernel))
  obtain ⟨c6, iS6, hKn6⟩ := u_known (C := RJ0) (T := TJ0) (N := 4) (n := 4) hts inJ0 (hts (.instantiable RJ0 4) (by decide +kernel))
  obtain ⟨c7, iS7, hKn7⟩ := u_known (C := RJ4) (T := TJ4) (N := 4) (n := 4) hts inJ4 (hts (.instantiable RJ4 4) (by decide +kernel))
  obtain ⟨D, hKc⟩ : ∃ D : va_G, ∀ (k : Nat) (q : vw_C), vwCl[k]? = some q → u_Kn s q.1 q.2.1 q.2.2 (D.1 k) (D.2 k) := by
    refine ⟨(fun k => match k with | 0 => c0 | 1 => c1 | 2 => c2 | 3 => c3 | 4 => c4 | 5 => c5 | 6 => c6 | _ => c7, fun k => match k with | 0 => iS0 | 1 => iS1 | 2 => iS2 | 3 => iS3 | 4 => iS4 | 5 => iS5 | 6 => iS6 | _ => iS7), ?_⟩
    intro k q hq
    match k, hq with
    | 0, hq => cases hq; exact hKn0
    | 1, hq => cases hq; exact hKn1
    | 2, hq => cases hq; exact hKn2
    | 3, hq => cases hq; exact hKn3
    | 4, hq => cases hq; exact hKn4
    | 5, hq => cases hq; exact hKn5
    | 6, hq => cases hq; exact hKn6
    | 7, hq => cases hq; exact hKn7
    | k + 8, hq => simp [vwCl] at hq
  obtain ⟨a0, hA0, hA0'⟩ := st_arr (ty := .int) (fun _ h => by cases h) (hts (.arrayClass .int) (by decide +kernel))
  obtain ⟨a1, hA1, hA1'⟩ := st_arr (ty := .char) (fun _ h => by cases h) (hts (.arrayClass .char) (by decide +kernel))
  obtain ⟨a2, hA2, hA2'⟩ := st_arr (ty := .int) (fun _ h => by cases h) (hts (.arrayClass .int) (by decide +kernel))
  have hAO := hts (.arrayOver (.object "ModeDesk$Row")) (by decide +kernel)
  obtain ⟨a3, hA3, hA3'⟩ := st_arrq hAO
  obtain ⟨a4, hA4, hA4'⟩ := st_arr (ty := .byte) (fun _ h => by cases h) (hts (.arrayClass .byte) (by decide +kernel))
  have hAA := hts (.arrayOver (.array .int)) (by decide +kernel)
  obtain ⟨a5, hA5, hA5'⟩ := st_arrA hAA
  have hK : va_K D vwCl (TY (fun k => match k with | 0 => a0 | 1 => a1 | 2 => a2 | 3 => a3 | 4 => a4 | _ => a5)) s := by
    refine ⟨hKc, fun k q hq => ?_⟩
    match k, hq with
    | 0, hq => cases hq; exact ⟨hA0, hA0'⟩
    | 1, hq => cases hq; exact ⟨hA1, hA1'⟩
    | 2, hq => cases hq; exact ⟨hA2, hA2'⟩
    | 3, hq => cases hq; exact ⟨hA3, hA3'⟩
    | 4, hq => cases hq; exact ⟨hA4, hA4'⟩
    | 5, hq => cases hq; exact ⟨hA5, hA5'⟩
    | k + 6, hq => simp [TY] at hq
  obtain ⟨adK, adV, hSS, hTm⟩ := vk_Sof (N := 13) (tm := tmS) (len := lenS) (byt := bytS) (A := fun q : Nat => s.heap.size ≤ q) st_len (fun i hi => hgs _ (gv_ex i hi)) (fun i hi => hgs _ (gv_co i hi)) (fun i hi => hgs _ (gv_ar i hi)) (fun i hi => hgs _ (gv_le i hi)) (fun i hi j hj => hgs _ (gv_el i hi j hj)) (fun i j hi hj hij => (gv_ne i hi j hj hij).imp (hgs _) (hgs _)) hnA
  have hCS : va_Z "java/lang/String" "COMPACT_STRINGS" "Z" (.int 1) (fun q : Nat => s.heap.size ≤ q) s s.heap := va_Zof (hts (.laysStatic "java/lang/String" "COMPACT_STRINGS" "Z") (by decide +kernel)) (hts (.initialized "java/lang/String") (by decide +kernel)) (va_eqi (hgs (.eq (.static "java/lang/String" "COMPACT_STRINGS" "Z") (.int 1)) (by decide +kernel))) hnA
  have hEV : EV adK adV (fun q : Nat => s.heap.size ≤ q) s s.heap :=
    ⟨hSS, hCS, va_Zqof (hts (.laysStatic "jdk/internal/util/Preconditions" "SIOOBE_FORMATTER" "Ljava/util/function/BiFunction;") (by decide +kernel)) (hts (.initialized "jdk/internal/util/Preconditions") (by decide +kernel)) (hgs (.isRef (.static "jdk/internal/util/Preconditions" "SIOOBE_FORMATTER" "Ljava/util/function/BiFunction;")) (by decide +kernel)) hnA⟩
  have hRR : ER adK s :=
    ⟨vk_R.of (hts (.stringRef "ModeDesk$Reader" 60 "row") (by decide +kernel)) (hTm 0 (by omega)),
     vk_R.of (hts (.stringRef "ModeDesk$Reader" 68 "weight") (by decide +kernel)) (hTm 1 (by omega)),
     vk_R.of (hts (.stringRef "ModeDesk$Reader" 73 "block") (by decide +kernel)) (hTm 2 (by omega)),
     vk_R.of (hts (.stringRef "ModeDesk$Reader" 77 "ties") (by decide +kernel)) (hTm 3 (by omega)),
     vk_R.of (hts (.stringRef "ModeDesk$Reader" 114 "first") (by decide +kernel)) (va_eqv (hgs (.eq (.string "ModeDesk$Reader" 114) (.string "ModeDeskLaw" 219)) (by decide +kernel)) (hTm 4 (by omega))),
     vk_R.of (hts (.stringRef "ModeDesk$Reader" 116 "last") (by decide +kernel)) (va_eqv (hgs (.eq (.string "ModeDesk$Reader" 116) (.string "ModeDeskLaw" 221)) (by decide +kernel)) (hTm 5 (by omega))),
     vk_R.of (hts (.stringRef "ModeDesk$Reader" 118 "least") (by decide +kernel)) (va_eqv (hgs (.eq (.string "ModeDesk$Reader" 118) (.string "ModeDeskLaw" 223)) (by decide +kernel)) (hTm 6 (by omega))),
     vk_R.of (hts (.stringRef "ModeDesk$Reader" 120 "most") (by decide +kernel)) (va_eqv (hgs (.eq (.string "ModeDesk$Reader" 120) (.string "ModeDeskLaw" 225)) (by decide +kernel)) (hTm 7 (by omega))),
     va_Nw.of rfl (hts (.methodLinkNest "ModeDesk$Reader" 91 ⟨"ModeDesk", "isValue", "(I)Z"⟩ "ModeDesk") (by decide +kernel)),
     vk_R.of (hts (.stringRef "ModeDeskLaw" 51 "row") (by decide +kernel)) (va_eqv (hgs (.eq (.string "ModeDeskLaw" 51) (.string "ModeDesk$Reader" 60)) (by decide +kernel)) (hTm 0 (by omega))),
     vk_R.of (hts (.stringRef "ModeDeskLaw" 21 " ") (by decide +kernel)) (hTm 8 (by omega)),
     vk_R.of (hts (.stringRef "ModeDeskLaw" 62 ";block ") (by decide +kernel)) (hTm 9 (by omega)),
     vk_R.of (hts (.stringRef "ModeDeskLaw" 67 ";ties ") (by decide +kernel)) (hTm 10 (by omega)),
     vk_R.of (hts (.stringRef "ModeDeskLaw" 76 ";") (by decide +kernel)) (hTm 11 (by omega)),
     vk_R.of (hts (.stringRef "ModeDeskLaw" 81 "weight ") (by decide +kernel)) (hTm 12 (by omega))⟩
  have hN : EN s :=
    ⟨va_Nw.of rfl (hts (.methodLinkNest "ModeDesk" 9 ⟨"ModeDesk$Tape", "<init>", "()V"⟩ "ModeDesk") (by decide +kernel)), va_Nw.of rfl (hts (.methodLinkNest "ModeDesk" 18 ⟨"ModeDesk$Reader", "<init>", "()V"⟩ "ModeDesk") (by decide +kernel)), va_Nw.of rfl (hts (.methodLinkNest "ModeDesk" 25 ⟨"ModeDesk$Row", "<init>", "()V"⟩ "ModeDesk") (by decide +kernel)), va_Nw.of rfl (hts (.methodLinkNest "ModeDesk" 42 ⟨"ModeDesk$Tally", "<init>", "()V"⟩ "ModeDesk") (by decide +kernel)), va_Nw.of rfl (hts (.methodLinkNest "ModeDesk$Past" 24 ⟨"ModeDesk$Row", "<init>", "()V"⟩ "ModeDesk") (by decide +kernel)), va_Nw.of rfl (hts (.methodLinkNest "ModeDesk$Reader" 11 ⟨"ModeDesk$Row", "<init>", "()V"⟩ "ModeDesk") (by decide +kernel)), va_AO.of hAO⟩
  obtain ⟨tO, htO, hTO⟩ := va_Tof (tm := tmDO) (ty := .byte) (N := 100) (f := fun j => .int (dgO j)) (A := fun q : Nat => s.heap.size ≤ q) (by decide) (hgs (.arrayOf tmDO .byte) (by decide +kernel)) (va_eqt (hgs (.eq (.length tmDO) (.int 100)) (by decide +kernel))) (fun j hj => va_eqt (hgs _ (gv_dO j hj))) hnA
  have hZO : va_Z "java/lang/Integer" "DigitOnes" "[B" (.ref tO) (fun q : Nat => s.heap.size ≤ q) s s.heap := va_Zref (hts (.laysStatic "java/lang/Integer" "DigitOnes" "[B") (by decide +kernel)) (hts (.initialized "java/lang/Integer") (by decide +kernel)) htO hnA
  obtain ⟨tT, htT, hTT⟩ := va_Tof (tm := tmDT) (ty := .byte) (N := 100) (f := fun j => .int (dgT j)) (A := fun q : Nat => s.heap.size ≤ q) (by decide) (hgs (.arrayOf tmDT .byte) (by decide +kernel)) (va_eqt (hgs (.eq (.length tmDT) (.int 100)) (by decide +kernel))) (fun j hj => va_eqt (hgs _ (gv_dT j hj))) hnA
  have hZT : va_Z "java/lang/Integer" "DigitTens" "[B" (.ref tT) (fun q : Nat => s.heap.size ≤ q) s s.heap := va_Zref (hts (.laysStatic "java/lang/Integer" "DigitTens" "[B") (by decide +kernel)) (hts (.initialized "java/lang/Integer") (by decide +kernel)) htT hnA
  obtain ⟨tA, htA, hTA⟩ := va_Tof (tm := tmI) (ty := .object "java/lang/String") (N := 4) (f := fun i => .ref (adK (4 + i))) (A := fun q : Nat => s.heap.size ≤ q) (by decide) (hgs (.arrayOf tmI (.object "java/lang/String")) (by decide +kernel)) (va_eqt (hgs (.eq (.length tmI) (.int 4)) (by decide +kernel))) (fun j hj => va_eqv (hgs _ (gv_ti j hj)) (hTm (4 + j) (by omega))) hnA
  have hZA : va_Z "ModeDeskLaw" "TIES" "[Ljava/lang/String;" (.ref tA) (fun q : Nat => s.heap.size ≤ q) s s.heap := va_Zref (hts (.laysStatic "ModeDeskLaw" "TIES" "[Ljava/lang/String;") (by decide +kernel)) (hts (.initialized "ModeDeskLaw") (by decide +kernel)) htA hnA
  have hTX : va_T .int b L (fun j => .int (xs j)) (fun q : Nat => s.heap.size ≤ q) s s.heap := by
    obtain ⟨scr, h1, h2, h3, h4, h5⟩ := hX
    exact ⟨scr, h1, h2, h3, by omega, by rw [h4], h5, hbA⟩
  have hE : EL adK adV tO tT tA b xs L (fun q : Nat => s.heap.size ≤ q) s s.heap := ⟨hEV, hRR, hN, ⟨hCS, hZO, hTO, hZT, hTT⟩, va_Nw.of rfl (hts (.castable "[B" "java/lang/Cloneable") (by decide +kernel)), hZA, hTA, hTX⟩
  have hCI : va_Nw (.castable "[I" "java/lang/Cloneable") s := va_Nw.of rfl (hts (.castable "[I" "java/lang/Cloneable") (by decide +kernel))
  have hl := lv_entry ([.ref b]) (n := 16) (Nat.le_of_ble_eq_true rfl)
  rw [lg_entry_eq]
  generalize (lg_sl ([.ref b]) ++ List.replicate (16 - (lg_sl ([.ref b])).length) Slot.unset).toArray = ls at hl ⊢
  have hl : lv_has ls 16 [(0, .ref b)] := hl
  refine lw_all l D (fun k => match k with | 0 => a0 | 1 => a1 | 2 => a2 | 3 => a3 | 4 => a4 | _ => a5) hx hb hml (fun w hw => hts w (wsL0_in w hw)) hown hK hE (va_AOA.of hAA) hCI (fun _ h => h) (law_goal xs L hL) va_S.rf hl (fun {H locs ls} hS => ?_)
  refine va_forget (fun q hq => hS.2.2 q hq) ?_
  exact lw_ret hx hb hr hlocks dL_law_497

/-! THE START: classes, arrays, the String constants, what only nest mates may link -/
def tmS : Nat → Term
  | 0 => .string "ModeDesk$Reader" 60
  | 1 => .string "ModeDesk$Reader" 68
  | 2 => .string "ModeDesk$Reader" 73
  | 3 => .string "ModeDesk$Reader" 77
  | 4 => .string "ModeDesk$Reader" 114
  | 5 => .string "ModeDesk$Reader" 116
  | 6 => .string "ModeDesk$Reader" 118
  | 7 => .string "ModeDesk$Reader" 120
  | 8 => .string "ModeDesk" 101
  | 9 => .string "ModeDesk" 125
  | _ => .string "ModeDeskModel" 107
def gvF : List Cond := flatC (Jvm.Cond.and given_1 narrow_1)
set_option maxRecDepth 20000 in
theorem gv_ex : ∀ i : Nat, i < 11 → Cond.exactly (tmS i) "java/lang/String" ∈ gvF := by decide +kernel
set_option maxRecDepth 20000 in
theorem gv_co : ∀ i : Nat, i < 11 → Cond.eq (.field (tmS i) "java/lang/String" "coder" "B") (.int 0) ∈ gvF := by decide +kernel
set_option maxRecDepth 20000 in
theorem gv_ar : ∀ i : Nat, i < 11 → Cond.arrayOf (.field (tmS i) "java/lang/String" "value" "[B") .byte ∈ gvF := by decide +kernel
set_option maxRecDepth 20000 in
theorem gv_le : ∀ i : Nat, i < 11 → Cond.eq (.length (.field (tmS i) "java/lang/String" "value" "[B")) (.int (Int32.ofNat (lenS.getD i 0))) ∈ gvF := by decide +kernel
set_option maxRecDepth 20000 in
theorem gv_el : ∀ i : Nat, i < 11 → ∀ j : Nat, j < lenS.getD i 0 → Cond.eq (.elem (.field (tmS i) "java/lang/String" "value" "[B") (.int (Int32.ofNat j))) (.int ((bytS.getD i []).getD j 0)) ∈ gvF := by decide +kernel
set_option maxRecDepth 20000 in
theorem gv_ne : ∀ i : Nat, i < 11 → ∀ j : Nat, j < 11 → i ≠ j → (Cond.not (Cond.eq (tmS i) (tmS j)) ∈ gvF ∨ Cond.not (Cond.eq (tmS j) (tmS i)) ∈ gvF) := by decide +kernel
set_option maxRecDepth 20000 in
theorem atX_in : ∀ w ∈ atIO.filter goodWord ++ atNS.filter goodWord, w ∈ lw_tbl := by decide +kernel
theorem st_arr {s : State} {args : Array Value} {ty : FieldType} (hno : ∀ C, ty ≠ .object C) (h : (Cond.arrayClass ty).before args s = true) : ∃ cA : ClassId, ArrOfT s cA ty ∧ va_RA s cA ty := by
  obtain ⟨cA, kA, comp, h1, h2, h3⟩ := Cond.arrayClass_spec h
  refine ⟨cA, fun n z => ⟨fun k h => (by cases h), kA, h2, comp, h3⟩, ?_⟩
  cases ty with
  | object C => exact absurd rfl (hno C)
  | _ => exact h1
theorem st_arrq {s : State} {args : Array Value} {C : String} (h : (Cond.arrayOver (.object C)).before args s = true) : ∃ cA : ClassId, ArrOfT s cA (.object C) ∧ va_RA s cA (.object C) := by
  obtain ⟨comp, c, k, h1, h2, h3, h4, h5⟩ := Cond.arrayOver_spec h
  exact ⟨c, fun n z => ⟨fun k h => (by cases h), k, h3, comp, h4⟩, k, comp, h3, h4, h1, h5⟩
set_option maxHeartbeats 8000000 in
set_option maxRecDepth 100000 in
theorem whole_start {p : Program} {e : Env} {s : State} {m : MethodId} {below : List Frame} {meth : Method} {c : Code} (l : Launch) (hflags : l.flags = flags0) {b L : Nat} {xs : Nat → Int32} (hL : L ≤ 3072) (C0 : lw_At p s m meth c b L xs) : W p l e room_1 s m #[Value.ref b] below meth c s.heap [] 0 0 (lw_Z below #[Value.ref b] s) (entryFrame m ([Value.ref b] : List Value).toArray 7) := by
  obtain ⟨hx, hb, hr, hml, hown, hts, hX, hbl, hlocks, hgv⟩ := id C0
  have hgs : ∀ w ∈ gvF, w.before #[Value.ref b] s = true := flat_of_before _ hgv
  have hbA : ¬ (fun q : Nat => s.heap.size ≤ q) b := Nat.not_le.mpr hbl
  have hnA : ∀ a : Nat, a < s.heap.size → ¬ (fun q : Nat => s.heap.size ≤ q) a := fun a h => Nat.not_le.mpr h
  obtain ⟨c0, iS0, hKn0⟩ := u_known (C := RX0) (T := TX0) (N := 3) (n := 3) hts inX0 (hts (.instantiable RX0 3) (by decide +kernel))
  obtain ⟨c1, iS1, hKn1⟩ := u_known (C := RX1) (T := TX1) (N := 8) (n := 8) hts inX1 (hts (.instantiable RX1 8) (by decide +kernel))
  obtain ⟨c2, iS2, hKn2⟩ := u_known (C := RX2) (T := TX2) (N := 3) (n := 3) hts inX2 (hts (.instantiable RX2 3) (by decide +kernel))
  obtain ⟨c3, iS3, hKn3⟩ := u_known (C := RX3) (T := TX3) (N := 8) (n := 8) hts inX3 (hts (.instantiable RX3 8) (by decide +kernel))
  obtain ⟨c4, iS4, hKn4⟩ := u_known (C := RX4) (T := TX4) (N := 7) (n := 7) hts inX4 (hts (.instantiable RX4 7) (by decide +kernel))
  obtain ⟨c5, iS5, hKn5⟩ := u_known (C := RX5) (T := TX5) (N := 12) (n := 12) hts inX5 (hts (.instantiable RX5 12) (by decide +kernel))
  obtain ⟨c6, iS6, hKn6⟩ := u_known (C := RX6) (T := TX6) (N := 42) (n := 42) hts inX6 (hts (.instantiable RX6 42) (by decide +kernel))
  obtain ⟨D, hKc⟩ : ∃ D : va_G, ∀ (k : Nat) (q : vw_C), vwCl[k]? = some q → u_Kn s q.1 q.2.1 q.2.2 (D.1 k) (D.2 k) := by
    refine ⟨(fun k => match k with | 0 => c0 | 1 => c1 | 2 => c2 | 3 => c3 | 4 => c4 | 5 => c5 | _ => c6, fun k => match k with | 0 => iS0 | 1 => iS1 | 2 => iS2 | 3 => iS3 | 4 => iS4 | 5 => iS5 | _ => iS6), ?_⟩
    intro k q hq
    match k, hq with
    | 0, hq => cases hq; exact hKn0
    | 1, hq => cases hq; exact hKn1
    | 2, hq => cases hq; exact hKn2
    | 3, hq => cases hq; exact hKn3
    | 4, hq => cases hq; exact hKn4
    | 5, hq => cases hq; exact hKn5
    | 6, hq => cases hq; exact hKn6
    | k + 7, hq => simp [vwCl] at hq
  obtain ⟨a0, hA0, hA0'⟩ := st_arr (ty := .int) (fun _ h => by cases h) (hts (.arrayClass .int) (by decide +kernel))
  obtain ⟨a1, hA1, hA1'⟩ := st_arr (ty := .char) (fun _ h => by cases h) (hts (.arrayClass .char) (by decide +kernel))
  obtain ⟨a2, hA2, hA2'⟩ := st_arr (ty := .boolean) (fun _ h => by cases h) (hts (.arrayClass .boolean) (by decide +kernel))
  have hAO := hts (.arrayOver (.object "ModeDesk$Row")) (by decide +kernel)
  obtain ⟨a3, hA3, hA3'⟩ := st_arrq hAO
  obtain ⟨a4, hA4, hA4'⟩ := st_arr (ty := .long) (fun _ h => by cases h) (hts (.arrayClass .long) (by decide +kernel))
  have hK : va_K D vwCl (TY (fun k => match k with | 0 => a0 | 1 => a1 | 2 => a2 | 3 => a3 | _ => a4)) s := by
    refine ⟨hKc, fun k q hq => ?_⟩
    match k, hq with
    | 0, hq => cases hq; exact ⟨hA0, hA0'⟩
    | 1, hq => cases hq; exact ⟨hA1, hA1'⟩
    | 2, hq => cases hq; exact ⟨hA2, hA2'⟩
    | 3, hq => cases hq; exact ⟨hA3, hA3'⟩
    | 4, hq => cases hq; exact ⟨hA4, hA4'⟩
    | k + 5, hq => simp [TY] at hq
  obtain ⟨adK, adV, hSS, hTm⟩ := vk_Sof (N := 11) (tm := tmS) (len := lenS) (byt := bytS) (A := fun q : Nat => s.heap.size ≤ q) (fun i hi => lenS_lt hi) (fun i hi => hgs _ (gv_ex i hi)) (fun i hi => hgs _ (gv_co i hi)) (fun i hi => hgs _ (gv_ar i hi)) (fun i hi => hgs _ (gv_le i hi)) (fun i hi j hj => hgs _ (gv_el i hi j hj)) (fun i j hi hj hij => (gv_ne i hi j hj hij).imp (hgs _) (hgs _)) hnA
  have hE : EV adK adV (fun q : Nat => s.heap.size ≤ q) s s.heap :=
    ⟨hSS, va_Zof (hts (.laysStatic "java/lang/String" "COMPACT_STRINGS" "Z") (by decide +kernel)) (hts (.initialized "java/lang/String") (by decide +kernel)) (va_eqi (hgs (.eq (.static "java/lang/String" "COMPACT_STRINGS" "Z") (.int 1)) (by decide +kernel))) hnA, va_Zqof (hts (.laysStatic "jdk/internal/util/Preconditions" "SIOOBE_FORMATTER" "Ljava/util/function/BiFunction;") (by decide +kernel)) (hts (.initialized "jdk/internal/util/Preconditions") (by decide +kernel)) (hgs (.isRef (.static "jdk/internal/util/Preconditions" "SIOOBE_FORMATTER" "Ljava/util/function/BiFunction;")) (by decide +kernel)) hnA⟩
  have hRR : ER adK s :=
    ⟨vk_R.of (hts (.stringRef "ModeDesk$Reader" 60 "row") (by decide +kernel)) (hTm 0 (by omega)), vk_R.of (hts (.stringRef "ModeDesk$Reader" 68 "weight") (by decide +kernel)) (hTm 1 (by omega)), vk_R.of (hts (.stringRef "ModeDesk$Reader" 73 "block") (by decide +kernel)) (hTm 2 (by omega)), vk_R.of (hts (.stringRef "ModeDesk$Reader" 77 "ties") (by decide +kernel)) (hTm 3 (by omega)), vk_R.of (hts (.stringRef "ModeDesk$Reader" 114 "first") (by decide +kernel)) (hTm 4 (by omega)), vk_R.of (hts (.stringRef "ModeDesk$Reader" 116 "last") (by decide +kernel)) (hTm 5 (by omega)), vk_R.of (hts (.stringRef "ModeDesk$Reader" 118 "least") (by decide +kernel)) (hTm 6 (by omega)), vk_R.of (hts (.stringRef "ModeDesk$Reader" 120 "most") (by decide +kernel)) (hTm 7 (by omega)), vk_R.of (hts (.stringRef "ModeDesk" 101 "no such place") (by decide +kernel)) (hTm 8 (by omega)), vk_R.of (hts (.stringRef "ModeDesk" 125 "no such what") (by decide +kernel)) (hTm 9 (by omega)), vk_R.of (hts (.stringRef "ModeDeskModel" 107 "first last least most row weight block ties ") (by decide +kernel)) (hTm 10 (by omega)), va_Nw.of rfl (hts (.methodLinkNest "ModeDesk$Reader" 91 ⟨"ModeDesk", "isValue", "(I)Z"⟩ "ModeDesk") (by decide +kernel))⟩
  have hN : EN s :=
    ⟨va_Nw.of rfl (hts (.methodLinkNest "ModeDesk" 9 ⟨"ModeDesk$Tape", "<init>", "()V"⟩ "ModeDesk") (by decide +kernel)), va_Nw.of rfl (hts (.methodLinkNest "ModeDesk" 18 ⟨"ModeDesk$Reader", "<init>", "()V"⟩ "ModeDesk") (by decide +kernel)), va_Nw.of rfl (hts (.methodLinkNest "ModeDesk" 25 ⟨"ModeDesk$Row", "<init>", "()V"⟩ "ModeDesk") (by decide +kernel)), va_Nw.of rfl (hts (.methodLinkNest "ModeDesk" 42 ⟨"ModeDesk$Tally", "<init>", "()V"⟩ "ModeDesk") (by decide +kernel)), va_Nw.of rfl (hts (.methodLinkNest "ModeDesk$Past" 24 ⟨"ModeDesk$Row", "<init>", "()V"⟩ "ModeDesk") (by decide +kernel)), va_Nw.of rfl (hts (.methodLinkNest "ModeDesk$Reader" 11 ⟨"ModeDesk$Row", "<init>", "()V"⟩ "ModeDesk") (by decide +kernel)), va_AO.of hAO⟩
  have C : LCx p s m c D (fun k => match k with | 0 => a0 | 1 => a1 | 2 => a2 | 3 => a3 | _ => a4) adK adV (fun q : Nat => s.heap.size ≤ q) b L xs :=
    ⟨hx, hb, hml, hown, fun w hw => hts w (wsL0_in w hw), hK, fun _ h => h, hX, hbl, hbA, hE, hRR, hL, fun w hw => hts w (atX_in w hw), ⟨vx_Zqof (hts (.laysStatic Bundle.tN "UNASSIGNED_STACK" Bundle.steD) (by decide +kernel)) (hts (.initialized Bundle.tN) (by decide +kernel)) (hgs (.isRef (.static Bundle.tN "UNASSIGNED_STACK" Bundle.steD)) (by decide +kernel)) hnA, vx_Zqof (hts (.laysStatic Bundle.tN "SUPPRESSED_SENTINEL" Bundle.listD) (by decide +kernel)) (hts (.initialized Bundle.tN) (by decide +kernel)) (hgs (.isRef (.static Bundle.tN "SUPPRESSED_SENTINEL" Bundle.listD)) (by decide +kernel)) hnA⟩, ⟨va_Nw.of rfl (hts (.castable "java/lang/IndexOutOfBoundsException" "java/lang/IndexOutOfBoundsException") (by decide +kernel)), va_Nw.of rfl (hts (.castable "java/util/NoSuchElementException" "java/util/NoSuchElementException") (by decide +kernel)), va_Nc.of (hgs (.not (.castable "java/util/NoSuchElementException" "java/lang/IndexOutOfBoundsException")) (by decide +kernel)), va_Nw.of rfl (hts (.declares (Bundle.initS "java/lang/RuntimeException")) (by decide +kernel)), va_Nw.of rfl (hts (.declares (Bundle.initS "java/lang/Exception")) (by decide +kernel)), va_Nw.of rfl (hts (.declares (Bundle.initS Bundle.tN)) (by decide +kernel))⟩⟩
  have hl := lv_entry ([.ref b]) (n := 7) (Nat.le_of_ble_eq_true rfl)
  rw [lg_entry_eq]
  generalize (lg_sl ([.ref b]) ++ List.replicate (7 - (lg_sl ([.ref b])).length) Slot.unset).toArray = ls at hl ⊢
  have hl : lv_has ls 7 [(0, .ref b)] := hl
  exact law_body hflags C hN hr hlocks hl

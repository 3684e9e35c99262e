/-! the words of the law among those of the tables, by their places; and 'selects' of private methods that stand above the receiver's class -/
def upS : List Cond := [.selects "java/lang/StringBuilder" ⟨"java/lang/AbstractStringBuilder", "appendNull", "()Ljava/lang/AbstractStringBuilder;"⟩ ⟨"java/lang/AbstractStringBuilder", "appendNull", "()Ljava/lang/AbstractStringBuilder;"⟩,
  .selects "java/lang/StringBuilder" ⟨"java/lang/AbstractStringBuilder", "ensureCapacityInternal", "(I)V"⟩ ⟨"java/lang/AbstractStringBuilder", "ensureCapacityInternal", "(I)V"⟩,
  .selects "java/lang/StringBuilder" ⟨"java/lang/AbstractStringBuilder", "newCapacity", "(I)I"⟩ ⟨"java/lang/AbstractStringBuilder", "newCapacity", "(I)I"⟩,
  .selects "java/lang/StringBuilder" ⟨"java/lang/AbstractStringBuilder", "putStringAt", "(ILjava/lang/String;)V"⟩ ⟨"java/lang/AbstractStringBuilder", "putStringAt", "(ILjava/lang/String;)V"⟩,
  .selects "java/lang/StringBuilder" ⟨"java/lang/AbstractStringBuilder", "inflateIfNeededFor", "(Ljava/lang/String;)V"⟩ ⟨"java/lang/AbstractStringBuilder", "inflateIfNeededFor", "(Ljava/lang/String;)V"⟩,
  .selects "java/lang/StringBuilder" ⟨"java/lang/AbstractStringBuilder", "inflate", "()V"⟩ ⟨"java/lang/AbstractStringBuilder", "inflate", "()V"⟩]
def lw_tb2 : List Cond := upS ++ lw_tbl
theorem sel_up {C : String} {z y : MethodName} {s : State} {args : Array Value} (hy : y.cls ≠ "java/lang/invoke/MethodHandle" ∧ y.cls ≠ "java/lang/invoke/VarHandle") (hzy : z.cls = y.cls) (hz : (Cond.selects C z z).before args s = true) (hpriv : (Cond.privateMethod y).before args s = true) (hinst : (Cond.instanceMethod y).before args s = true) : (Cond.selects C y y).before args s = true := by
  obtain ⟨mk, methM, hnamed, hmethM, -, -⟩ := Cond.instanceMethod_spec hinst
  have hfound : s.methodFound? y.cls y.name y.desc = some mk := State.methodFound?_of_named hnamed hy
  simp only [Cond.before, Cond.holds, Cond.value] at hz
  cases hc : s.vm.findClass C with
  | none => rw [hc] at hz; simp at hz
  | some c =>
    rw [hc] at hz
    cases hr : s.methodFound? z.cls z.name z.desc with
    | none => rw [hr] at hz; simp at hz
    | some r =>
      rw [hr] at hz
      cases hm : s.methodNamed? z with
      | none => rw [hm] at hz; simp at hz
      | some m =>
        rw [hm] at hz
        have hi : (s.vm.classes[m.cls]?).any (!·.isInterface) = true := by
          simp only [beq_iff_eq, Option.some.injEq] at hz
          split at hz
          · simp only [Bool.and_eq_true] at hz
            exact hz.2
          · cases hz
        have hcls : mk.cls = m.cls := Option.some.inj ((findClass_of_methodNamed hnamed).symm.trans (by rw [← hzy]; exact findClass_of_methodNamed hm))
        have hsel : selectMethod {} s.vm c mk = .method mk := selectMethod_private hmethM (Cond.privateMethod_at hpriv mk methM hnamed hmethM)
        simp only [Cond.before, Cond.holds, Cond.value, hc, hfound, hnamed, hsel, hcls, hi]
        simp
theorem upS_holds {s : State} {args : Array Value} (h : ∀ w ∈ lw_tbl, w.before args s = true) : ∀ w ∈ lw_tb2, w.before args s = true := by
  have hz := h (.selects "java/lang/StringBuilder" ⟨"java/lang/AbstractStringBuilder", "isLatin1", "()Z"⟩ ⟨"java/lang/AbstractStringBuilder", "isLatin1", "()Z"⟩) (by decide +kernel)
  have g : ∀ nm ds : String, Cond.privateMethod ⟨"java/lang/AbstractStringBuilder", nm, ds⟩ ∈ lw_tbl → Cond.instanceMethod ⟨"java/lang/AbstractStringBuilder", nm, ds⟩ ∈ lw_tbl → (Cond.selects "java/lang/StringBuilder" ⟨"java/lang/AbstractStringBuilder", nm, ds⟩ ⟨"java/lang/AbstractStringBuilder", nm, ds⟩).before args s = true := fun nm ds h1 h2 => sel_up (z := ⟨"java/lang/AbstractStringBuilder", "isLatin1", "()Z"⟩) ⟨by show "java/lang/AbstractStringBuilder" ≠ _; decide +kernel, by show "java/lang/AbstractStringBuilder" ≠ _; decide +kernel⟩ rfl hz (h _ h1) (h _ h2)
  refine List.forall_mem_append.mpr ⟨?_, h⟩
  intro w hw
  simp only [upS, List.mem_cons, List.not_mem_nil, or_false] at hw
  rcases hw with rfl | rfl | rfl | rfl | rfl | rfl
  · exact g _ _ (by decide +kernel) (by decide +kernel)
  · exact g _ _ (by decide +kernel) (by decide +kernel)
  · exact g _ _ (by decide +kernel) (by decide +kernel)
  · exact g _ _ (by decide +kernel) (by decide +kernel)
  · exact g _ _ (by decide +kernel) (by decide +kernel)
  · exact g _ _ (by decide +kernel) (by decide +kernel)
def tp_all : List (List Cond) := [k2_sels lw_privs, tables_1_1, tables_1_2, tables_1_3, tables_1_4, tables_1_5, upS]
theorem tp_in : ∀ l ∈ tp_all, ∀ w ∈ l, w ∈ lw_tb2 := by
  have h : ∀ w ∈ lw_tb2, w ∈ lw_tb2 := fun _ h => h
  obtain ⟨hu, h⟩ := List.forall_mem_append.mp h
  obtain ⟨h0, h⟩ := List.forall_mem_append.mp h
  obtain ⟨h1, h⟩ := List.forall_mem_append.mp h
  obtain ⟨h2, h⟩ := List.forall_mem_append.mp h
  obtain ⟨h3, h⟩ := List.forall_mem_append.mp h
  obtain ⟨h4, h⟩ := List.forall_mem_append.mp h
  exact List.forall_mem_cons.mpr ⟨h0, List.forall_mem_cons.mpr ⟨h1, List.forall_mem_cons.mpr ⟨h2, List.forall_mem_cons.mpr ⟨h3, List.forall_mem_cons.mpr ⟨h4, List.forall_mem_cons.mpr ⟨h, List.forall_mem_cons.mpr ⟨hu, fun _ q => absurd q List.not_mem_nil⟩⟩⟩⟩⟩⟩⟩
def tp_at (q : Nat × Nat) : Option Cond := (tp_all[q.1]?).bind fun l => l[q.2]?
theorem tp_q {ws : List Cond} (ps : List (Nat × Nat)) (hp : ws = ps.filterMap tp_at) : ∀ w ∈ ws, w ∈ lw_tb2 := by
  intro w hw
  rw [hp] at hw
  obtain ⟨q, -, hq⟩ := List.mem_filterMap.mp hw
  obtain ⟨l, h1, h2⟩ := Option.bind_eq_some_iff.mp hq
  exact tp_in l (List.mem_of_getElem? h1) w (List.mem_of_getElem? h2)
set_option maxRecDepth 100000 in
theorem wsL0_i1 : ∀ w ∈ wsL_law0_r1, w ∈ lw_tb2 := tp_q [(3, 63), (1, 233), (1, 234), (1, 0), (1, 235), (1, 237), (1, 238), (1, 2), (2, 234), (2, 238), (1, 151), (1, 13), (1, 215), (1, 216), (1, 217), (1, 208), (1, 209), (1, 210), (1, 211), (1, 212), (1, 213), (1, 214), (1, 239), (2, 0)] rfl
set_option maxRecDepth 100000 in
theorem wsL0_i2 : ∀ w ∈ wsL_law0_r2, w ∈ lw_tb2 := tp_q [(2, 1), (2, 2), (2, 3), (1, 1), (2, 4), (2, 5), (1, 58), (1, 59), (2, 6), (1, 100), (2, 15), (2, 16), (2, 8), (2, 9), (1, 4), (2, 10), (2, 11), (2, 12), (2, 13), (2, 14), (2, 28), (2, 29), (2, 30), (2, 31)] rfl
set_option maxRecDepth 100000 in
theorem wsL0_i3 : ∀ w ∈ wsL_law0_r3, w ∈ lw_tb2 := tp_q [(2, 32), (5, 10), (2, 27), (2, 33), (2, 34), (2, 18), (2, 35), (5, 11), (6, 0), (2, 37), (2, 38), (2, 39), (5, 12), (6, 1), (2, 41), (2, 42), (2, 43), (5, 13), (6, 2), (2, 45), (2, 46), (2, 57), (2, 47), (2, 48)] rfl
set_option maxRecDepth 100000 in
theorem wsL0_i4 : ∀ w ∈ wsL_law0_r4, w ∈ lw_tb2 := tp_q [(1, 5), (2, 49), (2, 50), (2, 51), (1, 6), (2, 52), (2, 53), (2, 54), (2, 55), (2, 56), (2, 58), (2, 59), (1, 7), (2, 60), (2, 61), (2, 62), (2, 63), (2, 64), (2, 65), (2, 67), (2, 68), (1, 166), (1, 167), (2, 69)] rfl
set_option maxRecDepth 100000 in
theorem wsL0_i5 : ∀ w ∈ wsL_law0_r5, w ∈ lw_tb2 := tp_q [(2, 71), (2, 70), (1, 8), (2, 72), (2, 74), (2, 75), (2, 73), (2, 76), (2, 77), (2, 78), (2, 79), (2, 97), (2, 80), (2, 81), (2, 82), (2, 83), (2, 84), (2, 85), (2, 86), (2, 87), (1, 3), (2, 88), (2, 89), (2, 91)] rfl
set_option maxRecDepth 100000 in
theorem wsL0_i6 : ∀ w ∈ wsL_law0_r6, w ∈ lw_tb2 := tp_q [(2, 92), (1, 9), (2, 93), (2, 94), (2, 95), (2, 96), (2, 99), (2, 101), (2, 103), (2, 104), (2, 105), (2, 106), (2, 221), (2, 107), (2, 108), (2, 109), (2, 110), (2, 111), (2, 222), (2, 112), (5, 14), (6, 3), (2, 114), (2, 115)] rfl
set_option maxRecDepth 100000 in
theorem wsL0_i7 : ∀ w ∈ wsL_law0_r7, w ∈ lw_tb2 := tp_q [(2, 116), (5, 15), (6, 4), (2, 118), (2, 119), (2, 120), (2, 121), (5, 16), (6, 5), (2, 123), (2, 124), (2, 125), (2, 126), (1, 10), (2, 127), (2, 128), (2, 129), (2, 130), (2, 131), (2, 132), (2, 133), (2, 134), (2, 135), (2, 136)] rfl
set_option maxRecDepth 100000 in
theorem wsL0_i8 : ∀ w ∈ wsL_law0_r8, w ∈ lw_tb2 := tp_q [(2, 137), (2, 138), (2, 139), (2, 140), (2, 141), (2, 142), (2, 143), (2, 144), (2, 145), (1, 227), (1, 228), (1, 229), (1, 224), (1, 225), (1, 226), (2, 147), (2, 148), (2, 149), (2, 150), (2, 151), (5, 17), (2, 152), (2, 153), (2, 154)] rfl
set_option maxRecDepth 100000 in
theorem wsL0_i9 : ∀ w ∈ wsL_law0_r9, w ∈ lw_tb2 := tp_q [(2, 155), (1, 12), (2, 156), (2, 157), (2, 158), (2, 159), (2, 160), (2, 162), (2, 164), (2, 165), (2, 166), (2, 167), (2, 168), (2, 169), (2, 170), (2, 171), (2, 172), (2, 173), (2, 174), (2, 175), (2, 176), (2, 177), (2, 178), (2, 179)] rfl
set_option maxRecDepth 100000 in
theorem wsL0_i10 : ∀ w ∈ wsL_law0_r10, w ∈ lw_tb2 := tp_q [(2, 180), (2, 181), (2, 182), (2, 183), (2, 184), (2, 17), (2, 185), (2, 187), (2, 188), (2, 186), (2, 189), (2, 190), (2, 192), (2, 191), (2, 193), (2, 194), (2, 195), (2, 196), (2, 191), (2, 197), (2, 198), (2, 199), (2, 200), (2, 201)] rfl
set_option maxRecDepth 100000 in
theorem wsL0_i11 : ∀ w ∈ wsL_law0_r11, w ∈ lw_tb2 := tp_q [(2, 202), (2, 203), (2, 204), (2, 205), (2, 206), (2, 207), (2, 208), (2, 209), (2, 210), (2, 211), (2, 212), (2, 213), (2, 214), (2, 215), (2, 216), (2, 217), (2, 218), (2, 219), (2, 220), (1, 218), (1, 219), (1, 220), (1, 221), (1, 222)] rfl
set_option maxRecDepth 100000 in
theorem wsL0_i12 : ∀ w ∈ wsL_law0_r12, w ∈ lw_tb2 := tp_q [(1, 223), (1, 230), (1, 231), (1, 232), (2, 239), (3, 0), (3, 1), (3, 2), (3, 3), (3, 4), (1, 14), (3, 150), (3, 36), (3, 37), (1, 15), (3, 151), (3, 93), (3, 43), (1, 16), (3, 152), (3, 153), (3, 95), (3, 96), (1, 17)] rfl
set_option maxRecDepth 100000 in
theorem wsL0_i13 : ∀ w ∈ wsL_law0_r13, w ∈ lw_tb2 := tp_q [(3, 154), (3, 115), (3, 116), (1, 18), (3, 155), (3, 156), (3, 157), (3, 158), (3, 159), (3, 160), (3, 161), (3, 6), (3, 7), (3, 8), (3, 35), (3, 9), (3, 10), (3, 12), (3, 13), (3, 14), (3, 16), (3, 18), (3, 39), (3, 40)] rfl
set_option maxRecDepth 100000 in
theorem wsL0_i14 : ∀ w ∈ wsL_law0_r14, w ∈ lw_tb2 := tp_q [(3, 41), (3, 42), (3, 64), (3, 66), (3, 68), (3, 70), (3, 72), (3, 73), (3, 74), (3, 75), (3, 45), (3, 46), (3, 47), (3, 48), (3, 50), (3, 53), (3, 97), (3, 98), (3, 99), (3, 100), (3, 101), (3, 104), (3, 105), (3, 107)] rfl
set_option maxRecDepth 100000 in
theorem wsL0_i15 : ∀ w ∈ wsL_law0_r15, w ∈ lw_tb2 := tp_q [(3, 118), (3, 119), (3, 120), (3, 121), (3, 123), (3, 124), (3, 125), (3, 127), (3, 129), (3, 130), (3, 132), (3, 187), (3, 188), (3, 189), (3, 190), (3, 191), (3, 192), (3, 193), (3, 194), (3, 195), (3, 196), (3, 197), (3, 198), (3, 199)] rfl
set_option maxRecDepth 100000 in
theorem wsL0_i16 : ∀ w ∈ wsL_law0_r16, w ∈ lw_tb2 := tp_q [(3, 200), (3, 201), (3, 202), (3, 203), (3, 204), (3, 205), (3, 206), (3, 207), (3, 208), (3, 209), (3, 210), (3, 211), (3, 212), (3, 213), (3, 214), (3, 215), (3, 216), (3, 217), (3, 218), (3, 11), (3, 219), (3, 220), (3, 221), (3, 222)] rfl
set_option maxRecDepth 100000 in
theorem wsL0_i17 : ∀ w ∈ wsL_law0_r17, w ∈ lw_tb2 := tp_q [(3, 223), (3, 224), (3, 225), (3, 226), (3, 65), (3, 67), (3, 69), (3, 71), (3, 106), (3, 227), (3, 228), (3, 229), (3, 230), (3, 54), (3, 17), (3, 231), (3, 232), (3, 233), (3, 234), (3, 235), (3, 236), (3, 237), (3, 238), (3, 239)] rfl
set_option maxRecDepth 100000 in
theorem wsL0_i18 : ∀ w ∈ wsL_law0_r18, w ∈ lw_tb2 := tp_q [(4, 0), (4, 1), (4, 2), (4, 3), (4, 4), (4, 5), (4, 7), (0, 6), (4, 8), (4, 9), (4, 10), (4, 11), (4, 12), (4, 14), (0, 7), (4, 15), (4, 16), (4, 17), (4, 18), (4, 20), (0, 8), (4, 21), (4, 23), (4, 24)] rfl
set_option maxRecDepth 100000 in
theorem wsL0_i19 : ∀ w ∈ wsL_law0_r19, w ∈ lw_tb2 := tp_q [(4, 25), (4, 26), (4, 27), (4, 28), (4, 29), (4, 31), (0, 9), (4, 32), (3, 19), (4, 33), (4, 34), (4, 36), (0, 10), (4, 37), (3, 15), (4, 39), (4, 40), (4, 41), (4, 42), (4, 43), (4, 44), (4, 46), (4, 48), (0, 11)] rfl
set_option maxRecDepth 100000 in
theorem wsL0_i20 : ∀ w ∈ wsL_law0_r20, w ∈ lw_tb2 := tp_q [(4, 49), (3, 52), (4, 50), (1, 29), (1, 30), (1, 31), (4, 51), (4, 53), (0, 12), (4, 54), (4, 56), (4, 58), (0, 13), (4, 59), (4, 61), (4, 63), (0, 14), (4, 64), (4, 65), (4, 66), (4, 67), (4, 72), (4, 74), (0, 15)] rfl
set_option maxRecDepth 100000 in
theorem wsL0_i21 : ∀ w ∈ wsL_law0_r21, w ∈ lw_tb2 := tp_q [(4, 75), (1, 172), (1, 173), (1, 174), (1, 175), (4, 157), (4, 158), (4, 159), (4, 160), (4, 161), (4, 162), (4, 164), (4, 165), (4, 166), (1, 184), (1, 185), (1, 186), (1, 187), (3, 55), (3, 128), (1, 153), (1, 155), (0, 2), (1, 156)] rfl
set_option maxRecDepth 100000 in
theorem wsL0_i22 : ∀ w ∈ wsL_law0_r22, w ∈ lw_tb2 := tp_q [(1, 188), (1, 190), (0, 5), (1, 191), (3, 49), (1, 192), (1, 193), (1, 194), (1, 195), (1, 196), (1, 197), (1, 198), (1, 199), (1, 200), (1, 201), (1, 202), (1, 203), (1, 204), (1, 205), (1, 206), (1, 207), (4, 167), (4, 168), (4, 169)] rfl
set_option maxRecDepth 100000 in
theorem wsL0_i23 : ∀ w ∈ wsL_law0_r23, w ∈ lw_tb2 := tp_q [(4, 170), (4, 171), (4, 172), (4, 173), (1, 28), (4, 120), (4, 174), (4, 176), (0, 16), (4, 177), (4, 178), (4, 179), (4, 180), (4, 181), (1, 168), (1, 169), (1, 170), (1, 171), (4, 182), (4, 183), (4, 184), (4, 185), (4, 187), (4, 186)] rfl
set_option maxRecDepth 100000 in
theorem wsL0_i24 : ∀ w ∈ wsL_law0_r24, w ∈ lw_tb2 := tp_q [(1, 148), (1, 150), (0, 1), (1, 152), (1, 157), (1, 159), (0, 3), (1, 160), (1, 161), (1, 163), (0, 4), (1, 164), (1, 165), (4, 188), (4, 189), (4, 190), (4, 191), (3, 51), (4, 192), (4, 193), (4, 194), (4, 195), (4, 196), (4, 197)] rfl
set_option maxRecDepth 100000 in
theorem wsL0_i25 : ∀ w ∈ wsL_law0_r25, w ∈ lw_tb2 := tp_q [(4, 198), (4, 199), (4, 200), (4, 201), (4, 202), (4, 203), (4, 204), (4, 205), (4, 206), (4, 207), (4, 208), (4, 97), (4, 98), (4, 99), (4, 100), (4, 209), (4, 210), (4, 211), (4, 212), (4, 213), (4, 214), (4, 215), (4, 216), (4, 217)] rfl
set_option maxRecDepth 100000 in
theorem wsL0_i26 : ∀ w ∈ wsL_law0_r26, w ∈ lw_tb2 := tp_q [(4, 218), (4, 219), (4, 220), (4, 221), (4, 222), (4, 223), (4, 224), (4, 225), (4, 226), (4, 227), (4, 228), (4, 229), (4, 230), (4, 231), (4, 232), (4, 233), (4, 234), (4, 235), (4, 236), (4, 237), (4, 238), (4, 239), (5, 0), (5, 1)] rfl
set_option maxRecDepth 100000 in
theorem wsL0_i27 : ∀ w ∈ wsL_law0_r27, w ∈ lw_tb2 := tp_q [(5, 2), (5, 4), (0, 17), (5, 5), (5, 6), (5, 7), (5, 8), (4, 154), (4, 155), (4, 156), (1, 133), (1, 134), (1, 135), (1, 136), (4, 76), (4, 77), (4, 78), (1, 24), (1, 25), (1, 26), (1, 27), (1, 32), (1, 22), (1, 117)] rfl
set_option maxRecDepth 100000 in
theorem wsL0_i28 : ∀ w ∈ wsL_law0_r28, w ∈ lw_tb2 := tp_q [(1, 23), (1, 101), (1, 102), (1, 103), (1, 104), (1, 105), (1, 106), (1, 107), (1, 108), (1, 109), (1, 110), (1, 111), (1, 112), (1, 113), (1, 114), (1, 115), (1, 116), (1, 180), (1, 181), (1, 182), (1, 183), (1, 141), (1, 142), (1, 143)] rfl
set_option maxRecDepth 100000 in
theorem wsL0_i29 : ∀ w ∈ wsL_law0_r29, w ∈ lw_tb2 := tp_q [(1, 144), (1, 145), (1, 146), (1, 6), (1, 147), (4, 79), (4, 80), (4, 81), (4, 82), (4, 83), (4, 84), (4, 85), (4, 87), (4, 88), (4, 89), (4, 90), (4, 91), (4, 92), (4, 93), (4, 94), (4, 95), (4, 96), (3, 126), (4, 101)] rfl
set_option maxRecDepth 100000 in
theorem wsL0_i30 : ∀ w ∈ wsL_law0_r30, w ∈ lw_tb2 := tp_q [(4, 102), (4, 103), (4, 104), (4, 105), (4, 106), (4, 107), (4, 108), (4, 109), (4, 110), (4, 111), (4, 112), (4, 113), (4, 114), (4, 115), (3, 131), (4, 116), (4, 117), (4, 118), (4, 119), (3, 122), (4, 121), (4, 122), (4, 123), (4, 124)] rfl
set_option maxRecDepth 100000 in
theorem wsL0_i31 : ∀ w ∈ wsL_law0_r31, w ∈ lw_tb2 := tp_q [(4, 125), (4, 126), (4, 127), (4, 128), (4, 129), (4, 130), (4, 131), (4, 132), (4, 133), (4, 134), (4, 135), (4, 136), (4, 137), (4, 138), (4, 139), (4, 140), (4, 141), (4, 142), (4, 143), (4, 144), (4, 145), (4, 146), (4, 147), (4, 148)] rfl
set_option maxRecDepth 100000 in
theorem wsL0_i32 : ∀ w ∈ wsL_law0_r32, w ∈ lw_tb2 := tp_q [(4, 149), (4, 150), (4, 151), (4, 152), (4, 153), (1, 137), (1, 138), (1, 139), (1, 140), (1, 176), (1, 177), (1, 178), (1, 179)] rfl
set_option maxRecDepth 100000 in
theorem inJ4 : ∀ w ∈ wsJ40, w ∈ lw_tb2 := tp_q [(2, 19), (2, 21), (2, 23), (2, 25)] rfl
set_option maxRecDepth 100000 in
theorem inX5 : ∀ w ∈ wsX50, w ∈ lw_tb2 := tp_q [(3, 162), (3, 164), (3, 166), (3, 168), (3, 170), (3, 172), (3, 174), (3, 176), (3, 178), (3, 180), (3, 182), (3, 184)] rfl
set_option maxRecDepth 100000 in
theorem inJ0 : ∀ w ∈ wsJ00, w ∈ lw_tb2 := tp_q [(2, 223), (2, 225), (2, 227), (2, 229)] rfl
set_option maxRecDepth 100000 in
theorem inX4 : ∀ w ∈ wsX40, w ∈ lw_tb2 := tp_q [(3, 20), (3, 22), (3, 24), (3, 26), (3, 28), (3, 30), (3, 32)] rfl
set_option maxRecDepth 100000 in
theorem inX1 : ∀ w ∈ wsX10, w ∈ lw_tb2 := tp_q [(3, 76), (3, 78), (3, 80), (3, 82), (3, 84), (3, 86), (3, 88), (3, 90)] rfl
set_option maxRecDepth 100000 in
theorem inX2 : ∀ w ∈ wsX20, w ∈ lw_tb2 := tp_q [(3, 56), (3, 58), (3, 60)] rfl
set_option maxRecDepth 100000 in
theorem inX0 : ∀ w ∈ wsX00, w ∈ lw_tb2 := tp_q [(3, 108), (3, 110), (3, 112)] rfl
set_option maxRecDepth 100000 in
theorem inX3 : ∀ w ∈ wsX30, w ∈ lw_tb2 := tp_q [(3, 133), (3, 135), (3, 137), (3, 139), (3, 141), (3, 143), (3, 145), (3, 147)] rfl
theorem wsL0_in : ∀ w ∈ wsL_law0, w ∈ lw_tb2 := List.forall_mem_append.mpr ⟨List.forall_mem_append.mpr ⟨List.forall_mem_append.mpr ⟨List.forall_mem_append.mpr ⟨List.forall_mem_append.mpr ⟨List.forall_mem_append.mpr ⟨List.forall_mem_append.mpr ⟨List.forall_mem_append.mpr ⟨List.forall_mem_append.mpr ⟨List.forall_mem_append.mpr ⟨wsL0_i1, List.forall_mem_append.mpr ⟨wsL0_i2, List.forall_mem_append.mpr ⟨wsL0_i3, List.forall_mem_append.mpr ⟨wsL0_i4, List.forall_mem_append.mpr ⟨wsL0_i5, List.forall_mem_append.mpr ⟨wsL0_i6, List.forall_mem_append.mpr ⟨wsL0_i7, List.forall_mem_append.mpr ⟨wsL0_i8, List.forall_mem_append.mpr ⟨wsL0_i9, List.forall_mem_append.mpr ⟨wsL0_i10, List.forall_mem_append.mpr ⟨wsL0_i11, List.forall_mem_append.mpr ⟨wsL0_i12, List.forall_mem_append.mpr ⟨wsL0_i13, List.forall_mem_append.mpr ⟨wsL0_i14, List.forall_mem_append.mpr ⟨wsL0_i15, List.forall_mem_append.mpr ⟨wsL0_i16, List.forall_mem_append.mpr ⟨wsL0_i17, List.forall_mem_append.mpr ⟨wsL0_i18, List.forall_mem_append.mpr ⟨wsL0_i19, List.forall_mem_append.mpr ⟨wsL0_i20, List.forall_mem_append.mpr ⟨wsL0_i21, List.forall_mem_append.mpr ⟨wsL0_i22, List.forall_mem_append.mpr ⟨wsL0_i23, List.forall_mem_append.mpr ⟨wsL0_i24, List.forall_mem_append.mpr ⟨wsL0_i25, List.forall_mem_append.mpr ⟨wsL0_i26, List.forall_mem_append.mpr ⟨wsL0_i27, List.forall_mem_append.mpr ⟨wsL0_i28, List.forall_mem_append.mpr ⟨wsL0_i29, List.forall_mem_append.mpr ⟨wsL0_i30, List.forall_mem_append.mpr ⟨wsL0_i31, wsL0_i32⟩⟩⟩⟩⟩⟩⟩⟩⟩⟩⟩⟩⟩⟩⟩⟩⟩⟩⟩⟩⟩⟩⟩⟩⟩⟩⟩⟩⟩⟩⟩, inJ4⟩, inX5⟩, inJ0⟩, inX4⟩, inX1⟩, inX2⟩, inX0⟩, inX3⟩, fun _ h => absurd h List.not_mem_nil⟩

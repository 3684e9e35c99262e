/-! the words of the law among those of the tables, by their places -/
def tp_all : List (List Cond) := [k2_sels lw_privs, tables_1_1, tables_1_2, tables_1_3, tables_1_4, tables_1_5, tables_1_6]
theorem tp_in : ∀ l ∈ tp_all, ∀ w ∈ l, w ∈ lw_tbl := by
  have h : ∀ w ∈ lw_tbl, w ∈ lw_tbl := fun _ h => h
  obtain ⟨h0, h⟩ := List.forall_mem_append.mp h
  obtain ⟨h1, h⟩ := List.forall_mem_append.mp h
  obtain ⟨h2, h⟩ := List.forall_mem_append.mp h
  obtain ⟨h3, h⟩ := List.forall_mem_append.mp h
  obtain ⟨h4, h⟩ := List.forall_mem_append.mp h
  obtain ⟨h5, h⟩ := List.forall_mem_append.mp h
  exact List.forall_mem_cons.mpr ⟨h0, List.forall_mem_cons.mpr ⟨h1, List.forall_mem_cons.mpr ⟨h2, List.forall_mem_cons.mpr ⟨h3, List.forall_mem_cons.mpr ⟨h4, List.forall_mem_cons.mpr ⟨h5, List.forall_mem_cons.mpr ⟨h, fun _ q => absurd q List.not_mem_nil⟩⟩⟩⟩⟩⟩⟩
def tp_at (q : Nat × Nat) : Option Cond := (tp_all[q.1]?).bind fun l => l[q.2]?
theorem tp_q {ws : List Cond} (ps : List (Nat × Nat)) (hp : ws = ps.filterMap tp_at) : ∀ w ∈ ws, w ∈ lw_tbl := by
  intro w hw
  rw [hp] at hw
  obtain ⟨q, -, hq⟩ := List.mem_filterMap.mp hw
  obtain ⟨l, h1, h2⟩ := Option.bind_eq_some_iff.mp hq
  exact tp_in l (List.mem_of_getElem? h1) w (List.mem_of_getElem? h2)
set_option maxRecDepth 100000 in
theorem wsL0_i1 : ∀ w ∈ wsL_law0_r1, w ∈ lw_tbl := tp_q [(1, 18), (1, 19), (1, 1), (4, 116), (4, 117), (1, 7), (6, 174), (1, 20), (1, 21), (1, 22), (1, 23), (1, 24), (1, 25), (1, 26), (1, 27), (1, 2), (1, 175), (1, 59), (1, 60), (1, 3), (1, 176), (1, 118), (1, 66), (1, 4)] rfl
set_option maxRecDepth 100000 in
theorem wsL0_i2 : ∀ w ∈ wsL_law0_r2, w ∈ lw_tbl := tp_q [(1, 177), (1, 178), (1, 120), (1, 121), (1, 5), (1, 179), (1, 140), (1, 141), (1, 6), (1, 180), (1, 181), (1, 86), (1, 182), (1, 183), (1, 184), (1, 185), (1, 186), (1, 29), (1, 30), (1, 31), (1, 58), (1, 32), (1, 33), (1, 35)] rfl
set_option maxRecDepth 100000 in
theorem wsL0_i3 : ∀ w ∈ wsL_law0_r3, w ∈ lw_tbl := tp_q [(1, 36), (1, 37), (1, 39), (1, 41), (1, 62), (1, 63), (1, 64), (1, 65), (1, 87), (1, 89), (1, 91), (1, 93), (1, 95), (1, 97), (1, 99), (1, 100), (1, 68), (1, 69), (1, 70), (1, 71), (1, 73), (1, 76), (1, 122), (1, 123)] rfl
set_option maxRecDepth 100000 in
theorem wsL0_i4 : ∀ w ∈ wsL_law0_r4, w ∈ lw_tbl := tp_q [(1, 124), (1, 125), (1, 126), (1, 129), (1, 130), (1, 132), (1, 143), (1, 144), (1, 145), (1, 146), (1, 148), (1, 149), (1, 150), (1, 152), (1, 154), (1, 155), (1, 157), (4, 118), (4, 119), (4, 120), (4, 121), (4, 123), (4, 125), (4, 126)] rfl
set_option maxRecDepth 100000 in
theorem wsL0_i5 : ∀ w ∈ wsL_law0_r5, w ∈ lw_tbl := tp_q [(4, 131), (4, 132), (4, 133), (4, 135), (4, 136), (4, 137), (4, 152), (4, 153), (4, 154), (4, 156), (4, 157), (4, 158), (4, 159), (5, 9), (4, 161), (4, 162), (4, 163), (4, 128), (1, 212), (1, 213), (1, 214), (1, 215), (1, 34), (1, 216)] rfl
set_option maxRecDepth 100000 in
theorem wsL0_i6 : ∀ w ∈ wsL_law0_r6, w ∈ lw_tbl := tp_q [(1, 217), (1, 218), (1, 219), (5, 14), (5, 15), (5, 16), (5, 17), (4, 122), (4, 124), (1, 220), (1, 221), (1, 222), (1, 223), (1, 88), (1, 90), (1, 92), (1, 94), (1, 131), (1, 224), (1, 225), (1, 226), (1, 227), (1, 77), (1, 40)] rfl
set_option maxRecDepth 100000 in
theorem wsL0_i7 : ∀ w ∈ wsL_law0_r7, w ∈ lw_tbl := tp_q [(1, 228), (1, 229), (1, 230), (1, 231), (1, 232), (1, 233), (1, 234), (1, 235), (1, 236), (1, 237), (1, 238), (1, 239), (2, 0), (2, 1), (2, 2), (2, 4), (0, 0), (2, 5), (2, 6), (2, 7), (2, 8), (2, 9), (2, 11), (0, 1)] rfl
set_option maxRecDepth 100000 in
theorem wsL0_i8 : ∀ w ∈ wsL_law0_r8, w ∈ lw_tbl := tp_q [(2, 12), (2, 13), (2, 14), (2, 15), (1, 8), (2, 16), (2, 17), (2, 19), (0, 2), (2, 20), (2, 22), (2, 23), (2, 24), (2, 25), (2, 26), (2, 27), (2, 28), (1, 9), (2, 29), (6, 187), (2, 30), (2, 31), (2, 32), (2, 33)] rfl
set_option maxRecDepth 100000 in
theorem wsL0_i9 : ∀ w ∈ wsL_law0_r9, w ∈ lw_tbl := tp_q [(2, 34), (6, 188), (2, 36), (2, 37), (2, 38), (2, 39), (2, 40), (2, 41), (2, 42), (2, 43), (2, 44), (2, 45), (1, 10), (2, 46), (2, 47), (2, 48), (2, 49), (2, 50), (2, 52), (2, 53), (1, 11), (2, 54), (2, 55), (2, 56)] rfl
set_option maxRecDepth 100000 in
theorem wsL0_i10 : ∀ w ∈ wsL_law0_r10, w ∈ lw_tbl := tp_q [(1, 12), (2, 57), (2, 58), (2, 59), (2, 60), (2, 61), (2, 62), (2, 63), (2, 64), (2, 65), (2, 66), (2, 67), (2, 68), (2, 70), (2, 72), (2, 74), (2, 76), (0, 3), (2, 77), (1, 42), (2, 78), (2, 79), (2, 81), (0, 4)] rfl
set_option maxRecDepth 100000 in
theorem wsL0_i11 : ∀ w ∈ wsL_law0_r11, w ∈ lw_tbl := tp_q [(2, 82), (1, 38), (2, 84), (2, 85), (2, 86), (2, 87), (2, 88), (2, 89), (2, 91), (2, 93), (0, 5), (2, 94), (1, 75), (2, 95), (2, 96), (2, 97), (2, 98), (2, 99), (2, 101), (0, 6), (2, 102), (2, 104), (2, 106), (0, 7)] rfl
set_option maxRecDepth 100000 in
theorem wsL0_i12 : ∀ w ∈ wsL_law0_r12, w ∈ lw_tbl := tp_q [(2, 107), (2, 109), (2, 111), (0, 8), (2, 112), (2, 113), (2, 114), (2, 115), (2, 120), (2, 122), (0, 9), (2, 123), (2, 124), (2, 125), (2, 126), (2, 127), (5, 18), (5, 19), (5, 20), (5, 21), (4, 138), (4, 139), (4, 140), (4, 141)] rfl
set_option maxRecDepth 100000 in
theorem wsL0_i13 : ∀ w ∈ wsL_law0_r13, w ∈ lw_tbl := tp_q [(4, 142), (4, 143), (4, 144), (4, 145), (4, 149), (4, 147), (4, 151), (4, 150), (4, 127), (4, 129), (4, 130), (4, 134), (5, 22), (5, 24), (0, 24), (5, 25), (4, 146), (4, 148), (5, 26), (5, 28), (0, 25), (5, 29), (5, 30), (5, 31)] rfl
set_option maxRecDepth 100000 in
theorem wsL0_i14 : ∀ w ∈ wsL_law0_r14, w ∈ lw_tbl := tp_q [(5, 32), (5, 33), (5, 35), (0, 26), (5, 36), (5, 38), (5, 39), (5, 40), (5, 41), (5, 42), (5, 43), (5, 45), (0, 27), (5, 46), (5, 47), (5, 49), (0, 28), (5, 50), (5, 51), (5, 53), (0, 29), (5, 54), (5, 55), (5, 57)] rfl
set_option maxRecDepth 100000 in
theorem wsL0_i15 : ∀ w ∈ wsL_law0_r15, w ∈ lw_tbl := tp_q [(0, 30), (5, 58), (5, 59), (5, 61), (0, 31), (5, 62), (5, 63), (5, 65), (0, 32), (5, 66), (5, 67), (5, 69), (0, 33), (5, 70), (5, 71), (5, 73), (0, 34), (5, 74), (2, 129), (2, 130), (2, 131), (2, 132), (1, 96), (1, 98)] rfl
set_option maxRecDepth 100000 in
theorem wsL0_i16 : ∀ w ∈ wsL_law0_r16, w ∈ lw_tbl := tp_q [(5, 75), (5, 76), (5, 77), (5, 78), (4, 25), (4, 26), (1, 0), (4, 27), (4, 28), (4, 29), (4, 30), (4, 31), (4, 32), (4, 33), (4, 34), (1, 16), (4, 100), (1, 17), (1, 72), (1, 74), (2, 137), (3, 67), (3, 68), (3, 69)] rfl
set_option maxRecDepth 100000 in
theorem wsL0_i17 : ∀ w ∈ wsL_law0_r17, w ∈ lw_tbl := tp_q [(3, 70), (3, 152), (3, 153), (3, 154), (3, 155), (3, 156), (3, 157), (3, 158), (3, 159), (3, 148), (3, 149), (3, 150), (3, 151), (5, 79), (5, 80), (5, 81), (5, 82), (5, 83), (5, 85), (0, 35), (5, 86), (5, 87), (5, 89), (0, 36)] rfl
set_option maxRecDepth 100000 in
theorem wsL0_i18 : ∀ w ∈ wsL_law0_r18, w ∈ lw_tbl := tp_q [(5, 90), (5, 91), (5, 93), (0, 37), (5, 94), (5, 10), (5, 11), (5, 12), (5, 13), (2, 133), (2, 134), (2, 135), (2, 136), (2, 138), (2, 139), (2, 141), (0, 10), (2, 142), (1, 78), (2, 143), (2, 144), (2, 145), (2, 146), (2, 147)] rfl
set_option maxRecDepth 100000 in
theorem wsL0_i19 : ∀ w ∈ wsL_law0_r19, w ∈ lw_tbl := tp_q [(2, 148), (2, 149), (2, 150), (2, 151), (2, 152), (2, 153), (2, 154), (2, 156), (2, 155), (2, 157), (2, 159), (0, 11), (2, 160), (2, 161), (2, 163), (0, 12), (2, 164), (2, 165), (2, 167), (0, 13), (2, 168), (2, 169), (2, 171), (0, 14)] rfl
set_option maxRecDepth 100000 in
theorem wsL0_i20 : ∀ w ∈ wsL_law0_r20, w ∈ lw_tbl := tp_q [(2, 172), (2, 173), (5, 115), (5, 116), (5, 117), (5, 118), (5, 119), (5, 120), (5, 121), (5, 122), (5, 124), (0, 42), (5, 125), (4, 155), (5, 126), (5, 128), (0, 43), (5, 129), (5, 130), (5, 132), (0, 44), (5, 133), (5, 134), (5, 136)] rfl
set_option maxRecDepth 100000 in
theorem wsL0_i21 : ∀ w ∈ wsL_law0_r21, w ∈ lw_tbl := tp_q [(0, 45), (5, 137), (5, 99), (5, 101), (0, 38), (5, 102), (5, 103), (5, 105), (0, 39), (5, 106), (5, 107), (5, 109), (0, 40), (5, 110), (5, 111), (5, 113), (0, 41), (5, 114), (2, 174), (2, 175), (2, 176), (2, 177), (5, 138), (5, 139)] rfl
set_option maxRecDepth 100000 in
theorem wsL0_i22 : ∀ w ∈ wsL_law0_r22, w ∈ lw_tbl := tp_q [(5, 140), (5, 141), (2, 178), (2, 179), (2, 180), (2, 181), (2, 182), (5, 142), (5, 143), (5, 144), (5, 145), (2, 183), (2, 184), (2, 185), (2, 186), (2, 187), (2, 188), (2, 189), (2, 190), (5, 146), (5, 147), (5, 148), (5, 149), (2, 191)] rfl
set_option maxRecDepth 100000 in
theorem wsL0_i23 : ∀ w ∈ wsL_law0_r23, w ∈ lw_tbl := tp_q [(2, 192), (2, 193), (2, 194), (2, 195), (2, 196), (2, 197), (2, 198), (5, 150), (5, 151), (5, 152), (5, 153), (5, 154), (5, 156), (0, 46), (5, 157), (5, 158), (5, 160), (0, 47), (5, 161), (5, 162), (5, 164), (0, 48), (5, 165), (2, 199)] rfl
set_option maxRecDepth 100000 in
theorem wsL0_i24 : ∀ w ∈ wsL_law0_r24, w ∈ lw_tbl := tp_q [(2, 200), (2, 201), (2, 202), (2, 203), (2, 204), (2, 205), (2, 206), (5, 166), (5, 167), (5, 168), (5, 169), (5, 170), (5, 172), (0, 49), (5, 173), (2, 207), (2, 208), (2, 209), (2, 210), (2, 211), (2, 212), (2, 213), (2, 214), (2, 215)] rfl
set_option maxRecDepth 100000 in
theorem wsL0_i25 : ∀ w ∈ wsL_law0_r25, w ∈ lw_tbl := tp_q [(5, 174), (5, 175), (5, 176), (5, 177), (2, 216), (2, 217), (2, 218), (2, 219), (5, 178), (5, 179), (5, 180), (5, 181), (2, 220), (2, 221), (2, 222), (2, 223), (5, 182), (5, 183), (5, 184), (5, 185), (2, 224), (2, 225), (2, 226), (2, 227)] rfl
set_option maxRecDepth 100000 in
theorem wsL0_i26 : ∀ w ∈ wsL_law0_r26, w ∈ lw_tbl := tp_q [(2, 228), (2, 229), (2, 230), (2, 231), (2, 232), (2, 234), (0, 15), (2, 235), (5, 186), (5, 187), (5, 188), (5, 189), (2, 236), (2, 237), (2, 238), (2, 239), (5, 190), (5, 191), (5, 192), (5, 193), (3, 0), (3, 1), (3, 2), (3, 3)] rfl
set_option maxRecDepth 100000 in
theorem wsL0_i27 : ∀ w ∈ wsL_law0_r27, w ∈ lw_tbl := tp_q [(3, 4), (3, 5), (3, 6), (3, 7), (3, 8), (3, 9), (1, 8), (3, 10), (3, 11), (3, 12), (3, 13), (3, 14), (5, 95), (5, 96), (5, 97), (5, 98), (3, 15), (3, 16), (3, 17), (3, 18), (5, 194), (5, 195), (5, 196), (5, 197)] rfl
set_option maxRecDepth 100000 in
theorem wsL0_i28 : ∀ w ∈ wsL_law0_r28, w ∈ lw_tbl := tp_q [(3, 23), (3, 24), (3, 25), (3, 26), (1, 156), (3, 27), (3, 28), (3, 29), (3, 30), (3, 32), (0, 16), (3, 33), (3, 34), (3, 35), (3, 36), (3, 37), (3, 38), (3, 39), (3, 40), (3, 41), (3, 42), (3, 43), (3, 44), (3, 45)] rfl
set_option maxRecDepth 100000 in
theorem wsL0_i29 : ∀ w ∈ wsL_law0_r29, w ∈ lw_tbl := tp_q [(3, 46), (3, 47), (3, 48), (3, 49), (5, 198), (5, 199), (5, 200), (5, 201), (5, 202), (5, 204), (0, 50), (5, 205), (5, 206), (5, 208), (0, 51), (5, 209), (4, 160), (5, 210), (5, 212), (0, 52), (5, 213), (5, 214), (5, 216), (0, 53)] rfl
set_option maxRecDepth 100000 in
theorem wsL0_i30 : ∀ w ∈ wsL_law0_r30, w ∈ lw_tbl := tp_q [(5, 217), (5, 218), (5, 220), (0, 54), (5, 221), (3, 50), (3, 51), (3, 52), (3, 53), (1, 153), (1, 151), (3, 54), (3, 55), (3, 56), (3, 57), (5, 222), (5, 223), (5, 224), (5, 225), (5, 226), (5, 228), (0, 55), (5, 229), (5, 230)] rfl
set_option maxRecDepth 100000 in
theorem wsL0_i31 : ∀ w ∈ wsL_law0_r31, w ∈ lw_tbl := tp_q [(5, 232), (0, 56), (5, 233), (3, 58), (3, 59), (3, 60), (3, 61), (1, 147), (3, 62), (5, 234), (5, 235), (5, 236), (5, 237), (3, 63), (3, 64), (3, 65), (3, 66), (5, 238), (5, 239), (6, 0), (6, 1), (3, 140), (3, 141), (3, 142)] rfl
set_option maxRecDepth 100000 in
theorem wsL0_i32 : ∀ w ∈ wsL_law0_r32, w ∈ lw_tbl := tp_q [(3, 143), (6, 2), (6, 3), (6, 4), (6, 5), (3, 71), (3, 72), (3, 73), (3, 74), (6, 6), (6, 7), (6, 8), (6, 9), (3, 75), (3, 76), (3, 77), (3, 78), (6, 10), (6, 11), (6, 12), (6, 13), (3, 79), (3, 80), (3, 81)] rfl
set_option maxRecDepth 100000 in
theorem wsL0_i33 : ∀ w ∈ wsL_law0_r33, w ∈ lw_tbl := tp_q [(3, 82), (3, 83), (3, 84), (3, 85), (3, 86), (3, 87), (3, 88), (3, 89), (3, 90), (6, 14), (6, 15), (6, 16), (6, 17), (6, 18), (6, 20), (0, 57), (6, 21), (3, 91), (3, 92), (3, 93), (3, 94), (3, 95), (3, 96), (3, 97)] rfl
set_option maxRecDepth 100000 in
theorem wsL0_i34 : ∀ w ∈ wsL_law0_r34, w ∈ lw_tbl := tp_q [(3, 98), (6, 22), (6, 23), (6, 24), (6, 25), (6, 26), (6, 28), (0, 58), (6, 29), (3, 124), (3, 125), (3, 126), (3, 127), (6, 30), (6, 31), (6, 32), (6, 33), (6, 34), (6, 36), (0, 59), (6, 37), (6, 38), (6, 40), (0, 60)] rfl
set_option maxRecDepth 100000 in
theorem wsL0_i35 : ∀ w ∈ wsL_law0_r35, w ∈ lw_tbl := tp_q [(6, 41), (3, 128), (3, 129), (3, 130), (3, 131), (3, 132), (3, 134), (0, 17), (3, 135), (3, 136), (3, 138), (0, 18), (3, 139), (6, 42), (6, 43), (6, 44), (6, 45), (3, 164), (3, 165), (3, 166), (3, 167), (6, 46), (6, 47), (6, 48)] rfl
set_option maxRecDepth 100000 in
theorem wsL0_i36 : ∀ w ∈ wsL_law0_r36, w ∈ lw_tbl := tp_q [(6, 49), (3, 168), (3, 169), (3, 170), (3, 171), (6, 50), (6, 51), (6, 52), (6, 53), (3, 172), (3, 173), (3, 174), (3, 175), (3, 176), (3, 178), (0, 19), (3, 179), (6, 54), (6, 55), (6, 56), (6, 57), (3, 180), (3, 181), (3, 182)] rfl
set_option maxRecDepth 100000 in
theorem wsL0_i37 : ∀ w ∈ wsL_law0_r37, w ∈ lw_tbl := tp_q [(3, 183), (6, 58), (6, 59), (6, 60), (6, 61), (3, 208), (3, 209), (3, 210), (3, 211), (6, 62), (6, 63), (6, 64), (6, 65), (3, 212), (3, 213), (3, 214), (3, 215), (6, 66), (6, 67), (6, 68), (6, 69), (3, 220), (3, 221), (3, 222)] rfl
set_option maxRecDepth 100000 in
theorem wsL0_i38 : ∀ w ∈ wsL_law0_r38, w ∈ lw_tbl := tp_q [(3, 223), (6, 70), (6, 71), (6, 72), (6, 73), (6, 74), (6, 76), (0, 61), (6, 77), (6, 78), (6, 80), (0, 62), (6, 81), (3, 224), (3, 225), (3, 226), (3, 227), (6, 82), (6, 83), (6, 84), (6, 85), (3, 232), (3, 233), (3, 234)] rfl
set_option maxRecDepth 100000 in
theorem wsL0_i39 : ∀ w ∈ wsL_law0_r39, w ∈ lw_tbl := tp_q [(3, 235), (3, 236), (6, 86), (6, 87), (6, 88), (6, 89), (3, 115), (3, 116), (3, 117), (3, 118), (3, 119), (3, 120), (3, 121), (3, 122), (3, 123), (3, 104), (3, 105), (6, 90), (6, 91), (6, 92), (6, 93), (6, 94), (6, 96), (0, 63)] rfl
set_option maxRecDepth 100000 in
theorem wsL0_i40 : ∀ w ∈ wsL_law0_r40, w ∈ lw_tbl := tp_q [(6, 97), (3, 196), (3, 197), (3, 198), (3, 199), (6, 146), (6, 147), (6, 148), (6, 149), (3, 200), (3, 201), (3, 202), (3, 203), (6, 150), (6, 151), (6, 152), (6, 153), (3, 204), (3, 205), (3, 206), (3, 207), (6, 154), (6, 155), (6, 156)] rfl
set_option maxRecDepth 100000 in
theorem wsL0_i41 : ∀ w ∈ wsL_law0_r41, w ∈ lw_tbl := tp_q [(6, 157), (3, 99), (3, 100), (3, 101), (3, 102), (3, 103), (3, 106), (6, 98), (6, 99), (6, 100), (6, 101), (3, 107), (3, 108), (3, 109), (3, 110), (6, 102), (6, 103), (6, 104), (6, 105), (3, 144), (3, 145), (3, 146), (3, 147), (6, 106)] rfl
set_option maxRecDepth 100000 in
theorem wsL0_i42 : ∀ w ∈ wsL_law0_r42, w ∈ lw_tbl := tp_q [(6, 107), (6, 108), (6, 109), (3, 192), (3, 193), (3, 194), (3, 195), (6, 110), (6, 111), (6, 112), (6, 113), (3, 184), (3, 185), (3, 186), (3, 187), (6, 114), (6, 115), (6, 116), (6, 117), (3, 188), (3, 189), (3, 190), (3, 191), (6, 118)] rfl
set_option maxRecDepth 100000 in
theorem wsL0_i43 : ∀ w ∈ wsL_law0_r43, w ∈ lw_tbl := tp_q [(6, 119), (6, 120), (6, 121), (3, 111), (3, 112), (3, 113), (3, 114), (6, 122), (6, 123), (6, 124), (6, 125), (3, 228), (3, 229), (3, 230), (3, 231), (6, 134), (6, 135), (6, 136), (6, 137), (3, 216), (3, 217), (3, 218), (3, 219), (6, 138)] rfl
set_option maxRecDepth 100000 in
theorem wsL0_i44 : ∀ w ∈ wsL_law0_r44, w ∈ lw_tbl := tp_q [(6, 139), (6, 140), (6, 141), (3, 19), (3, 20), (3, 21), (3, 22), (6, 142), (6, 143), (6, 144), (6, 145), (3, 160), (3, 161), (3, 162), (3, 163), (6, 126), (6, 127), (6, 128), (6, 129), (3, 237), (3, 238), (3, 239), (4, 0), (4, 1)] rfl
set_option maxRecDepth 100000 in
theorem wsL0_i45 : ∀ w ∈ wsL_law0_r45, w ∈ lw_tbl := tp_q [(4, 3), (0, 20), (4, 4), (6, 130), (6, 131), (6, 132), (6, 133), (4, 5), (4, 6), (4, 7), (4, 8), (4, 9), (4, 11), (0, 21), (4, 12), (4, 13), (4, 15), (0, 22), (4, 16), (6, 158), (6, 159), (6, 160), (6, 161), (4, 17)] rfl
set_option maxRecDepth 100000 in
theorem wsL0_i46 : ∀ w ∈ wsL_law0_r46, w ∈ lw_tbl := tp_q [(4, 18), (4, 19), (4, 20), (4, 21), (4, 22), (4, 23), (4, 24), (6, 162), (6, 163), (6, 164), (6, 165), (6, 166), (6, 168), (0, 64), (6, 169), (6, 170), (6, 172), (0, 65), (6, 173)] rfl
set_option maxRecDepth 100000 in
theorem inX5 : ∀ w ∈ wsX50, w ∈ lw_tbl := tp_q [(1, 187), (1, 189), (1, 191), (1, 193), (1, 195), (1, 197), (1, 199), (1, 201), (1, 203), (1, 205), (1, 207), (1, 209)] rfl
set_option maxRecDepth 100000 in
theorem inX6 : ∀ w ∈ wsX60, w ∈ lw_tbl := tp_q [(4, 164), (4, 166), (4, 168), (4, 170), (4, 172), (4, 174), (4, 176), (4, 178), (4, 180), (4, 182), (4, 184), (4, 186), (4, 188), (4, 190), (4, 192), (4, 194), (4, 196), (4, 198), (4, 200), (4, 202), (4, 204), (4, 206), (4, 208), (4, 210), (4, 212), (4, 214), (4, 216), (4, 218), (4, 220), (4, 222), (4, 224), (4, 226), (4, 228), (4, 230), (4, 232), (4, 234), (4, 236), (4, 238), (5, 0), (5, 2), (5, 4), (5, 6)] rfl
set_option maxRecDepth 100000 in
theorem inX4 : ∀ w ∈ wsX40, w ∈ lw_tbl := tp_q [(1, 43), (1, 45), (1, 47), (1, 49), (1, 51), (1, 53), (1, 55)] rfl
set_option maxRecDepth 100000 in
theorem inX1 : ∀ w ∈ wsX10, w ∈ lw_tbl := tp_q [(1, 101), (1, 103), (1, 105), (1, 107), (1, 109), (1, 111), (1, 113), (1, 115)] rfl
set_option maxRecDepth 100000 in
theorem inX2 : ∀ w ∈ wsX20, w ∈ lw_tbl := tp_q [(1, 79), (1, 81), (1, 83)] rfl
set_option maxRecDepth 100000 in
theorem inX0 : ∀ w ∈ wsX00, w ∈ lw_tbl := tp_q [(1, 133), (1, 135), (1, 137)] rfl
set_option maxRecDepth 100000 in
theorem inX3 : ∀ w ∈ wsX30, w ∈ lw_tbl := tp_q [(1, 158), (1, 160), (1, 162), (1, 164), (1, 166), (1, 168), (1, 170), (1, 172)] rfl
theorem wsL0_in : ∀ w ∈ wsL_law0, w ∈ lw_tbl := List.forall_mem_append.mpr ⟨List.forall_mem_append.mpr ⟨List.forall_mem_append.mpr ⟨List.forall_mem_append.mpr ⟨List.forall_mem_append.mpr ⟨List.forall_mem_append.mpr ⟨List.forall_mem_append.mpr ⟨List.forall_mem_append.mpr ⟨List.forall_mem_append.mpr ⟨wsL0_i1, List.forall_mem_append.mpr ⟨wsL0_i2, List.forall_mem_append.mpr ⟨wsL0_i3, List.forall_mem_append.mpr ⟨wsL0_i4, List.forall_mem_append.mpr ⟨wsL0_i5, List.forall_mem_append.mpr ⟨wsL0_i6, List.forall_mem_append.mpr ⟨wsL0_i7, List.forall_mem_append.mpr ⟨wsL0_i8, List.forall_mem_append.mpr ⟨wsL0_i9, List.forall_mem_append.mpr ⟨wsL0_i10, List.forall_mem_append.mpr ⟨wsL0_i11, List.forall_mem_append.mpr ⟨wsL0_i12, List.forall_mem_append.mpr ⟨wsL0_i13, List.forall_mem_append.mpr ⟨wsL0_i14, List.forall_mem_append.mpr ⟨wsL0_i15, List.forall_mem_append.mpr ⟨wsL0_i16, List.forall_mem_append.mpr ⟨wsL0_i17, List.forall_mem_append.mpr ⟨wsL0_i18, List.forall_mem_append.mpr ⟨wsL0_i19, List.forall_mem_append.mpr ⟨wsL0_i20, List.forall_mem_append.mpr ⟨wsL0_i21, List.forall_mem_append.mpr ⟨wsL0_i22, List.forall_mem_append.mpr ⟨wsL0_i23, List.forall_mem_append.mpr ⟨wsL0_i24, List.forall_mem_append.mpr ⟨wsL0_i25, List.forall_mem_append.mpr ⟨wsL0_i26, List.forall_mem_append.mpr ⟨wsL0_i27, List.forall_mem_append.mpr ⟨wsL0_i28, List.forall_mem_append.mpr ⟨wsL0_i29, List.forall_mem_append.mpr ⟨wsL0_i30, List.forall_mem_append.mpr ⟨wsL0_i31, List.forall_mem_append.mpr ⟨wsL0_i32, List.forall_mem_append.mpr ⟨wsL0_i33, List.forall_mem_append.mpr ⟨wsL0_i34, List.forall_mem_append.mpr ⟨wsL0_i35, List.forall_mem_append.mpr ⟨wsL0_i36, List.forall_mem_append.mpr ⟨wsL0_i37, List.forall_mem_append.mpr ⟨wsL0_i38, List.forall_mem_append.mpr ⟨wsL0_i39, List.forall_mem_append.mpr ⟨wsL0_i40, List.forall_mem_append.mpr ⟨wsL0_i41, List.forall_mem_append.mpr ⟨wsL0_i42, List.forall_mem_append.mpr ⟨wsL0_i43, List.forall_mem_append.mpr ⟨wsL0_i44, List.forall_mem_append.mpr ⟨wsL0_i45, wsL0_i46⟩⟩⟩⟩⟩⟩⟩⟩⟩⟩⟩⟩⟩⟩⟩⟩⟩⟩⟩⟩⟩⟩⟩⟩⟩⟩⟩⟩⟩⟩⟩⟩⟩⟩⟩⟩⟩⟩⟩⟩⟩⟩⟩⟩⟩, inX5⟩, inX6⟩, inX4⟩, inX1⟩, inX2⟩, inX0⟩, inX3⟩, fun _ h => absurd h List.not_mem_nil⟩

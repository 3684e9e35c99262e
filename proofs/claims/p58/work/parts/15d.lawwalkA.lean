set_option maxHeartbeats 4000000 in
set_option maxRecDepth 100000 in
theorem kL_cell (l : Launch) (D : va_G) (cA : Nat → ClassId) (bS : Nat) (xs : Nat → Int32) (nS : Nat)   (x1 : Int32) (q : Int32) (h : mL_cell xs nS  x1 = some q) : MIT l yL_cell wsL_cell { frames := 0, cells := 0, slots := 0, locals := 0 } D cA bS xs nS .int [.ref bS, .int x1] [] [] q := by
  refine MIT.of (cc := cL_cell) (maxL := 2) (by decide +kernel) rfl rfl rfl (Nat.le_of_ble_eq_true rfl) ?_
  intro p e s m args below meth c A ls Q hx hb hml hts hown hK hP hD hA hS hT hl hret
  have hl : lv_has ls 2 [(0, .ref bS), (1, .int x1)] := hl
  unfold mL_cell at h
  refine lv_iload_n hx hb dL_cell_0 rfl (lv_at hl 1 rfl) ?_
  refine lv_aload_n hx hb dL_cell_1 rfl (lv_at hl 0 rfl) ?_
  refine va_tlen (v := nI nS) hx hb hT hS rfl dL_cell_2 ?_
  refine lv_icmp_ge (tgt := 12) hx hb dL_cell_3 (by decide) (fun c1 => ?_) (fun c1 => ?_)
  · have h := e_t c1 h
    refine lv_iconst (v := 0) hx hb dL_cell_12 (by decide) ?_
    obtain rfl := e_s h
    exact hret hP hS rfl dL_cell_13
  · have h := e_f c1 h
    refine lv_aload_n hx hb dL_cell_6 rfl (lv_at hl 0 rfl) ?_
    refine lv_iload_n hx hb dL_cell_7 rfl (lv_at hl 1 rfl) ?_
    obtain ⟨v2, ev2, nv2, h⟩ := e_rd h
    refine va_ti (v := .int v2) hx hb hT hS nv2 (congrArg Value.int ev2) dL_cell_8 ?_
    refine lv_goto (tgt := 13) hx hb dL_cell_9 (by decide) ?_
    obtain rfl := e_s h
    exact hret hP hS rfl dL_cell_13
set_option maxHeartbeats 4000000 in
set_option maxRecDepth 100000 in
theorem kL_in (l : Launch) (D : va_G) (cA : Nat → ClassId)   (x0 : Int32) (x1 : Int32) (q : Int32) (h : mL_in  x0 x1 = some q) : MI l yL_in wsL_in { frames := 0, cells := 0, slots := 0, locals := 0 } D cA .int [.int x0, .int x1] [] [] q := by
  refine MI.of (cc := cL_in) (maxL := 2) (by decide +kernel) rfl rfl rfl (Nat.le_of_ble_eq_true rfl) ?_
  intro p e s m args below meth c A ls Q hx hb hml hts hown hK hP hD hA hS hl hret
  have hl : lv_has ls 2 [(0, .int x0), (1, .int x1)] := hl
  unfold mL_in at h
  refine lv_iload_n hx hb dL_in_0 rfl (lv_at hl 0 rfl) ?_
  refine lv_ldc (v := 2147483647) hx hb hown (hts (.constant RL 7 (2147483647)) (by decide +kernel)) dL_in_1 ?_
  refine lv_iand hx hb dL_in_3 ?_
  refine lv_iload_n hx hb dL_in_4 rfl (lv_at hl 1 rfl) ?_
  obtain ⟨v1, ev1, nv1, h⟩ := e_rm h
  refine xa_irem hx hb dL_in_5 nv1 ev1 ?_
  obtain rfl := e_s h
  exact hret hP hS rfl dL_in_6
set_option maxHeartbeats 4000000 in
set_option maxRecDepth 100000 in
theorem kL_many (l : Launch) (D : va_G) (cA : Nat → ClassId) (bS : Nat) (xs : Nat → Int32) (nS : Nat)    (q : Int32) (h : mL_many xs nS   = some q) : MIT l yL_many wsL_many { frames := 1, cells := 0, slots := 0, locals := 21 } D cA bS xs nS .int [.ref bS] [] [] q := by
  refine MIT.of (cc := cL_many) (maxL := 1) (by decide +kernel) rfl rfl rfl (Nat.le_of_ble_eq_true rfl) ?_
  intro p e s m args below meth c A ls Q hx hb hml hts hown hK hP hD hA hS hT hl hret
  have hl : lv_has ls 1 [(0, .ref bS)] := hl
  unfold mL_many at h
  refine lv_iconst (v := 3) hx hb dL_many_0 (by decide) ?_
  refine lv_aload_n hx hb dL_many_1 rfl (lv_at hl 0 rfl) ?_
  refine lv_iconst (v := 0) hx hb dL_many_2 (by decide) ?_
  obtain ⟨q1, eq1, h⟩ := e_b h
  refine xs_iT (As := [.ref bS, .int 0]) (rest := [.int 3]) hT ⟨hx, hb, hml, hown, hts⟩ hl.1 (kL_cell l D cA bS xs nS   0  _ eq1) (va_cwS 2 hts gL_many_L_cell rfl rfl rfl (by decide +kernel) ⟨Nat.le_of_ble_eq_true rfl, Nat.le_of_ble_eq_true rfl⟩) rfl hK hP hD hS hA (Nat.le_of_ble_eq_true rfl) dL_many_3 ⟨Nat.zero_le _, Nat.zero_le _⟩ (fun H locs hP hD hS hnq1 => ?_)
  have hP : va_P D vwCl [] H := hP
  have hD : va_D A [] := hD
  refine lv_bipush (v := 18) hx hb dL_many_6 (by decide) ?_
  obtain ⟨q2, eq2, h⟩ := e_b h
  refine xs_i (As := [.int q1, .int 18]) (rest := [.int 3]) ⟨hx, hb, hml, hown, hts⟩ hl.1 (kL_in l D cA   q1 18  _ eq2) (va_cwS 2 hts gL_many_L_in rfl rfl rfl (by decide +kernel) ⟨Nat.le_of_ble_eq_true rfl, Nat.le_of_ble_eq_true rfl⟩) rfl hK hP hD hS hA [] rfl (by decide +kernel) rfl (Nat.le_of_ble_eq_true rfl) dL_many_8 ⟨Nat.zero_le _, Nat.zero_le _⟩ (fun H locs hP hD hS hnq2 => ?_)
  have hP : va_P D vwCl [] H := hP
  have hD : va_D A [] := hD
  refine lv_iadd hx hb dL_many_11 ?_
  obtain rfl := e_s h
  exact hret hP hS rfl dL_many_12
set_option maxHeartbeats 4000000 in
set_option maxRecDepth 100000 in
theorem kL_block (l : Launch) (D : va_G) (cA : Nat → ClassId) (bS : Nat) (xs : Nat → Int32) (nS : Nat)    (q : Int32) (h : mL_block xs nS   = some q) : MIT l yL_block wsL_block { frames := 1, cells := 0, slots := 0, locals := 21 } D cA bS xs nS .int [.ref bS] [] [] q := by
  refine MIT.of (cc := cL_block) (maxL := 1) (by decide +kernel) rfl rfl rfl (Nat.le_of_ble_eq_true rfl) ?_
  intro p e s m args below meth c A ls Q hx hb hml hts hown hK hP hD hA hS hT hl hret
  have hl : lv_has ls 1 [(0, .ref bS)] := hl
  unfold mL_block at h
  refine lv_iconst (v := 2) hx hb dL_block_0 (by decide) ?_
  refine lv_aload_n hx hb dL_block_1 rfl (lv_at hl 0 rfl) ?_
  refine lv_iconst (v := 0) hx hb dL_block_2 (by decide) ?_
  obtain ⟨q1, eq1, h⟩ := e_b h
  refine xs_iT (As := [.ref bS, .int 0]) (rest := [.int 2]) hT ⟨hx, hb, hml, hown, hts⟩ hl.1 (kL_cell l D cA bS xs nS   0  _ eq1) (va_cwS 2 hts gL_block_L_cell rfl rfl rfl (by decide +kernel) ⟨Nat.le_of_ble_eq_true rfl, Nat.le_of_ble_eq_true rfl⟩) rfl hK hP hD hS hA (Nat.le_of_ble_eq_true rfl) dL_block_3 ⟨Nat.zero_le _, Nat.zero_le _⟩ (fun H locs hP hD hS hnq1 => ?_)
  have hP : va_P D vwCl [] H := hP
  have hD : va_D A [] := hD
  refine lv_bipush (v := 32) hx hb dL_block_6 (by decide) ?_
  obtain ⟨v2, ev2, nv2, h⟩ := e_dv h
  refine xa_idiv hx hb dL_block_8 nv2 ev2 ?_
  refine lv_iconst (v := 5) hx hb dL_block_9 (by decide) ?_
  obtain ⟨q3, eq3, h⟩ := e_b h
  refine xs_i (As := [.int v2, .int 5]) (rest := [.int 2]) ⟨hx, hb, hml, hown, hts⟩ hl.1 (kL_in l D cA   v2 5  _ eq3) (va_cwS 2 hts gL_block_L_in rfl rfl rfl (by decide +kernel) ⟨Nat.le_of_ble_eq_true rfl, Nat.le_of_ble_eq_true rfl⟩) rfl hK hP hD hS hA [] rfl (by decide +kernel) rfl (Nat.le_of_ble_eq_true rfl) dL_block_10 ⟨Nat.zero_le _, Nat.zero_le _⟩ (fun H locs hP hD hS hnq3 => ?_)
  have hP : va_P D vwCl [] H := hP
  have hD : va_D A [] := hD
  refine lv_iadd hx hb dL_block_13 ?_
  obtain rfl := e_s h
  exact hret hP hS rfl dL_block_14
set_option maxHeartbeats 4000000 in
set_option maxRecDepth 100000 in
theorem kL_ties (l : Launch) (D : va_G) (cA : Nat → ClassId) (bS : Nat) (xs : Nat → Int32) (nS : Nat)    (q : Int32) (h : mL_ties xs nS   = some q) : MIT l yL_ties wsL_ties { frames := 1, cells := 0, slots := 0, locals := 21 } D cA bS xs nS .int [.ref bS] [] [] q := by
  refine MIT.of (cc := cL_ties) (maxL := 1) (by decide +kernel) rfl rfl rfl (Nat.le_of_ble_eq_true rfl) ?_
  intro p e s m args below meth c A ls Q hx hb hml hts hown hK hP hD hA hS hT hl hret
  have hl : lv_has ls 1 [(0, .ref bS)] := hl
  unfold mL_ties at h
  refine lv_aload_n hx hb dL_ties_0 rfl (lv_at hl 0 rfl) ?_
  refine lv_iconst (v := 0) hx hb dL_ties_1 (by decide) ?_
  obtain ⟨q1, eq1, h⟩ := e_b h
  refine xs_iT (As := [.ref bS, .int 0]) (rest := []) hT ⟨hx, hb, hml, hown, hts⟩ hl.1 (kL_cell l D cA bS xs nS   0  _ eq1) (va_cwS 2 hts gL_ties_L_cell rfl rfl rfl (by decide +kernel) ⟨Nat.le_of_ble_eq_true rfl, Nat.le_of_ble_eq_true rfl⟩) rfl hK hP hD hS hA (Nat.le_of_ble_eq_true rfl) dL_ties_2 ⟨Nat.zero_le _, Nat.zero_le _⟩ (fun H locs hP hD hS hnq1 => ?_)
  have hP : va_P D vwCl [] H := hP
  have hD : va_D A [] := hD
  refine lv_sipush (v := 256) hx hb dL_ties_5 (by decide) ?_
  obtain ⟨v2, ev2, nv2, h⟩ := e_dv h
  refine xa_idiv hx hb dL_ties_8 nv2 ev2 ?_
  refine lv_iconst (v := 4) hx hb dL_ties_9 (by decide) ?_
  obtain ⟨q3, eq3, h⟩ := e_b h
  refine xs_i (As := [.int v2, .int 4]) (rest := []) ⟨hx, hb, hml, hown, hts⟩ hl.1 (kL_in l D cA   v2 4  _ eq3) (va_cwS 2 hts gL_ties_L_in rfl rfl rfl (by decide +kernel) ⟨Nat.le_of_ble_eq_true rfl, Nat.le_of_ble_eq_true rfl⟩) rfl hK hP hD hS hA [] rfl (by decide +kernel) rfl (Nat.le_of_ble_eq_true rfl) dL_ties_10 ⟨Nat.zero_le _, Nat.zero_le _⟩ (fun H locs hP hD hS hnq3 => ?_)
  have hP : va_P D vwCl [] H := hP
  have hD : va_D A [] := hD
  obtain rfl := e_s h
  exact hret hP hS rfl dL_ties_13
set_option maxHeartbeats 4000000 in
set_option maxRecDepth 100000 in
theorem kL_kinds (l : Launch) (D : va_G) (cA : Nat → ClassId) (bS : Nat) (xs : Nat → Int32) (nS : Nat)    (q : Int32) (h : mL_kinds xs nS   = some q) : MIT l yL_kinds wsL_kinds { frames := 1, cells := 0, slots := 0, locals := 21 } D cA bS xs nS .int [.ref bS] [] [] q := by
  refine MIT.of (cc := cL_kinds) (maxL := 1) (by decide +kernel) rfl rfl rfl (Nat.le_of_ble_eq_true rfl) ?_
  intro p e s m args below meth c A ls Q hx hb hml hts hown hK hP hD hA hS hT hl hret
  have hl : lv_has ls 1 [(0, .ref bS)] := hl
  unfold mL_kinds at h
  refine lv_iconst (v := 2) hx hb dL_kinds_0 (by decide) ?_
  refine lv_aload_n hx hb dL_kinds_1 rfl (lv_at hl 0 rfl) ?_
  refine lv_iconst (v := 0) hx hb dL_kinds_2 (by decide) ?_
  obtain ⟨q1, eq1, h⟩ := e_b h
  refine xs_iT (As := [.ref bS, .int 0]) (rest := [.int 2]) hT ⟨hx, hb, hml, hown, hts⟩ hl.1 (kL_cell l D cA bS xs nS   0  _ eq1) (va_cwS 2 hts gL_kinds_L_cell rfl rfl rfl (by decide +kernel) ⟨Nat.le_of_ble_eq_true rfl, Nat.le_of_ble_eq_true rfl⟩) rfl hK hP hD hS hA (Nat.le_of_ble_eq_true rfl) dL_kinds_3 ⟨Nat.zero_le _, Nat.zero_le _⟩ (fun H locs hP hD hS hnq1 => ?_)
  have hP : va_P D vwCl [] H := hP
  have hD : va_D A [] := hD
  refine lv_sipush (v := 1024) hx hb dL_kinds_6 (by decide) ?_
  obtain ⟨v2, ev2, nv2, h⟩ := e_dv h
  refine xa_idiv hx hb dL_kinds_9 nv2 ev2 ?_
  refine lv_bipush (v := 6) hx hb dL_kinds_10 (by decide) ?_
  obtain ⟨q3, eq3, h⟩ := e_b h
  refine xs_i (As := [.int v2, .int 6]) (rest := [.int 2]) ⟨hx, hb, hml, hown, hts⟩ hl.1 (kL_in l D cA   v2 6  _ eq3) (va_cwS 2 hts gL_kinds_L_in rfl rfl rfl (by decide +kernel) ⟨Nat.le_of_ble_eq_true rfl, Nat.le_of_ble_eq_true rfl⟩) rfl hK hP hD hS hA [] rfl (by decide +kernel) rfl (Nat.le_of_ble_eq_true rfl) dL_kinds_12 ⟨Nat.zero_le _, Nat.zero_le _⟩ (fun H locs hP hD hS hnq3 => ?_)
  have hP : va_P D vwCl [] H := hP
  have hD : va_D A [] := hD
  refine lv_iadd hx hb dL_kinds_15 ?_
  obtain rfl := e_s h
  exact hret hP hS rfl dL_kinds_16
set_option maxHeartbeats 4000000 in
set_option maxRecDepth 100000 in
theorem kL_value (l : Launch) (D : va_G) (cA : Nat → ClassId) (bS : Nat) (xs : Nat → Int32) (nS : Nat)   (x1 : Int32) (q : Int32) (h : mL_value xs nS  x1 = some q) : MIT l yL_value wsL_value { frames := 2, cells := 0, slots := 0, locals := 41 } D cA bS xs nS .int [.ref bS, .int x1] [] [] q := by
  refine MIT.of (cc := cL_value) (maxL := 2) (by decide +kernel) rfl rfl rfl (Nat.le_of_ble_eq_true rfl) ?_
  intro p e s m args below meth c A ls Q hx hb hml hts hown hK hP hD hA hS hT hl hret
  have hl : lv_has ls 2 [(0, .ref bS), (1, .int x1)] := hl
  unfold mL_value at h
  refine lv_aload_n hx hb dL_value_0 rfl (lv_at hl 0 rfl) ?_
  refine lv_iconst (v := 1) hx hb dL_value_1 (by decide) ?_
  refine lv_iload_n hx hb dL_value_2 rfl (lv_at hl 1 rfl) ?_
  refine lv_iconst (v := 3) hx hb dL_value_3 (by decide) ?_
  obtain ⟨v1, ev1, nv1, h⟩ := e_dv h
  refine xa_idiv hx hb dL_value_4 nv1 ev1 ?_
  refine lv_iadd hx hb dL_value_5 ?_
  obtain ⟨q2, eq2, h⟩ := e_b h
  refine xs_iT (As := [.ref bS, .int (1 + v1)]) (rest := []) hT ⟨hx, hb, hml, hown, hts⟩ hl.1 (kL_cell l D cA bS xs nS   (1 + v1)  _ eq2) (va_cwS 2 hts gL_value_L_cell rfl rfl rfl (by decide +kernel) ⟨Nat.le_of_ble_eq_true rfl, Nat.le_of_ble_eq_true rfl⟩) rfl hK hP hD hS hA (Nat.le_of_ble_eq_true rfl) dL_value_6 ⟨Nat.zero_le _, Nat.zero_le _⟩ (fun H locs hP hD hS hnq2 => ?_)
  have hP : va_P D vwCl [] H := hP
  have hD : va_D A [] := hD
  refine lv_bipush (v := 8) hx hb dL_value_9 (by decide) ?_
  refine lv_iload_n hx hb dL_value_11 rfl (lv_at hl 1 rfl) ?_
  refine lv_iconst (v := 3) hx hb dL_value_12 (by decide) ?_
  obtain ⟨v3, ev3, nv3, h⟩ := e_rm h
  refine xa_irem hx hb dL_value_13 nv3 ev3 ?_
  refine lv_imul hx hb dL_value_14 ?_
  refine lv_ishr hx hb dL_value_15 ?_
  refine lv_aload_n hx hb dL_value_16 rfl (lv_at hl 0 rfl) ?_
  obtain ⟨q4, eq4, h⟩ := e_b h
  refine xs_iT (As := [.ref bS]) (rest := [.int (q2 >>> ((8 * v3) &&& 31))]) hT ⟨hx, hb, hml, hown, hts⟩ hl.1 (kL_kinds l D cA bS xs nS     _ eq4) (va_cwS 1 hts gL_value_L_kinds rfl rfl rfl (by decide +kernel) ⟨Nat.le_of_ble_eq_true rfl, Nat.le_of_ble_eq_true rfl⟩) rfl hK hP hD hS hA (Nat.le_of_ble_eq_true rfl) dL_value_17 ⟨Nat.zero_le _, Nat.zero_le _⟩ (fun H locs hP hD hS hnq4 => ?_)
  have hP : va_P D vwCl [] H := hP
  have hD : va_D A [] := hD
  obtain ⟨q5, eq5, h⟩ := e_b h
  refine xs_i (As := [.int (q2 >>> ((8 * v3) &&& 31)), .int q4]) (rest := []) ⟨hx, hb, hml, hown, hts⟩ hl.1 (kL_in l D cA   (q2 >>> ((8 * v3) &&& 31)) q4  _ eq5) (va_cwS 2 hts gL_value_L_in rfl rfl rfl (by decide +kernel) ⟨Nat.le_of_ble_eq_true rfl, Nat.le_of_ble_eq_true rfl⟩) rfl hK hP hD hS hA [] rfl (by decide +kernel) rfl (Nat.le_of_ble_eq_true rfl) dL_value_20 ⟨Nat.zero_le _, Nat.zero_le _⟩ (fun H locs hP hD hS hnq5 => ?_)
  have hP : va_P D vwCl [] H := hP
  have hD : va_D A [] := hD
  obtain rfl := e_s h
  exact hret hP hS rfl dL_value_23
set_option maxHeartbeats 4000000 in
set_option maxRecDepth 100000 in
theorem kL_weight (l : Launch) (D : va_G) (cA : Nat → ClassId) (bS : Nat) (xs : Nat → Int32) (nS : Nat)   (x1 : Int32) (q : Int32) (h : mL_weight xs nS  x1 = some q) : MIT l yL_weight wsL_weight { frames := 1, cells := 0, slots := 0, locals := 21 } D cA bS xs nS .int [.ref bS, .int x1] [] [] q := by
  refine MIT.of (cc := cL_weight) (maxL := 2) (by decide +kernel) rfl rfl rfl (Nat.le_of_ble_eq_true rfl) ?_
  intro p e s m args below meth c A ls Q hx hb hml hts hown hK hP hD hA hS hT hl hret
  have hl : lv_has ls 2 [(0, .ref bS), (1, .int x1)] := hl
  unfold mL_weight at h
  refine lv_iconst (v := 1) hx hb dL_weight_0 (by decide) ?_
  refine lv_aload_n hx hb dL_weight_1 rfl (lv_at hl 0 rfl) ?_
  refine lv_iconst (v := 1) hx hb dL_weight_2 (by decide) ?_
  refine lv_iload_n hx hb dL_weight_3 rfl (lv_at hl 1 rfl) ?_
  refine lv_iconst (v := 3) hx hb dL_weight_4 (by decide) ?_
  obtain ⟨v1, ev1, nv1, h⟩ := e_dv h
  refine xa_idiv hx hb dL_weight_5 nv1 ev1 ?_
  refine lv_iadd hx hb dL_weight_6 ?_
  obtain ⟨q2, eq2, h⟩ := e_b h
  refine xs_iT (As := [.ref bS, .int (1 + v1)]) (rest := [.int 1]) hT ⟨hx, hb, hml, hown, hts⟩ hl.1 (kL_cell l D cA bS xs nS   (1 + v1)  _ eq2) (va_cwS 2 hts gL_weight_L_cell rfl rfl rfl (by decide +kernel) ⟨Nat.le_of_ble_eq_true rfl, Nat.le_of_ble_eq_true rfl⟩) rfl hK hP hD hS hA (Nat.le_of_ble_eq_true rfl) dL_weight_7 ⟨Nat.zero_le _, Nat.zero_le _⟩ (fun H locs hP hD hS hnq2 => ?_)
  have hP : va_P D vwCl [] H := hP
  have hD : va_D A [] := hD
  refine lv_bipush (v := 8) hx hb dL_weight_10 (by decide) ?_
  refine lv_iload_n hx hb dL_weight_12 rfl (lv_at hl 1 rfl) ?_
  refine lv_iconst (v := 3) hx hb dL_weight_13 (by decide) ?_
  obtain ⟨v3, ev3, nv3, h⟩ := e_rm h
  refine xa_irem hx hb dL_weight_14 nv3 ev3 ?_
  refine lv_imul hx hb dL_weight_15 ?_
  refine lv_iconst (v := 4) hx hb dL_weight_16 (by decide) ?_
  refine lv_iadd hx hb dL_weight_17 ?_
  refine lv_ishr hx hb dL_weight_18 ?_
  refine lv_iconst (v := 3) hx hb dL_weight_19 (by decide) ?_
  obtain ⟨q4, eq4, h⟩ := e_b h
  refine xs_i (As := [.int (q2 >>> (((8 * v3) + 4) &&& 31)), .int 3]) (rest := [.int 1]) ⟨hx, hb, hml, hown, hts⟩ hl.1 (kL_in l D cA   (q2 >>> (((8 * v3) + 4) &&& 31)) 3  _ eq4) (va_cwS 2 hts gL_weight_L_in rfl rfl rfl (by decide +kernel) ⟨Nat.le_of_ble_eq_true rfl, Nat.le_of_ble_eq_true rfl⟩) rfl hK hP hD hS hA [] rfl (by decide +kernel) rfl (Nat.le_of_ble_eq_true rfl) dL_weight_20 ⟨Nat.zero_le _, Nat.zero_le _⟩ (fun H locs hP hD hS hnq4 => ?_)
  have hP : va_P D vwCl [] H := hP
  have hD : va_D A [] := hD
  refine lv_iadd hx hb dL_weight_23 ?_
  obtain rfl := e_s h
  exact hret hP hS rfl dL_weight_24
set_option maxHeartbeats 4000000 in
set_option maxRecDepth 100000 in
theorem kL_isAhead (l : Launch) (D : va_G) (cA : Nat → ClassId) (ac : Nat → Nat) (cC : Nat → Nat → Int32) (x1 : Int32) (x2 : Int32) (x3 : Int32) (q : Int32) (h : mL_isAhead cC x1 x2 x3 = some q) : MI l yL_isAhead wsL_isAhead { frames := 0, cells := 0, slots := 0, locals := 0 } D cA .boolean [.ref (ac 0), .int x1, .int x2, .int x3] (wL_isAhead cA ac cC) (wL_isAhead cA ac cC) q := by
  refine MI.of (cc := cL_isAhead) (maxL := 4) (by decide +kernel) rfl rfl rfl (Nat.le_of_ble_eq_true rfl) ?_
  intro p e s m args below meth c A ls Q hx hb hml hts hown hK hP hD hA hS hl hret
  have hl : lv_has ls 4 [(0, .ref (ac 0)), (1, .int x1), (2, .int x2), (3, .int x3)] := hl
  unfold mL_isAhead at h
  refine lv_aload_n hx hb dL_isAhead_0 rfl (lv_at hl 0 rfl) ?_
  refine lv_iload_n hx hb dL_isAhead_1 rfl (lv_at hl 1 rfl) ?_
  obtain ⟨j1, ej1, nj1, hltj1, h⟩ := e_rx h
  refine xa_aaldA hx hb hK hP 0 rfl nj1 ej1 dL_isAhead_2 ?_
  refine lv_iconst (v := 0) hx hb dL_isAhead_3 (by decide) ?_
  obtain ⟨v2, ev2, nv2, h⟩ := e_rd h
  refine xa_iald hx hb hK hP (1 + j1) ((by rcases k12 hltj1 with rfl | rfl | rfl | rfl | rfl | rfl | rfl | rfl | rfl | rfl | rfl | rfl <;> rfl : (wL_isAhead cA ac cC)[(1 + j1)]? = some (ac (1 + j1), .inl (cA 0, 3, .inl (cC j1))))) nv2 ev2 dL_isAhead_4 ?_
  refine lv_aload_n hx hb dL_isAhead_5 rfl (lv_at hl 0 rfl) ?_
  refine lv_iload_n hx hb dL_isAhead_6 rfl (lv_at hl 2 rfl) ?_
  obtain ⟨j3, ej3, nj3, hltj3, h⟩ := e_rx h
  refine xa_aaldA hx hb hK hP 0 rfl nj3 ej3 dL_isAhead_7 ?_
  refine lv_iconst (v := 0) hx hb dL_isAhead_8 (by decide) ?_
  obtain ⟨v4, ev4, nv4, h⟩ := e_rd h
  refine xa_iald hx hb hK hP (1 + j3) ((by rcases k12 hltj3 with rfl | rfl | rfl | rfl | rfl | rfl | rfl | rfl | rfl | rfl | rfl | rfl <;> rfl : (wL_isAhead cA ac cC)[(1 + j3)]? = some (ac (1 + j3), .inl (cA 0, 3, .inl (cC j3))))) nv4 ev4 dL_isAhead_9 ?_
  refine lv_icmp_eq (tgt := 32) hx hb dL_isAhead_10 (by decide) (fun c5 => ?_) (fun c5 => ?_)
  · have h := e_t c5 h
    refine lv_iload_n hx hb dL_isAhead_32 rfl (lv_at hl 3 rfl) ?_
    refine lv_if_ne (tgt := 57) hx hb dL_isAhead_33 (by decide) (fun c6 => ?_) (fun c6 => ?_)
    · have h := e_t c6 h
      refine lv_iload_n hx hb dL_isAhead_57 rfl (lv_at hl 3 rfl) ?_
      refine lv_iconst (v := 1) hx hb dL_isAhead_58 (by decide) ?_
      refine lv_icmp_ne (tgt := 83) hx hb dL_isAhead_59 (by decide) (fun c7 => ?_) (fun c7 => ?_)
      · have h := e_t c7 h
        refine lv_iload_n hx hb dL_isAhead_83 rfl (lv_at hl 3 rfl) ?_
        refine lv_iconst (v := 2) hx hb dL_isAhead_84 (by decide) ?_
        refine lv_icmp_ne (tgt := 101) hx hb dL_isAhead_85 (by decide) (fun c8 => ?_) (fun c8 => ?_)
        · have h := e_t c8 h
          refine lv_iload_n hx hb dL_isAhead_101 rfl (lv_at hl 1 rfl) ?_
          refine lv_iload_n hx hb dL_isAhead_102 rfl (lv_at hl 2 rfl) ?_
          refine lv_icmp_le (tgt := 110) hx hb dL_isAhead_103 (by decide) (fun c9 => ?_) (fun c9 => ?_)
          · have h := e_t c9 h
            refine lv_iconst (v := 0) hx hb dL_isAhead_110 (by decide) ?_
            obtain rfl := e_s h
            exact hret hP hS (show narrow .boolean (.int 0) = .int 0 from rfl) dL_isAhead_111
          · have h := e_f c9 h
            refine lv_iconst (v := 1) hx hb dL_isAhead_106 (by decide) ?_
            refine lv_goto (tgt := 111) hx hb dL_isAhead_107 (by decide) ?_
            obtain rfl := e_s h
            exact hret hP hS (show narrow .boolean (.int 1) = .int 1 from rfl) dL_isAhead_111
        · have h := e_f (not_not_intro c8) h
          refine lv_iload_n hx hb dL_isAhead_88 rfl (lv_at hl 1 rfl) ?_
          refine lv_iload_n hx hb dL_isAhead_89 rfl (lv_at hl 2 rfl) ?_
          refine lv_icmp_ge (tgt := 97) hx hb dL_isAhead_90 (by decide) (fun c10 => ?_) (fun c10 => ?_)
          · have h := e_t c10 h
            refine lv_iconst (v := 0) hx hb dL_isAhead_97 (by decide) ?_
            refine lv_goto (tgt := 111) hx hb dL_isAhead_98 (by decide) ?_
            obtain rfl := e_s h
            exact hret hP hS (show narrow .boolean (.int 0) = .int 0 from rfl) dL_isAhead_111
          · have h := e_f c10 h
            refine lv_iconst (v := 1) hx hb dL_isAhead_93 (by decide) ?_
            refine lv_goto (tgt := 111) hx hb dL_isAhead_94 (by decide) ?_
            obtain rfl := e_s h
            exact hret hP hS (show narrow .boolean (.int 1) = .int 1 from rfl) dL_isAhead_111
      · have h := e_f (not_not_intro c7) h
        refine lv_aload_n hx hb dL_isAhead_62 rfl (lv_at hl 0 rfl) ?_
        refine lv_iload_n hx hb dL_isAhead_63 rfl (lv_at hl 1 rfl) ?_
        obtain ⟨j11, ej11, nj11, hltj11, h⟩ := e_rx h
        refine xa_aaldA hx hb hK hP 0 rfl nj11 ej11 dL_isAhead_64 ?_
        refine lv_iconst (v := 2) hx hb dL_isAhead_65 (by decide) ?_
        obtain ⟨v12, ev12, nv12, h⟩ := e_rd h
        refine xa_iald hx hb hK hP (1 + j11) ((by rcases k12 hltj11 with rfl | rfl | rfl | rfl | rfl | rfl | rfl | rfl | rfl | rfl | rfl | rfl <;> rfl : (wL_isAhead cA ac cC)[(1 + j11)]? = some (ac (1 + j11), .inl (cA 0, 3, .inl (cC j11))))) nv12 ev12 dL_isAhead_66 ?_
        refine lv_aload_n hx hb dL_isAhead_67 rfl (lv_at hl 0 rfl) ?_
        refine lv_iload_n hx hb dL_isAhead_68 rfl (lv_at hl 2 rfl) ?_
        obtain ⟨j13, ej13, nj13, hltj13, h⟩ := e_rx h
        refine xa_aaldA hx hb hK hP 0 rfl nj13 ej13 dL_isAhead_69 ?_
        refine lv_iconst (v := 2) hx hb dL_isAhead_70 (by decide) ?_
        obtain ⟨v14, ev14, nv14, h⟩ := e_rd h
        refine xa_iald hx hb hK hP (1 + j13) ((by rcases k12 hltj13 with rfl | rfl | rfl | rfl | rfl | rfl | rfl | rfl | rfl | rfl | rfl | rfl <;> rfl : (wL_isAhead cA ac cC)[(1 + j13)]? = some (ac (1 + j13), .inl (cA 0, 3, .inl (cC j13))))) nv14 ev14 dL_isAhead_71 ?_
        refine lv_icmp_le (tgt := 79) hx hb dL_isAhead_72 (by decide) (fun c15 => ?_) (fun c15 => ?_)
        · have h := e_t c15 h
          refine lv_iconst (v := 0) hx hb dL_isAhead_79 (by decide) ?_
          refine lv_goto (tgt := 111) hx hb dL_isAhead_80 (by decide) ?_
          obtain rfl := e_s h
          exact hret hP hS (show narrow .boolean (.int 0) = .int 0 from rfl) dL_isAhead_111
        · have h := e_f c15 h
          refine lv_iconst (v := 1) hx hb dL_isAhead_75 (by decide) ?_
          refine lv_goto (tgt := 111) hx hb dL_isAhead_76 (by decide) ?_
          obtain rfl := e_s h
          exact hret hP hS (show narrow .boolean (.int 1) = .int 1 from rfl) dL_isAhead_111
    · have h := e_f (not_not_intro c6) h
      refine lv_aload_n hx hb dL_isAhead_36 rfl (lv_at hl 0 rfl) ?_
      refine lv_iload_n hx hb dL_isAhead_37 rfl (lv_at hl 1 rfl) ?_
      obtain ⟨j16, ej16, nj16, hltj16, h⟩ := e_rx h
      refine xa_aaldA hx hb hK hP 0 rfl nj16 ej16 dL_isAhead_38 ?_
      refine lv_iconst (v := 1) hx hb dL_isAhead_39 (by decide) ?_
      obtain ⟨v17, ev17, nv17, h⟩ := e_rd h
      refine xa_iald hx hb hK hP (1 + j16) ((by rcases k12 hltj16 with rfl | rfl | rfl | rfl | rfl | rfl | rfl | rfl | rfl | rfl | rfl | rfl <;> rfl : (wL_isAhead cA ac cC)[(1 + j16)]? = some (ac (1 + j16), .inl (cA 0, 3, .inl (cC j16))))) nv17 ev17 dL_isAhead_40 ?_
      refine lv_aload_n hx hb dL_isAhead_41 rfl (lv_at hl 0 rfl) ?_
      refine lv_iload_n hx hb dL_isAhead_42 rfl (lv_at hl 2 rfl) ?_
      obtain ⟨j18, ej18, nj18, hltj18, h⟩ := e_rx h
      refine xa_aaldA hx hb hK hP 0 rfl nj18 ej18 dL_isAhead_43 ?_
      refine lv_iconst (v := 1) hx hb dL_isAhead_44 (by decide) ?_
      obtain ⟨v19, ev19, nv19, h⟩ := e_rd h
      refine xa_iald hx hb hK hP (1 + j18) ((by rcases k12 hltj18 with rfl | rfl | rfl | rfl | rfl | rfl | rfl | rfl | rfl | rfl | rfl | rfl <;> rfl : (wL_isAhead cA ac cC)[(1 + j18)]? = some (ac (1 + j18), .inl (cA 0, 3, .inl (cC j18))))) nv19 ev19 dL_isAhead_45 ?_
      refine lv_icmp_ge (tgt := 53) hx hb dL_isAhead_46 (by decide) (fun c20 => ?_) (fun c20 => ?_)
      · have h := e_t c20 h
        refine lv_iconst (v := 0) hx hb dL_isAhead_53 (by decide) ?_
        refine lv_goto (tgt := 111) hx hb dL_isAhead_54 (by decide) ?_
        obtain rfl := e_s h
        exact hret hP hS (show narrow .boolean (.int 0) = .int 0 from rfl) dL_isAhead_111
      · have h := e_f c20 h
        refine lv_iconst (v := 1) hx hb dL_isAhead_49 (by decide) ?_
        refine lv_goto (tgt := 111) hx hb dL_isAhead_50 (by decide) ?_
        obtain rfl := e_s h
        exact hret hP hS (show narrow .boolean (.int 1) = .int 1 from rfl) dL_isAhead_111
  · have h := e_f c5 h
    refine lv_aload_n hx hb dL_isAhead_13 rfl (lv_at hl 0 rfl) ?_
    refine lv_iload_n hx hb dL_isAhead_14 rfl (lv_at hl 1 rfl) ?_
    obtain ⟨j21, ej21, nj21, hltj21, h⟩ := e_rx h
    refine xa_aaldA hx hb hK hP 0 rfl nj21 ej21 dL_isAhead_15 ?_
    refine lv_iconst (v := 0) hx hb dL_isAhead_16 (by decide) ?_
    obtain ⟨v22, ev22, nv22, h⟩ := e_rd h
    refine xa_iald hx hb hK hP (1 + j21) ((by rcases k12 hltj21 with rfl | rfl | rfl | rfl | rfl | rfl | rfl | rfl | rfl | rfl | rfl | rfl <;> rfl : (wL_isAhead cA ac cC)[(1 + j21)]? = some (ac (1 + j21), .inl (cA 0, 3, .inl (cC j21))))) nv22 ev22 dL_isAhead_17 ?_
    refine lv_aload_n hx hb dL_isAhead_18 rfl (lv_at hl 0 rfl) ?_
    refine lv_iload_n hx hb dL_isAhead_19 rfl (lv_at hl 2 rfl) ?_
    obtain ⟨j23, ej23, nj23, hltj23, h⟩ := e_rx h
    refine xa_aaldA hx hb hK hP 0 rfl nj23 ej23 dL_isAhead_20 ?_
    refine lv_iconst (v := 0) hx hb dL_isAhead_21 (by decide) ?_
    obtain ⟨v24, ev24, nv24, h⟩ := e_rd h
    refine xa_iald hx hb hK hP (1 + j23) ((by rcases k12 hltj23 with rfl | rfl | rfl | rfl | rfl | rfl | rfl | rfl | rfl | rfl | rfl | rfl <;> rfl : (wL_isAhead cA ac cC)[(1 + j23)]? = some (ac (1 + j23), .inl (cA 0, 3, .inl (cC j23))))) nv24 ev24 dL_isAhead_22 ?_
    refine lv_icmp_le (tgt := 30) hx hb dL_isAhead_23 (by decide) (fun c25 => ?_) (fun c25 => ?_)
    · have h := e_t c25 h
      refine lv_iconst (v := 0) hx hb dL_isAhead_30 (by decide) ?_
      obtain rfl := e_s h
      exact hret hP hS (show narrow .boolean (.int 0) = .int 0 from rfl) dL_isAhead_31
    · have h := e_f c25 h
      refine lv_iconst (v := 1) hx hb dL_isAhead_26 (by decide) ?_
      refine lv_goto (tgt := 31) hx hb dL_isAhead_27 (by decide) ?_
      obtain rfl := e_s h
      exact hret hP hS (show narrow .boolean (.int 1) = .int 1 from rfl) dL_isAhead_31
set_option maxHeartbeats 4000000 in
set_option maxRecDepth 100000 in
theorem kL_ranked (l : Launch) (D : va_G) (cA : Nat → ClassId) (ac : Nat → Nat) (cC : Nat → Nat → Int32) (x1 : Int32) (x2 : Int32) (q : Int32) (h : mL_ranked cC x1 x2 = some q) : MI l yL_ranked wsL_ranked { frames := 1, cells := 0, slots := 0, locals := 23 } D cA .int [.ref (ac 0), .int x1, .int x2] (wL_ranked cA ac cC) (wL_ranked cA ac cC) q := by
  refine MI.of (cc := cL_ranked) (maxL := 6) (by decide +kernel) rfl rfl rfl (Nat.le_of_ble_eq_true rfl) ?_
  intro p e s m args below meth c A ls Q hx hb hml hts hown hK hP hD hA hS hl hret
  have hl : lv_has ls 6 [(0, .ref (ac 0)), (1, .int x1), (2, .int x2)] := hl
  unfold mL_ranked at h
  refine lv_iconst (v := 0) hx hb dL_ranked_0 (by decide) ?_
  refine lv_istore_n (lv' := [(3, .int 0), (0, .ref (ac 0)), (1, .int x1), (2, .int x2)]) hx hb dL_ranked_1 rfl hl (by decide) rfl (fun ls hl => ?_)
  have hL2 : ∀ (n : Nat) (x1 : Int32) (x2 : Int32) (x3 : Int32) (ls : Array Slot) (H : Heap) (locs : List Loc), lv_has ls 6 [(0, .ref (ac 0)), (1, .int x1), (2, .int x2), (3, .int x3)] → va_P D vwCl (wL_ranked cA ac cC) H → va_D A (wL_ranked cA ac cC) → va_S A s.heap H locs → mL_ranked_L2 cC x1 x2 n x3 = some q → W p l e (headSpec wsL_ranked { frames := 1, cells := 0, slots := 0, locals := 23 }).room s m args below meth c H locs 0 0 Q (F0 m 2 ls []) := by
    intro n
    induction n with
    | zero => intro x1 x2 x3 ls H locs hl hP hD hS h; exact e_n h
    | succ n ih2 =>
      intro x1 x2 x3 ls H locs hl hP hD hS h
      rw [mL_ranked_L2.eq_2] at h
      refine lv_iload_n hx hb dL_ranked_2 rfl (lv_at hl 3 rfl) ?_
      refine lv_bipush (v := 12) hx hb dL_ranked_3 (by decide) ?_
      refine lv_icmp_ge (tgt := 88) hx hb dL_ranked_5 (by decide) (fun c2 => ?_) (fun c2 => ?_)
      · have h := e_t c2 h
        refine lv_bipush (v := (-2)) hx hb dL_ranked_88 (by decide) ?_
        obtain rfl := e_s h
        exact hret hP hS rfl dL_ranked_90
      · have h := e_f c2 h
        refine lv_aload_n hx hb dL_ranked_8 rfl (lv_at hl 0 rfl) ?_
        refine lv_iload_n hx hb dL_ranked_9 rfl (lv_at hl 3 rfl) ?_
        obtain ⟨j3, ej3, nj3, hltj3, h⟩ := e_rx h
        refine xa_aaldA hx hb hK hP 0 rfl nj3 ej3 dL_ranked_10 ?_
        refine lv_iconst (v := 0) hx hb dL_ranked_11 (by decide) ?_
        obtain ⟨v4, ev4, nv4, h⟩ := e_rd h
        refine xa_iald hx hb hK hP (1 + j3) ((by rcases k12 hltj3 with rfl | rfl | rfl | rfl | rfl | rfl | rfl | rfl | rfl | rfl | rfl | rfl <;> rfl : (wL_ranked cA ac cC)[(1 + j3)]? = some (ac (1 + j3), .inl (cA 0, 3, .inl (cC j3))))) nv4 ev4 dL_ranked_12 ?_
        refine lv_if_ne (tgt := 19) hx hb dL_ranked_13 (by decide) (fun c5 => ?_) (fun c5 => ?_)
        · have h := e_t c5 h
          refine lv_iconst (v := 0) hx hb dL_ranked_19 (by decide) ?_
          refine lv_istore (lv' := [(4, .int 0), (0, .ref (ac 0)), (1, .int x1), (2, .int x2), (3, .int x3)]) hx hb dL_ranked_20 hl (by decide) rfl (fun ls hl => ?_)
          refine lv_iconst (v := 0) hx hb dL_ranked_22 (by decide) ?_
          refine lv_istore (lv' := [(5, .int 0), (4, .int 0), (0, .ref (ac 0)), (1, .int x1), (2, .int x2), (3, .int x3)]) hx hb dL_ranked_23 hl (by decide) rfl (fun ls hl => ?_)
          have hL25 : ∀ (n : Nat) (x1 : Int32) (x2 : Int32) (x3 : Int32) (x4 : Int32) (x5 : Int32) (cC : Nat → Nat → Int32) (z6 : Int32) (ls : Array Slot) (H : Heap) (locs : List Loc), lv_has ls 6 [(0, .ref (ac 0)), (1, .int x1), (2, .int x2), (3, .int x3), (4, .int x4), (5, .int x5)] → va_P D vwCl (wL_ranked cA ac cC) H → va_D A (wL_ranked cA ac cC) → va_S A s.heap H locs → mL_ranked_L25 cC x2 x3 n x4 x5 = some z6 → (∀ (ls : Array Slot) (H : Heap) (locs : List Loc), lv_has ls 6 [(0, .ref (ac 0)), (1, .int x1), (2, .int x2), (3, .int x3), (4, .int z6)] → va_P D vwCl (wL_ranked cA ac cC) H → va_D A (wL_ranked cA ac cC) → va_S A s.heap H locs → W p l e (headSpec wsL_ranked { frames := 1, cells := 0, slots := 0, locals := 23 }).room s m args below meth c H locs 0 0 Q (F0 m 74 ls [])) → W p l e (headSpec wsL_ranked { frames := 1, cells := 0, slots := 0, locals := 23 }).room s m args below meth c H locs 0 0 Q (F0 m 25 ls []) := by
            intro n
            induction n with
            | zero => intro x1 x2 x3 x4 x5 cC z6 ls H locs hl hP hD hS h hk25; exact e_n h
            | succ n ih25 =>
              intro x1 x2 x3 x4 x5 cC z6 ls H locs hl hP hD hS h hk25
              rw [mL_ranked_L25.eq_2] at h
              refine lv_iload hx hb dL_ranked_25 (lv_at hl 5 rfl) ?_
              refine lv_bipush (v := 12) hx hb dL_ranked_27 (by decide) ?_
              refine lv_icmp_ge (tgt := 74) hx hb dL_ranked_29 (by decide) (fun c7 => ?_) (fun c7 => ?_)
              · have h := e_t c7 h
                obtain rfl := e_s h
                exact hk25 _ _ _ (lv_sub hl [0, 1, 2, 3, 4] rfl) hP hD hS
              · have h := e_f c7 h
                refine lv_iload hx hb dL_ranked_32 (lv_at hl 4 rfl) ?_
                refine lv_iload hx hb dL_ranked_34 (lv_at hl 5 rfl) ?_
                refine lv_iload_n hx hb dL_ranked_36 rfl (lv_at hl 3 rfl) ?_
                refine lv_icmp_eq (tgt := 64) hx hb dL_ranked_37 (by decide) (fun c8 => ?_) (fun c8 => ?_)
                · have h := e_t c8 h
                  refine lv_iconst (v := 0) hx hb dL_ranked_64 (by decide) ?_
                  refine lv_iadd hx hb dL_ranked_65 ?_
                  refine lv_istore (lv' := [(4, .int (x4 + 0)), (0, .ref (ac 0)), (1, .int x1), (2, .int x2), (3, .int x3), (5, .int x5)]) hx hb dL_ranked_66 hl (by decide) rfl (fun ls hl => ?_)
                  refine lv_iinc (v := (x5 + 1)) (lv' := [(5, .int (x5 + 1)), (4, .int (x4 + 0)), (0, .ref (ac 0)), (1, .int x1), (2, .int x2), (3, .int x3)]) hx hb dL_ranked_68 hl (k := 5) rfl rfl (by decide) rfl (fun ls hl => ?_)
                  refine lv_goto (tgt := 25) hx hb dL_ranked_71 (by decide) ?_
                  exact ih25 x1 x2 x3 (x4 + 0) (x5 + 1) cC z6 _ _ _ (lv_sub hl [2, 3, 4, 5, 1, 0] rfl) hP hD hS h hk25
                · have h := e_f c8 h
                  refine lv_aload_n hx hb dL_ranked_40 rfl (lv_at hl 0 rfl) ?_
                  refine lv_iload hx hb dL_ranked_41 (lv_at hl 5 rfl) ?_
                  obtain ⟨j9, ej9, nj9, hltj9, h⟩ := e_rx h
                  refine xa_aaldA hx hb hK hP 0 rfl nj9 ej9 dL_ranked_43 ?_
                  refine lv_iconst (v := 0) hx hb dL_ranked_44 (by decide) ?_
                  obtain ⟨v10, ev10, nv10, h⟩ := e_rd h
                  refine xa_iald hx hb hK hP (1 + j9) ((by rcases k12 hltj9 with rfl | rfl | rfl | rfl | rfl | rfl | rfl | rfl | rfl | rfl | rfl | rfl <;> rfl : (wL_ranked cA ac cC)[(1 + j9)]? = some (ac (1 + j9), .inl (cA 0, 3, .inl (cC j9))))) nv10 ev10 dL_ranked_45 ?_
                  refine lv_if_le (tgt := 64) hx hb dL_ranked_46 (by decide) (fun c11 => ?_) (fun c11 => ?_)
                  · have h := e_t c11 h
                    refine lv_iconst (v := 0) hx hb dL_ranked_64 (by decide) ?_
                    refine lv_iadd hx hb dL_ranked_65 ?_
                    refine lv_istore (lv' := [(4, .int (x4 + 0)), (0, .ref (ac 0)), (1, .int x1), (2, .int x2), (3, .int x3), (5, .int x5)]) hx hb dL_ranked_66 hl (by decide) rfl (fun ls hl => ?_)
                    refine lv_iinc (v := (x5 + 1)) (lv' := [(5, .int (x5 + 1)), (4, .int (x4 + 0)), (0, .ref (ac 0)), (1, .int x1), (2, .int x2), (3, .int x3)]) hx hb dL_ranked_68 hl (k := 5) rfl rfl (by decide) rfl (fun ls hl => ?_)
                    refine lv_goto (tgt := 25) hx hb dL_ranked_71 (by decide) ?_
                    exact ih25 x1 x2 x3 (x4 + 0) (x5 + 1) cC z6 _ _ _ (lv_sub hl [2, 3, 4, 5, 1, 0] rfl) hP hD hS h hk25
                  · have h := e_f c11 h
                    refine lv_aload_n hx hb dL_ranked_49 rfl (lv_at hl 0 rfl) ?_
                    refine lv_iload hx hb dL_ranked_50 (lv_at hl 5 rfl) ?_
                    refine lv_iload_n hx hb dL_ranked_52 rfl (lv_at hl 3 rfl) ?_
                    refine lv_iload_n hx hb dL_ranked_53 rfl (lv_at hl 2 rfl) ?_
                    obtain ⟨q12, eq12, h⟩ := e_b h
                    refine xs_i0 (As := [.ref (ac 0), .int x5, .int x3, .int x2]) (rest := [.int x4]) ⟨hx, hb, hml, hown, hts⟩ hl.1 (kL_isAhead l D cA ac cC x5 x3 x2  _ eq12) (va_cwS 4 hts gL_ranked_L_isAhead rfl rfl rfl (by decide +kernel) ⟨Nat.le_of_ble_eq_true rfl, Nat.le_of_ble_eq_true rfl⟩) rfl hK hP hD hS hA rfl (Nat.le_of_ble_eq_true rfl) dL_ranked_54 ⟨Nat.zero_le _, Nat.zero_le _⟩ (fun H locs hP hD hS hnq12 => ?_)
                    have hP : va_P D vwCl (wL_ranked cA ac cC) H := hP
                    have hD : va_D A (wL_ranked cA ac cC) := hD
                    refine lv_if_eq (tgt := 64) hx hb dL_ranked_57 (by decide) (fun c13 => ?_) (fun c13 => ?_)
                    · have h := e_t c13 h
                      refine lv_iconst (v := 0) hx hb dL_ranked_64 (by decide) ?_
                      refine lv_iadd hx hb dL_ranked_65 ?_
                      refine lv_istore (lv' := [(4, .int (x4 + 0)), (0, .ref (ac 0)), (1, .int x1), (2, .int x2), (3, .int x3), (5, .int x5)]) hx hb dL_ranked_66 hl (by decide) rfl (fun ls hl => ?_)
                      refine lv_iinc (v := (x5 + 1)) (lv' := [(5, .int (x5 + 1)), (4, .int (x4 + 0)), (0, .ref (ac 0)), (1, .int x1), (2, .int x2), (3, .int x3)]) hx hb dL_ranked_68 hl (k := 5) rfl rfl (by decide) rfl (fun ls hl => ?_)
                      refine lv_goto (tgt := 25) hx hb dL_ranked_71 (by decide) ?_
                      exact ih25 x1 x2 x3 (x4 + 0) (x5 + 1) cC z6 _ _ _ (lv_sub hl [2, 3, 4, 5, 1, 0] rfl) hP hD hS h hk25
                    · have h := e_f c13 h
                      refine lv_iconst (v := 1) hx hb dL_ranked_60 (by decide) ?_
                      refine lv_goto (tgt := 65) hx hb dL_ranked_61 (by decide) ?_
                      refine lv_iadd hx hb dL_ranked_65 ?_
                      refine lv_istore (lv' := [(4, .int (x4 + 1)), (0, .ref (ac 0)), (1, .int x1), (2, .int x2), (3, .int x3), (5, .int x5)]) hx hb dL_ranked_66 hl (by decide) rfl (fun ls hl => ?_)
                      refine lv_iinc (v := (x5 + 1)) (lv' := [(5, .int (x5 + 1)), (4, .int (x4 + 1)), (0, .ref (ac 0)), (1, .int x1), (2, .int x2), (3, .int x3)]) hx hb dL_ranked_68 hl (k := 5) rfl rfl (by decide) rfl (fun ls hl => ?_)
                      refine lv_goto (tgt := 25) hx hb dL_ranked_71 (by decide) ?_
                      exact ih25 x1 x2 x3 (x4 + 1) (x5 + 1) cC z6 _ _ _ (lv_sub hl [2, 3, 4, 5, 1, 0] rfl) hP hD hS h hk25
          obtain ⟨z14, ez14, h⟩ := e_b h
          refine hL25 FU x1 x2 x3 0 0 cC z14 _ _ _ (lv_sub hl [2, 3, 4, 5, 1, 0] rfl) hP hD hS ez14 (fun ls H locs hl hP hD hS => ?_)
          refine lv_iload hx hb dL_ranked_74 (lv_at hl 4 rfl) ?_
          refine lv_iload_n hx hb dL_ranked_76 rfl (lv_at hl 1 rfl) ?_
          refine lv_icmp_ne (tgt := 82) hx hb dL_ranked_77 (by decide) (fun c15 => ?_) (fun c15 => ?_)
          · have h := e_t c15 h
            refine lv_iinc (v := (x3 + 1)) (lv' := [(3, .int (x3 + 1)), (0, .ref (ac 0)), (1, .int x1), (2, .int x2), (4, .int z14)]) hx hb dL_ranked_82 hl (k := 3) rfl rfl (by decide) rfl (fun ls hl => ?_)
            refine lv_goto (tgt := 2) hx hb dL_ranked_85 (by decide) ?_
            exact ih2 x1 x2 (x3 + 1) _ _ _ (lv_sub hl [1, 2, 3, 0] rfl) hP hD hS h
          · have h := e_f (not_not_intro c15) h
            refine lv_iload_n hx hb dL_ranked_80 rfl (lv_at hl 3 rfl) ?_
            obtain rfl := e_s h
            exact hret hP hS rfl dL_ranked_81
        · have h := e_f (not_not_intro c5) h
          refine lv_goto (tgt := 82) hx hb dL_ranked_16 (by decide) ?_
          refine lv_iinc (v := (x3 + 1)) (lv' := [(3, .int (x3 + 1)), (0, .ref (ac 0)), (1, .int x1), (2, .int x2)]) hx hb dL_ranked_82 hl (k := 3) rfl rfl (by decide) rfl (fun ls hl => ?_)
          refine lv_goto (tgt := 2) hx hb dL_ranked_85 (by decide) ?_
          exact ih2 x1 x2 (x3 + 1) _ _ _ (lv_sub hl [1, 2, 3, 0] rfl) hP hD hS h
  exact hL2 FU x1 x2 0 _ _ _ (lv_sub hl [1, 2, 3, 0] rfl) hP hD hS h
set_option maxHeartbeats 4000000 in
set_option maxRecDepth 100000 in
theorem kL_isSame (l : Launch) (D : va_G) (cA : Nat → ClassId) (b0 : Nat) (b1 : Nat) (n0 : Nat) (n1 : Nat) (f0 : Nat → Int32) (f1 : Nat → Int32)  (q : Int32) (h : mL_isSame n0 n1 f0 f1  = some q) : MI l yL_isSame wsL_isSame { frames := 0, cells := 0, slots := 0, locals := 0 } D cA .boolean [.ref (b0), .ref (b1)] (wL_isSame cA b0 b1 n0 n1 f0 f1) (wL_isSame cA b0 b1 n0 n1 f0 f1) q := by
  refine MI.of (cc := cL_isSame) (maxL := 3) (by decide +kernel) rfl rfl rfl (Nat.le_of_ble_eq_true rfl) ?_
  intro p e s m args below meth c A ls Q hx hb hml hts hown hK hP hD hA hS hl hret
  have hl : lv_has ls 3 [(0, .ref (b0)), (1, .ref (b1))] := hl
  unfold mL_isSame at h
  refine lv_aload_n hx hb dL_isSame_0 rfl (lv_at hl 0 rfl) ?_
  refine va_alen (v := nI n0) hx hb hK hP 0 0 rfl rfl rfl dL_isSame_1 ?_
  refine lv_aload_n hx hb dL_isSame_2 rfl (lv_at hl 1 rfl) ?_
  refine va_alen (v := nI n1) hx hb hK hP 1 0 rfl rfl rfl dL_isSame_3 ?_
  refine lv_icmp_eq (tgt := 9) hx hb dL_isSame_4 (by decide) (fun c1 => ?_) (fun c1 => ?_)
  · have h := e_t c1 h
    refine lv_iconst (v := 0) hx hb dL_isSame_9 (by decide) ?_
    refine lv_istore_n (lv' := [(2, .int 0), (0, .ref (b0)), (1, .ref (b1))]) hx hb dL_isSame_10 rfl hl (by decide) rfl (fun ls hl => ?_)
    have hL11 : ∀ (n : Nat) (x2 : Int32) (ls : Array Slot) (H : Heap) (locs : List Loc), lv_has ls 3 [(0, .ref (b0)), (1, .ref (b1)), (2, .int x2)] → va_P D vwCl (wL_isSame cA b0 b1 n0 n1 f0 f1) H → va_D A (wL_isSame cA b0 b1 n0 n1 f0 f1) → va_S A s.heap H locs → mL_isSame_L11 n0 n1 f0 f1 n x2 = some q → W p l e (headSpec wsL_isSame { frames := 0, cells := 0, slots := 0, locals := 0 }).room s m args below meth c H locs 0 0 Q (F0 m 11 ls []) := by
      intro n
      induction n with
      | zero => intro x2 ls H locs hl hP hD hS h; exact e_n h
      | succ n ih11 =>
        intro x2 ls H locs hl hP hD hS h
        rw [mL_isSame_L11.eq_2] at h
        refine lv_iload_n hx hb dL_isSame_11 rfl (lv_at hl 2 rfl) ?_
        refine lv_aload_n hx hb dL_isSame_12 rfl (lv_at hl 0 rfl) ?_
        refine va_alen (v := nI n0) hx hb hK hP 0 0 rfl rfl rfl dL_isSame_13 ?_
        refine lv_icmp_ge (tgt := 34) hx hb dL_isSame_14 (by decide) (fun c3 => ?_) (fun c3 => ?_)
        · have h := e_t c3 h
          refine lv_iconst (v := 1) hx hb dL_isSame_34 (by decide) ?_
          obtain rfl := e_s h
          exact hret hP hS (show narrow .boolean (.int 1) = .int 1 from rfl) dL_isSame_35
        · have h := e_f c3 h
          refine lv_aload_n hx hb dL_isSame_17 rfl (lv_at hl 0 rfl) ?_
          refine lv_iload_n hx hb dL_isSame_18 rfl (lv_at hl 2 rfl) ?_
          obtain ⟨v4, ev4, nv4, h⟩ := e_rd h
          refine xa_iald hx hb hK hP 0 rfl nv4 ev4 dL_isSame_19 ?_
          refine lv_aload_n hx hb dL_isSame_20 rfl (lv_at hl 1 rfl) ?_
          refine lv_iload_n hx hb dL_isSame_21 rfl (lv_at hl 2 rfl) ?_
          obtain ⟨v5, ev5, nv5, h⟩ := e_rd h
          refine xa_iald hx hb hK hP 1 rfl nv5 ev5 dL_isSame_22 ?_
          refine lv_icmp_eq (tgt := 28) hx hb dL_isSame_23 (by decide) (fun c6 => ?_) (fun c6 => ?_)
          · have h := e_t c6 h
            refine lv_iinc (v := (x2 + 1)) (lv' := [(2, .int (x2 + 1)), (0, .ref (b0)), (1, .ref (b1))]) hx hb dL_isSame_28 hl (k := 2) rfl rfl (by decide) rfl (fun ls hl => ?_)
            refine lv_goto (tgt := 11) hx hb dL_isSame_31 (by decide) ?_
            exact ih11 (x2 + 1) _ _ _ (lv_sub hl [1, 2, 0] rfl) hP hD hS h
          · have h := e_f c6 h
            refine lv_iconst (v := 0) hx hb dL_isSame_26 (by decide) ?_
            obtain rfl := e_s h
            exact hret hP hS (show narrow .boolean (.int 0) = .int 0 from rfl) dL_isSame_27
    exact hL11 FU 0 _ _ _ (lv_sub hl [1, 2, 0] rfl) hP hD hS h
  · have h := e_f c1 h
    refine lv_iconst (v := 0) hx hb dL_isSame_7 (by decide) ?_
    obtain rfl := e_s h
    exact hret hP hS (show narrow .boolean (.int 0) = .int 0 from rfl) dL_isSame_8
set_option maxHeartbeats 4000000 in
set_option maxRecDepth 100000 in
theorem kL_fresh (l : Launch) (D : va_G) (cA : Nat → ClassId) (b0 : Nat) (b1 : Nat) (n0 : Nat) (n1 : Nat) (f0 : Nat → Int32) (f1 : Nat → Int32) (x2 : Int32) (q : Int32) (h : mL_fresh n0 n1 f0 f1 x2 = some q) : MI l yL_fresh wsL_fresh { frames := 0, cells := 0, slots := 0, locals := 0 } D cA .int [.ref (b0), .ref (b1), .int x2] (wL_fresh cA b0 b1 n0 n1 f0 f1) (wL_fresh cA b0 b1 n0 n1 f0 f1) q := by
  refine MI.of (cc := cL_fresh) (maxL := 9) (by decide +kernel) rfl rfl rfl (Nat.le_of_ble_eq_true rfl) ?_
  intro p e s m args below meth c A ls Q hx hb hml hts hown hK hP hD hA hS hl hret
  have hl : lv_has ls 9 [(0, .ref (b0)), (1, .ref (b1)), (2, .int x2)] := hl
  unfold mL_fresh at h
  refine lv_aload_n hx hb dL_fresh_0 rfl (lv_at hl 1 rfl) ?_
  refine va_alen (v := nI n1) hx hb hK hP 1 0 rfl rfl rfl dL_fresh_1 ?_
  refine lv_iload_n hx hb dL_fresh_2 rfl (lv_at hl 2 rfl) ?_
  refine lv_iadd hx hb dL_fresh_3 ?_
  refine lv_iconst (v := 1) hx hb dL_fresh_4 (by decide) ?_
  refine lv_isub hx hb dL_fresh_5 ?_
  refine lv_iload_n hx hb dL_fresh_6 rfl (lv_at hl 2 rfl) ?_
  obtain ⟨v1, ev1, nv1, h⟩ := e_dv h
  refine xa_idiv hx hb dL_fresh_7 nv1 ev1 ?_
  refine lv_istore_n (lv' := [(3, .int v1), (0, .ref (b0)), (1, .ref (b1)), (2, .int x2)]) hx hb dL_fresh_8 rfl hl (by decide) rfl (fun ls hl => ?_)
  refine lv_iconst (v := 0) hx hb dL_fresh_9 (by decide) ?_
  refine lv_istore (lv' := [(4, .int 0), (3, .int v1), (0, .ref (b0)), (1, .ref (b1)), (2, .int x2)]) hx hb dL_fresh_10 hl (by decide) rfl (fun ls hl => ?_)
  refine lv_iconst (v := 0) hx hb dL_fresh_12 (by decide) ?_
  refine lv_istore (lv' := [(5, .int 0), (4, .int 0), (3, .int v1), (0, .ref (b0)), (1, .ref (b1)), (2, .int x2)]) hx hb dL_fresh_13 hl (by decide) rfl (fun ls hl => ?_)
  have hL15 : ∀ (n : Nat) (x2 : Int32) (x3 : Int32) (x4 : Int32) (x5 : Int32) (f0 : Nat → Int32) (f1 : Nat → Int32) (z2 : Int32) (ls : Array Slot) (H : Heap) (locs : List Loc), lv_has ls 9 [(0, .ref (b0)), (1, .ref (b1)), (2, .int x2), (3, .int x3), (4, .int x4), (5, .int x5)] → va_P D vwCl (wL_fresh cA b0 b1 n0 n1 f0 f1) H → va_D A (wL_fresh cA b0 b1 n0 n1 f0 f1) → va_S A s.heap H locs → mL_fresh_L15 n0 n1 f0 f1 x2 x3 n x4 x5 = some z2 → (∀ (ls : Array Slot) (H : Heap) (locs : List Loc), lv_has ls 9 [(4, .int z2)] → va_P D vwCl (wL_fresh cA b0 b1 n0 n1 f0 f1) H → va_D A (wL_fresh cA b0 b1 n0 n1 f0 f1) → va_S A s.heap H locs → W p l e (headSpec wsL_fresh { frames := 0, cells := 0, slots := 0, locals := 0 }).room s m args below meth c H locs 0 0 Q (F0 m 133 ls [])) → W p l e (headSpec wsL_fresh { frames := 0, cells := 0, slots := 0, locals := 0 }).room s m args below meth c H locs 0 0 Q (F0 m 15 ls []) := by
    intro n
    induction n with
    | zero => intro x2 x3 x4 x5 f0 f1 z2 ls H locs hl hP hD hS h hk15; exact e_n h
    | succ n ih15 =>
      intro x2 x3 x4 x5 f0 f1 z2 ls H locs hl hP hD hS h hk15
      rw [mL_fresh_L15.eq_2] at h
      refine lv_iload hx hb dL_fresh_15 (lv_at hl 5 rfl) ?_
      refine lv_iload_n hx hb dL_fresh_17 rfl (lv_at hl 3 rfl) ?_
      refine lv_icmp_ge (tgt := 133) hx hb dL_fresh_18 (by decide) (fun c3 => ?_) (fun c3 => ?_)
      · have h := e_t c3 h
        obtain rfl := e_s h
        exact hk15 _ _ _ (lv_sub hl [4] rfl) hP hD hS
      · have h := e_f c3 h
        refine lv_iload hx hb dL_fresh_21 (lv_at hl 5 rfl) ?_
        refine lv_istore (lv' := [(6, .int x5), (0, .ref (b0)), (1, .ref (b1)), (2, .int x2), (3, .int x3), (4, .int x4), (5, .int x5)]) hx hb dL_fresh_23 hl (by decide) rfl (fun ls hl => ?_)
        have hL25 : ∀ (n : Nat) (x2 : Int32) (x3 : Int32) (x4 : Int32) (x5 : Int32) (x6 : Int32) (f0 : Nat → Int32) (f1 : Nat → Int32) (z4 : Int32) (ls : Array Slot) (H : Heap) (locs : List Loc), lv_has ls 9 [(0, .ref (b0)), (1, .ref (b1)), (2, .int x2), (3, .int x3), (4, .int x4), (5, .int x5), (6, .int x6)] → va_P D vwCl (wL_fresh cA b0 b1 n0 n1 f0 f1) H → va_D A (wL_fresh cA b0 b1 n0 n1 f0 f1) → va_S A s.heap H locs → mL_fresh_L25 n0 n1 f0 f1 x2 x3 x5 n x4 x6 = some z4 → (∀ (ls : Array Slot) (H : Heap) (locs : List Loc), lv_has ls 9 [(0, .ref (b0)), (1, .ref (b1)), (2, .int x2), (3, .int x3), (4, .int z4), (5, .int x5)] → va_P D vwCl (wL_fresh cA b0 b1 n0 n1 f0 f1) H → va_D A (wL_fresh cA b0 b1 n0 n1 f0 f1) → va_S A s.heap H locs → W p l e (headSpec wsL_fresh { frames := 0, cells := 0, slots := 0, locals := 0 }).room s m args below meth c H locs 0 0 Q (F0 m 127 ls [])) → W p l e (headSpec wsL_fresh { frames := 0, cells := 0, slots := 0, locals := 0 }).room s m args below meth c H locs 0 0 Q (F0 m 25 ls []) := by
          intro n
          induction n with
          | zero => intro x2 x3 x4 x5 x6 f0 f1 z4 ls H locs hl hP hD hS h hk25; exact e_n h
          | succ n ih25 =>
            intro x2 x3 x4 x5 x6 f0 f1 z4 ls H locs hl hP hD hS h hk25
            rw [mL_fresh_L25.eq_2] at h
            refine lv_iload hx hb dL_fresh_25 (lv_at hl 6 rfl) ?_
            refine lv_iload_n hx hb dL_fresh_27 rfl (lv_at hl 3 rfl) ?_
            refine lv_icmp_ge (tgt := 127) hx hb dL_fresh_28 (by decide) (fun c5 => ?_) (fun c5 => ?_)
            · have h := e_t c5 h
              obtain rfl := e_s h
              exact hk25 _ _ _ (lv_sub hl [0, 1, 2, 3, 4, 5] rfl) hP hD hS
            · have h := e_f c5 h
              refine lv_iconst (v := 0) hx hb dL_fresh_31 (by decide) ?_
              refine lv_istore (lv' := [(7, .int 0), (0, .ref (b0)), (1, .ref (b1)), (2, .int x2), (3, .int x3), (4, .int x4), (5, .int x5), (6, .int x6)]) hx hb dL_fresh_32 hl (by decide) rfl (fun ls hl => ?_)
              refine lv_iload hx hb dL_fresh_34 (lv_at hl 6 rfl) ?_
              refine lv_iload_n hx hb dL_fresh_36 rfl (lv_at hl 3 rfl) ?_
              refine lv_imul hx hb dL_fresh_37 ?_
              refine lv_istore (lv' := [(8, .int (x5 * x2)), (7, .int 0), (0, .ref (b0)), (1, .ref (b1)), (2, .int x2), (3, .int x3), (4, .int x4), (5, .int x5), (6, .int x6)]) hx hb dL_fresh_38 hl (by decide) rfl (fun ls hl => ?_)
              have hL40 : ∀ (n : Nat) (x2 : Int32) (x3 : Int32) (x4 : Int32) (x5 : Int32) (x6 : Int32) (x7 : Int32) (x8 : Int32) (f0 : Nat → Int32) (f1 : Nat → Int32) (z6 : Int32) (ls : Array Slot) (H : Heap) (locs : List Loc), lv_has ls 9 [(0, .ref (b0)), (1, .ref (b1)), (2, .int x2), (3, .int x3), (4, .int x4), (5, .int x5), (6, .int x6), (7, .int x7), (8, .int x8)] → va_P D vwCl (wL_fresh cA b0 b1 n0 n1 f0 f1) H → va_D A (wL_fresh cA b0 b1 n0 n1 f0 f1) → va_S A s.heap H locs → mL_fresh_L40 n0 n1 f0 f1 x2 x6 n x7 x8 = some z6 → (∀ (ls : Array Slot) (H : Heap) (locs : List Loc), lv_has ls 9 [(0, .ref (b0)), (1, .ref (b1)), (2, .int x2), (3, .int x3), (4, .int x4), (5, .int x5), (6, .int x6), (7, .int z6)] → va_P D vwCl (wL_fresh cA b0 b1 n0 n1 f0 f1) H → va_D A (wL_fresh cA b0 b1 n0 n1 f0 f1) → va_S A s.heap H locs → W p l e (headSpec wsL_fresh { frames := 0, cells := 0, slots := 0, locals := 0 }).room s m args below meth c H locs 0 0 Q (F0 m 106 ls [])) → W p l e (headSpec wsL_fresh { frames := 0, cells := 0, slots := 0, locals := 0 }).room s m args below meth c H locs 0 0 Q (F0 m 40 ls []) := by
                intro n
                induction n with
                | zero => intro x2 x3 x4 x5 x6 x7 x8 f0 f1 z6 ls H locs hl hP hD hS h hk40; exact e_n h
                | succ n ih40 =>
                  intro x2 x3 x4 x5 x6 x7 x8 f0 f1 z6 ls H locs hl hP hD hS h hk40
                  rw [mL_fresh_L40.eq_2] at h
                  refine lv_iload hx hb dL_fresh_40 (lv_at hl 8 rfl) ?_
                  refine lv_iload hx hb dL_fresh_42 (lv_at hl 6 rfl) ?_
                  refine lv_iconst (v := 1) hx hb dL_fresh_44 (by decide) ?_
                  refine lv_iadd hx hb dL_fresh_45 ?_
                  refine lv_iload_n hx hb dL_fresh_46 rfl (lv_at hl 2 rfl) ?_
                  refine lv_imul hx hb dL_fresh_47 ?_
                  refine lv_icmp_ge (tgt := 106) hx hb dL_fresh_48 (by decide) (fun c7 => ?_) (fun c7 => ?_)
                  · have h := e_t c7 h
                    obtain rfl := e_s h
                    exact hk40 _ _ _ (lv_sub hl [0, 1, 2, 3, 4, 5, 6, 7] rfl) hP hD hS
                  · have h := e_f c7 h
                    refine lv_iload hx hb dL_fresh_51 (lv_at hl 7 rfl) ?_
                    refine lv_iload hx hb dL_fresh_53 (lv_at hl 8 rfl) ?_
                    refine lv_aload_n hx hb dL_fresh_55 rfl (lv_at hl 1 rfl) ?_
                    refine va_alen (v := nI n1) hx hb hK hP 1 0 rfl rfl rfl dL_fresh_56 ?_
                    refine lv_icmp_ge (tgt := 78) hx hb dL_fresh_57 (by decide) (fun c8 => ?_) (fun c8 => ?_)
                    · have h := e_t c8 h
                      refine lv_iload hx hb dL_fresh_78 (lv_at hl 8 rfl) ?_
                      refine lv_aload_n hx hb dL_fresh_80 rfl (lv_at hl 1 rfl) ?_
                      refine va_alen (v := nI n1) hx hb hK hP 1 0 rfl rfl rfl dL_fresh_81 ?_
                      refine lv_icmp_lt (tgt := 96) hx hb dL_fresh_82 (by decide) (fun c9 => ?_) (fun c9 => ?_)
                      · have h := e_t c9 h
                        refine lv_iconst (v := 0) hx hb dL_fresh_96 (by decide) ?_
                        refine lv_ior hx hb dL_fresh_97 ?_
                        refine lv_istore (lv' := [(7, .int (x7 ||| 0)), (0, .ref (b0)), (1, .ref (b1)), (2, .int x2), (3, .int x3), (4, .int x4), (5, .int x5), (6, .int x6), (8, .int x8)]) hx hb dL_fresh_98 hl (by decide) rfl (fun ls hl => ?_)
                        refine lv_iinc (v := (x8 + 1)) (lv' := [(8, .int (x8 + 1)), (7, .int (x7 ||| 0)), (0, .ref (b0)), (1, .ref (b1)), (2, .int x2), (3, .int x3), (4, .int x4), (5, .int x5), (6, .int x6)]) hx hb dL_fresh_100 hl (k := 8) rfl rfl (by decide) rfl (fun ls hl => ?_)
                        refine lv_goto (tgt := 40) hx hb dL_fresh_103 (by decide) ?_
                        exact ih40 x2 x3 x4 x5 x6 (x7 ||| 0) (x8 + 1) f0 f1 z6 _ _ _ (lv_sub hl [2, 3, 4, 5, 6, 7, 8, 1, 0] rfl) hP hD hS h hk40
                      · have h := e_f c9 h
                        refine lv_iload hx hb dL_fresh_85 (lv_at hl 8 rfl) ?_
                        refine lv_aload_n hx hb dL_fresh_87 rfl (lv_at hl 0 rfl) ?_
                        refine va_alen (v := nI n0) hx hb hK hP 0 0 rfl rfl rfl dL_fresh_88 ?_
                        refine lv_icmp_ge (tgt := 96) hx hb dL_fresh_89 (by decide) (fun c10 => ?_) (fun c10 => ?_)
                        · have h := e_t c10 h
                          refine lv_iconst (v := 0) hx hb dL_fresh_96 (by decide) ?_
                          refine lv_ior hx hb dL_fresh_97 ?_
                          refine lv_istore (lv' := [(7, .int (x7 ||| 0)), (0, .ref (b0)), (1, .ref (b1)), (2, .int x2), (3, .int x3), (4, .int x4), (5, .int x5), (6, .int x6), (8, .int x8)]) hx hb dL_fresh_98 hl (by decide) rfl (fun ls hl => ?_)
                          refine lv_iinc (v := (x8 + 1)) (lv' := [(8, .int (x8 + 1)), (7, .int (x7 ||| 0)), (0, .ref (b0)), (1, .ref (b1)), (2, .int x2), (3, .int x3), (4, .int x4), (5, .int x5), (6, .int x6)]) hx hb dL_fresh_100 hl (k := 8) rfl rfl (by decide) rfl (fun ls hl => ?_)
                          refine lv_goto (tgt := 40) hx hb dL_fresh_103 (by decide) ?_
                          exact ih40 x2 x3 x4 x5 x6 (x7 ||| 0) (x8 + 1) f0 f1 z6 _ _ _ (lv_sub hl [2, 3, 4, 5, 6, 7, 8, 1, 0] rfl) hP hD hS h hk40
                        · have h := e_f c10 h
                          refine lv_iconst (v := 1) hx hb dL_fresh_92 (by decide) ?_
                          refine lv_goto (tgt := 97) hx hb dL_fresh_93 (by decide) ?_
                          refine lv_ior hx hb dL_fresh_97 ?_
                          refine lv_istore (lv' := [(7, .int (x7 ||| 1)), (0, .ref (b0)), (1, .ref (b1)), (2, .int x2), (3, .int x3), (4, .int x4), (5, .int x5), (6, .int x6), (8, .int x8)]) hx hb dL_fresh_98 hl (by decide) rfl (fun ls hl => ?_)
                          refine lv_iinc (v := (x8 + 1)) (lv' := [(8, .int (x8 + 1)), (7, .int (x7 ||| 1)), (0, .ref (b0)), (1, .ref (b1)), (2, .int x2), (3, .int x3), (4, .int x4), (5, .int x5), (6, .int x6)]) hx hb dL_fresh_100 hl (k := 8) rfl rfl (by decide) rfl (fun ls hl => ?_)
                          refine lv_goto (tgt := 40) hx hb dL_fresh_103 (by decide) ?_
                          exact ih40 x2 x3 x4 x5 x6 (x7 ||| 1) (x8 + 1) f0 f1 z6 _ _ _ (lv_sub hl [2, 3, 4, 5, 6, 7, 8, 1, 0] rfl) hP hD hS h hk40
                    · have h := e_f c8 h
                      refine lv_iload hx hb dL_fresh_60 (lv_at hl 8 rfl) ?_
                      refine lv_aload_n hx hb dL_fresh_62 rfl (lv_at hl 0 rfl) ?_
                      refine va_alen (v := nI n0) hx hb hK hP 0 0 rfl rfl rfl dL_fresh_63 ?_
                      refine lv_icmp_ge (tgt := 92) hx hb dL_fresh_64 (by decide) (fun c11 => ?_) (fun c11 => ?_)
                      · have h := e_t c11 h
                        refine lv_iconst (v := 1) hx hb dL_fresh_92 (by decide) ?_
                        refine lv_goto (tgt := 97) hx hb dL_fresh_93 (by decide) ?_
                        refine lv_ior hx hb dL_fresh_97 ?_
                        refine lv_istore (lv' := [(7, .int (x7 ||| 1)), (0, .ref (b0)), (1, .ref (b1)), (2, .int x2), (3, .int x3), (4, .int x4), (5, .int x5), (6, .int x6), (8, .int x8)]) hx hb dL_fresh_98 hl (by decide) rfl (fun ls hl => ?_)
                        refine lv_iinc (v := (x8 + 1)) (lv' := [(8, .int (x8 + 1)), (7, .int (x7 ||| 1)), (0, .ref (b0)), (1, .ref (b1)), (2, .int x2), (3, .int x3), (4, .int x4), (5, .int x5), (6, .int x6)]) hx hb dL_fresh_100 hl (k := 8) rfl rfl (by decide) rfl (fun ls hl => ?_)
                        refine lv_goto (tgt := 40) hx hb dL_fresh_103 (by decide) ?_
                        exact ih40 x2 x3 x4 x5 x6 (x7 ||| 1) (x8 + 1) f0 f1 z6 _ _ _ (lv_sub hl [2, 3, 4, 5, 6, 7, 8, 1, 0] rfl) hP hD hS h hk40
                      · have h := e_f c11 h
                        refine lv_aload_n hx hb dL_fresh_67 rfl (lv_at hl 0 rfl) ?_
                        refine lv_iload hx hb dL_fresh_68 (lv_at hl 8 rfl) ?_
                        obtain ⟨v12, ev12, nv12, h⟩ := e_rd h
                        refine xa_iald hx hb hK hP 0 rfl nv12 ev12 dL_fresh_70 ?_
                        refine lv_aload_n hx hb dL_fresh_71 rfl (lv_at hl 1 rfl) ?_
                        refine lv_iload hx hb dL_fresh_72 (lv_at hl 8 rfl) ?_
                        obtain ⟨v13, ev13, nv13, h⟩ := e_rd h
                        refine xa_iald hx hb hK hP 1 rfl nv13 ev13 dL_fresh_74 ?_
                        refine lv_icmp_ne (tgt := 92) hx hb dL_fresh_75 (by decide) (fun c14 => ?_) (fun c14 => ?_)
                        · have h := e_t c14 h
                          refine lv_iconst (v := 1) hx hb dL_fresh_92 (by decide) ?_
                          refine lv_goto (tgt := 97) hx hb dL_fresh_93 (by decide) ?_
                          refine lv_ior hx hb dL_fresh_97 ?_
                          refine lv_istore (lv' := [(7, .int (x7 ||| 1)), (0, .ref (b0)), (1, .ref (b1)), (2, .int x2), (3, .int x3), (4, .int x4), (5, .int x5), (6, .int x6), (8, .int x8)]) hx hb dL_fresh_98 hl (by decide) rfl (fun ls hl => ?_)
                          refine lv_iinc (v := (x8 + 1)) (lv' := [(8, .int (x8 + 1)), (7, .int (x7 ||| 1)), (0, .ref (b0)), (1, .ref (b1)), (2, .int x2), (3, .int x3), (4, .int x4), (5, .int x5), (6, .int x6)]) hx hb dL_fresh_100 hl (k := 8) rfl rfl (by decide) rfl (fun ls hl => ?_)
                          refine lv_goto (tgt := 40) hx hb dL_fresh_103 (by decide) ?_
                          exact ih40 x2 x3 x4 x5 x6 (x7 ||| 1) (x8 + 1) f0 f1 z6 _ _ _ (lv_sub hl [2, 3, 4, 5, 6, 7, 8, 1, 0] rfl) hP hD hS h hk40
                        · have h := e_f (not_not_intro c14) h
                          refine lv_iload hx hb dL_fresh_78 (lv_at hl 8 rfl) ?_
                          refine lv_aload_n hx hb dL_fresh_80 rfl (lv_at hl 1 rfl) ?_
                          refine va_alen (v := nI n1) hx hb hK hP 1 0 rfl rfl rfl dL_fresh_81 ?_
                          refine lv_icmp_lt (tgt := 96) hx hb dL_fresh_82 (by decide) (fun c15 => ?_) (fun c15 => ?_)
                          · have h := e_t c15 h
                            refine lv_iconst (v := 0) hx hb dL_fresh_96 (by decide) ?_
                            refine lv_ior hx hb dL_fresh_97 ?_
                            refine lv_istore (lv' := [(7, .int (x7 ||| 0)), (0, .ref (b0)), (1, .ref (b1)), (2, .int x2), (3, .int x3), (4, .int x4), (5, .int x5), (6, .int x6), (8, .int x8)]) hx hb dL_fresh_98 hl (by decide) rfl (fun ls hl => ?_)
                            refine lv_iinc (v := (x8 + 1)) (lv' := [(8, .int (x8 + 1)), (7, .int (x7 ||| 0)), (0, .ref (b0)), (1, .ref (b1)), (2, .int x2), (3, .int x3), (4, .int x4), (5, .int x5), (6, .int x6)]) hx hb dL_fresh_100 hl (k := 8) rfl rfl (by decide) rfl (fun ls hl => ?_)
                            refine lv_goto (tgt := 40) hx hb dL_fresh_103 (by decide) ?_
                            exact ih40 x2 x3 x4 x5 x6 (x7 ||| 0) (x8 + 1) f0 f1 z6 _ _ _ (lv_sub hl [2, 3, 4, 5, 6, 7, 8, 1, 0] rfl) hP hD hS h hk40
                          · have h := e_f c15 h
                            refine lv_iload hx hb dL_fresh_85 (lv_at hl 8 rfl) ?_
                            refine lv_aload_n hx hb dL_fresh_87 rfl (lv_at hl 0 rfl) ?_
                            refine va_alen (v := nI n0) hx hb hK hP 0 0 rfl rfl rfl dL_fresh_88 ?_
                            refine lv_icmp_ge (tgt := 96) hx hb dL_fresh_89 (by decide) (fun c16 => ?_) (fun c16 => ?_)
                            · have h := e_t c16 h
                              refine lv_iconst (v := 0) hx hb dL_fresh_96 (by decide) ?_
                              refine lv_ior hx hb dL_fresh_97 ?_
                              refine lv_istore (lv' := [(7, .int (x7 ||| 0)), (0, .ref (b0)), (1, .ref (b1)), (2, .int x2), (3, .int x3), (4, .int x4), (5, .int x5), (6, .int x6), (8, .int x8)]) hx hb dL_fresh_98 hl (by decide) rfl (fun ls hl => ?_)
                              refine lv_iinc (v := (x8 + 1)) (lv' := [(8, .int (x8 + 1)), (7, .int (x7 ||| 0)), (0, .ref (b0)), (1, .ref (b1)), (2, .int x2), (3, .int x3), (4, .int x4), (5, .int x5), (6, .int x6)]) hx hb dL_fresh_100 hl (k := 8) rfl rfl (by decide) rfl (fun ls hl => ?_)
                              refine lv_goto (tgt := 40) hx hb dL_fresh_103 (by decide) ?_
                              exact ih40 x2 x3 x4 x5 x6 (x7 ||| 0) (x8 + 1) f0 f1 z6 _ _ _ (lv_sub hl [2, 3, 4, 5, 6, 7, 8, 1, 0] rfl) hP hD hS h hk40
                            · have h := e_f c16 h
                              refine lv_iconst (v := 1) hx hb dL_fresh_92 (by decide) ?_
                              refine lv_goto (tgt := 97) hx hb dL_fresh_93 (by decide) ?_
                              refine lv_ior hx hb dL_fresh_97 ?_
                              refine lv_istore (lv' := [(7, .int (x7 ||| 1)), (0, .ref (b0)), (1, .ref (b1)), (2, .int x2), (3, .int x3), (4, .int x4), (5, .int x5), (6, .int x6), (8, .int x8)]) hx hb dL_fresh_98 hl (by decide) rfl (fun ls hl => ?_)
                              refine lv_iinc (v := (x8 + 1)) (lv' := [(8, .int (x8 + 1)), (7, .int (x7 ||| 1)), (0, .ref (b0)), (1, .ref (b1)), (2, .int x2), (3, .int x3), (4, .int x4), (5, .int x5), (6, .int x6)]) hx hb dL_fresh_100 hl (k := 8) rfl rfl (by decide) rfl (fun ls hl => ?_)
                              refine lv_goto (tgt := 40) hx hb dL_fresh_103 (by decide) ?_
                              exact ih40 x2 x3 x4 x5 x6 (x7 ||| 1) (x8 + 1) f0 f1 z6 _ _ _ (lv_sub hl [2, 3, 4, 5, 6, 7, 8, 1, 0] rfl) hP hD hS h hk40
              obtain ⟨z17, ez17, h⟩ := e_b h
              refine hL40 FU x2 x3 x4 x5 x6 0 (x5 * x2) f0 f1 z17 _ _ _ (lv_sub hl [2, 3, 4, 5, 6, 7, 8, 1, 0] rfl) hP hD hS ez17 (fun ls H locs hl hP hD hS => ?_)
              refine lv_iload hx hb dL_fresh_106 (lv_at hl 4 rfl) ?_
              refine lv_iload hx hb dL_fresh_108 (lv_at hl 7 rfl) ?_
              refine lv_if_eq (tgt := 117) hx hb dL_fresh_110 (by decide) (fun c18 => ?_) (fun c18 => ?_)
              · have h := e_t c18 h
                refine lv_iconst (v := 0) hx hb dL_fresh_117 (by decide) ?_
                refine lv_iadd hx hb dL_fresh_118 ?_
                refine lv_istore (lv' := [(4, .int (x4 + 0)), (0, .ref (b0)), (1, .ref (b1)), (2, .int x2), (3, .int x3), (5, .int x5), (6, .int x6), (7, .int z17)]) hx hb dL_fresh_119 hl (by decide) rfl (fun ls hl => ?_)
                refine lv_iinc (v := (x6 + 1)) (lv' := [(6, .int (x6 + 1)), (4, .int (x4 + 0)), (0, .ref (b0)), (1, .ref (b1)), (2, .int x2), (3, .int x3), (5, .int x5), (7, .int z17)]) hx hb dL_fresh_121 hl (k := 6) rfl rfl (by decide) rfl (fun ls hl => ?_)
                refine lv_goto (tgt := 25) hx hb dL_fresh_124 (by decide) ?_
                exact ih25 x2 x3 (x4 + 0) x5 (x6 + 1) f0 f1 z4 _ _ _ (lv_sub hl [2, 3, 4, 5, 1, 6, 0] rfl) hP hD hS h hk25
              · have h := e_f c18 h
                refine lv_iconst (v := 1) hx hb dL_fresh_113 (by decide) ?_
                refine lv_goto (tgt := 118) hx hb dL_fresh_114 (by decide) ?_
                refine lv_iadd hx hb dL_fresh_118 ?_
                refine lv_istore (lv' := [(4, .int (x4 + 1)), (0, .ref (b0)), (1, .ref (b1)), (2, .int x2), (3, .int x3), (5, .int x5), (6, .int x6), (7, .int z17)]) hx hb dL_fresh_119 hl (by decide) rfl (fun ls hl => ?_)
                refine lv_iinc (v := (x6 + 1)) (lv' := [(6, .int (x6 + 1)), (4, .int (x4 + 1)), (0, .ref (b0)), (1, .ref (b1)), (2, .int x2), (3, .int x3), (5, .int x5), (7, .int z17)]) hx hb dL_fresh_121 hl (k := 6) rfl rfl (by decide) rfl (fun ls hl => ?_)
                refine lv_goto (tgt := 25) hx hb dL_fresh_124 (by decide) ?_
                exact ih25 x2 x3 (x4 + 1) x5 (x6 + 1) f0 f1 z4 _ _ _ (lv_sub hl [2, 3, 4, 5, 1, 6, 0] rfl) hP hD hS h hk25
        obtain ⟨z19, ez19, h⟩ := e_b h
        refine hL25 FU x2 x3 x4 x5 x5 f0 f1 z19 _ _ _ (lv_sub hl [1, 2, 3, 4, 5, 6, 0] rfl) hP hD hS ez19 (fun ls H locs hl hP hD hS => ?_)
        refine lv_iinc (v := (x5 + 1)) (lv' := [(5, .int (x5 + 1)), (0, .ref (b0)), (1, .ref (b1)), (2, .int x2), (3, .int x3), (4, .int z19)]) hx hb dL_fresh_127 hl (k := 5) rfl rfl (by decide) rfl (fun ls hl => ?_)
        refine lv_goto (tgt := 15) hx hb dL_fresh_130 (by decide) ?_
        exact ih15 x2 x3 z19 (x5 + 1) f0 f1 z2 _ _ _ (lv_sub hl [1, 2, 3, 4, 5, 0] rfl) hP hD hS h hk15
  obtain ⟨z20, ez20, h⟩ := e_b h
  refine hL15 FU x2 v1 0 0 f0 f1 z20 _ _ _ (lv_sub hl [3, 4, 5, 2, 1, 0] rfl) hP hD hS ez20 (fun ls H locs hl hP hD hS => ?_)
  refine lv_iload hx hb dL_fresh_133 (lv_at hl 0 rfl) ?_
  obtain rfl := e_s h
  exact hret hP hS rfl dL_fresh_135
set_option maxHeartbeats 4000000 in
set_option maxRecDepth 100000 in
theorem kL_does (l : Launch) (D : va_G) (cA : Nat → ClassId) (ad : Nat → Nat) (b1 : Nat) (b2 : Nat) (at_ : Nat → Nat) (n1 : Nat) (n2 : Nat) (nt : Nat) (block : Int32) (ties : Int32) (lines : Int32) (pmn : Int32) (row : RowT) (next : RowT) (past : PasT) (f1 : Nat → Int32) (f2 : Nat → Int32) (tF : Nat → Int32) (tG : Nat → Int32) (x4 : Int32) (x5 : Int32) (x6 : Int32) (x7 : Int32) (q : Int32 × Int32 × RowT × RowT × PasT) (h : mL_does n1 n2 nt block pmn row next past f1 f2 tF tG x4 x5 x6 x7 = some q) : MI l yL_does wsL_does { frames := 6, cells := 0, slots := 0, locals := 143 } D cA .boolean [.ref (ad 0), .ref (b1), .ref (b2), .ref (at_ 0), .int x4, .int x5, .int x6, .int x7] (wL_does cA ad b1 b2 at_ n1 n2 nt block ties lines pmn row next past f1 f2 tF tG) (wL_does cA ad b1 b2 at_ n1 n2 nt block ties lines q.2.1 q.2.2.1 q.2.2.2.1 q.2.2.2.2 f1 f2 tF tG) q.1 := by
  refine MI.of (cc := cL_does) (maxL := 12) (by decide +kernel) rfl rfl rfl (Nat.le_of_ble_eq_true rfl) ?_
  intro p e s m args below meth c A ls Q hx hb hml hts hown hK hP hD hA hS hl hret
  have hl : lv_has ls 12 [(0, .ref (ad 0)), (1, .ref (b1)), (2, .ref (b2)), (3, .ref (at_ 0)), (4, .int x4), (5, .int x5), (6, .int x6), (7, .int x7)] := hl
  unfold mL_does at h
  refine lv_iload hx hb dL_does_0 (lv_at hl 5 rfl) ?_
  refine lv_iload hx hb dL_does_2 (lv_at hl 6 rfl) ?_
  refine va_mmin hx hb (by rw [hml, hl.1]) hown (hts (.methodLink RL 143 Lib.Math.min.name) (by decide +kernel)) (hts (.static Lib.Math.min.name) (by decide +kernel)) (hts (.initialized "java/lang/Math") (by decide +kernel)) (hts (.code Lib.Math.min.name Lib.Math.min.code 2 (some .int)) (by decide +kernel)) (Nat.le_of_ble_eq_true rfl) (Nat.le_of_ble_eq_true rfl) (Nat.zero_le _) (Nat.zero_le _) dL_does_4 ?_
  refine lv_istore (lv' := [(8, .int (if x6 < x5 then x6 else x5)), (0, .ref (ad 0)), (1, .ref (b1)), (2, .ref (b2)), (3, .ref (at_ 0)), (4, .int x4), (5, .int x5), (6, .int x6), (7, .int x7)]) hx hb dL_does_7 hl (by decide) rfl (fun ls hl => ?_)
  refine lv_iload hx hb dL_does_9 (lv_at hl 6 rfl) ?_
  refine lv_iload hx hb dL_does_11 (lv_at hl 7 rfl) ?_
  refine va_mmax hx hb (by rw [hml, hl.1]) hown (hts (.methodLink RL 148 Lib.Math.max.name) (by decide +kernel)) (hts (.static Lib.Math.max.name) (by decide +kernel)) (hts (.initialized "java/lang/Math") (by decide +kernel)) (hts (.code Lib.Math.max.name Lib.Math.max.code 2 (some .int)) (by decide +kernel)) (Nat.le_of_ble_eq_true rfl) (Nat.le_of_ble_eq_true rfl) (Nat.zero_le _) (Nat.zero_le _) dL_does_13 ?_
  refine lv_istore (lv' := [(9, .int (if x5 < x6 then x6 else x5)), (8, .int (if x6 < x5 then x6 else x5)), (0, .ref (ad 0)), (1, .ref (b1)), (2, .ref (b2)), (3, .ref (at_ 0)), (4, .int x4), (5, .int x5), (6, .int x6), (7, .int x7)]) hx hb dL_does_16 hl (by decide) rfl (fun ls hl => ?_)
  refine lv_iconst (v := 0) hx hb dL_does_18 (by decide) ?_
  refine lv_istore (lv' := [(10, .int 0), (9, .int (if x5 < x6 then x6 else x5)), (8, .int (if x6 < x5 then x6 else x5)), (0, .ref (ad 0)), (1, .ref (b1)), (2, .ref (b2)), (3, .ref (at_ 0)), (4, .int x4), (5, .int x5), (6, .int x6), (7, .int x7)]) hx hb dL_does_19 hl (by decide) rfl (fun ls hl => ?_)
  refine lv_iconst (v := 0) hx hb dL_does_21 (by decide) ?_
  refine lv_istore (lv' := [(11, .int 0), (10, .int 0), (9, .int (if x5 < x6 then x6 else x5)), (8, .int (if x6 < x5 then x6 else x5)), (0, .ref (ad 0)), (1, .ref (b1)), (2, .ref (b2)), (3, .ref (at_ 0)), (4, .int x4), (5, .int x5), (6, .int x6), (7, .int x7)]) hx hb dL_does_22 hl (by decide) rfl (fun ls hl => ?_)
  have hL24 : ∀ (n : Nat) (x4 : Int32) (x5 : Int32) (x6 : Int32) (x7 : Int32) (x8 : Int32) (x9 : Int32) (x10 : Int32) (x11 : Int32) (block : Int32) (ties : Int32) (lines : Int32) (pmn : Int32) (row : RowT) (next : RowT) (past : PasT) (f1 : Nat → Int32) (f2 : Nat → Int32) (tF : Nat → Int32) (tG : Nat → Int32) (z1 : Int32) (ls : Array Slot) (H : Heap) (locs : List Loc), lv_has ls 12 [(0, .ref (ad 0)), (1, .ref (b1)), (2, .ref (b2)), (3, .ref (at_ 0)), (4, .int x4), (5, .int x5), (6, .int x6), (7, .int x7), (8, .int x8), (9, .int x9), (10, .int x10), (11, .int x11)] → va_P D vwCl (wL_does cA ad b1 b2 at_ n1 n2 nt block ties lines pmn row next past f1 f2 tF tG) H → va_D A (wL_does cA ad b1 b2 at_ n1 n2 nt block ties lines pmn row next past f1 f2 tF tG) → va_S A s.heap H locs → mL_does_L24 n1 nt f1 tF n x10 x11 = some z1 → (∀ (ls : Array Slot) (H : Heap) (locs : List Loc), lv_has ls 12 [(0, .ref (ad 0)), (1, .ref (b1)), (2, .ref (b2)), (4, .int x4), (5, .int x5), (6, .int x6), (7, .int x7), (8, .int x8), (9, .int x9), (10, .int z1)] → va_P D vwCl (wL_does cA ad b1 b2 at_ n1 n2 nt block ties lines pmn row next past f1 f2 tF tG) H → va_D A (wL_does cA ad b1 b2 at_ n1 n2 nt block ties lines pmn row next past f1 f2 tF tG) → va_S A s.heap H locs → W p l e (headSpec wsL_does { frames := 6, cells := 0, slots := 0, locals := 143 }).room s m args below meth c H locs 0 0 Q (F0 m 69 ls [])) → W p l e (headSpec wsL_does { frames := 6, cells := 0, slots := 0, locals := 143 }).room s m args below meth c H locs 0 0 Q (F0 m 24 ls []) := by
    intro n
    induction n with
    | zero => intro x4 x5 x6 x7 x8 x9 x10 x11 block ties lines pmn row next past f1 f2 tF tG z1 ls H locs hl hP hD hS h hk24; exact e_n h
    | succ n ih24 =>
      intro x4 x5 x6 x7 x8 x9 x10 x11 block ties lines pmn row next past f1 f2 tF tG z1 ls H locs hl hP hD hS h hk24
      rw [mL_does_L24.eq_2] at h
      refine lv_iload hx hb dL_does_24 (lv_at hl 11 rfl) ?_
      refine lv_aload_n hx hb dL_does_26 rfl (lv_at hl 1 rfl) ?_
      refine va_alen (v := nI n1) hx hb hK hP 45 0 rfl rfl rfl dL_does_27 ?_
      refine lv_icmp_ge (tgt := 69) hx hb dL_does_28 (by decide) (fun c2 => ?_) (fun c2 => ?_)
      · have h := e_t c2 h
        obtain rfl := e_s h
        exact hk24 _ _ _ (lv_sub hl [0, 1, 2, 4, 5, 6, 7, 8, 9, 10] rfl) hP hD hS
      · have h := e_f c2 h
        refine lv_iload hx hb dL_does_31 (lv_at hl 11 rfl) ?_
        refine lv_aload_n hx hb dL_does_33 rfl (lv_at hl 3 rfl) ?_
        refine lv_iconst (v := 0) hx hb dL_does_34 (by decide) ?_
        refine xa_aaldA hx hb hK hP 47 rfl (v := 0) (show ¬ _ by decide) (by decide) dL_does_35 ?_
        refine va_alen (v := nI nt) hx hb hK hP 48 0 rfl rfl rfl dL_does_36 ?_
        refine lv_icmp_ge (tgt := 69) hx hb dL_does_37 (by decide) (fun c3 => ?_) (fun c3 => ?_)
        · have h := e_t c3 h
          obtain rfl := e_s h
          exact hk24 _ _ _ (lv_sub hl [0, 1, 2, 4, 5, 6, 7, 8, 9, 10] rfl) hP hD hS
        · have h := e_f c3 h
          refine lv_iload hx hb dL_does_40 (lv_at hl 10 rfl) ?_
          refine lv_aload_n hx hb dL_does_42 rfl (lv_at hl 1 rfl) ?_
          refine lv_iload hx hb dL_does_43 (lv_at hl 11 rfl) ?_
          obtain ⟨v4, ev4, nv4, h⟩ := e_rd h
          refine xa_iald hx hb hK hP 45 rfl nv4 ev4 dL_does_45 ?_
          refine lv_aload_n hx hb dL_does_46 rfl (lv_at hl 3 rfl) ?_
          refine lv_iconst (v := 0) hx hb dL_does_47 (by decide) ?_
          refine xa_aaldA hx hb hK hP 47 rfl (v := 0) (show ¬ _ by decide) (by decide) dL_does_48 ?_
          refine lv_iload hx hb dL_does_49 (lv_at hl 11 rfl) ?_
          obtain ⟨v5, ev5, nv5, h⟩ := e_rd h
          refine xa_iald hx hb hK hP 48 rfl nv5 ev5 dL_does_51 ?_
          refine lv_icmp_ne (tgt := 59) hx hb dL_does_52 (by decide) (fun c6 => ?_) (fun c6 => ?_)
          · have h := e_t c6 h
            refine lv_iconst (v := 1) hx hb dL_does_59 (by decide) ?_
            refine lv_iadd hx hb dL_does_60 ?_
            refine lv_istore (lv' := [(10, .int (x10 + 1)), (0, .ref (ad 0)), (1, .ref (b1)), (2, .ref (b2)), (3, .ref (at_ 0)), (4, .int x4), (5, .int x5), (6, .int x6), (7, .int x7), (8, .int x8), (9, .int x9), (11, .int x11)]) hx hb dL_does_61 hl (by decide) rfl (fun ls hl => ?_)
            refine lv_iinc (v := (x11 + 1)) (lv' := [(11, .int (x11 + 1)), (10, .int (x10 + 1)), (0, .ref (ad 0)), (1, .ref (b1)), (2, .ref (b2)), (3, .ref (at_ 0)), (4, .int x4), (5, .int x5), (6, .int x6), (7, .int x7), (8, .int x8), (9, .int x9)]) hx hb dL_does_63 hl (k := 11) rfl rfl (by decide) rfl (fun ls hl => ?_)
            refine lv_goto (tgt := 24) hx hb dL_does_66 (by decide) ?_
            exact ih24 x4 x5 x6 x7 x8 x9 (x10 + 1) (x11 + 1) block ties lines pmn row next past f1 f2 tF tG z1 _ _ _ (lv_sub hl [2, 3, 4, 5, 6, 7, 8, 9, 10, 11, 1, 0] rfl) hP hD hS h hk24
          · have h := e_f (not_not_intro c6) h
            refine lv_iconst (v := 0) hx hb dL_does_55 (by decide) ?_
            refine lv_goto (tgt := 60) hx hb dL_does_56 (by decide) ?_
            refine lv_iadd hx hb dL_does_60 ?_
            refine lv_istore (lv' := [(10, .int (x10 + 0)), (0, .ref (ad 0)), (1, .ref (b1)), (2, .ref (b2)), (3, .ref (at_ 0)), (4, .int x4), (5, .int x5), (6, .int x6), (7, .int x7), (8, .int x8), (9, .int x9), (11, .int x11)]) hx hb dL_does_61 hl (by decide) rfl (fun ls hl => ?_)
            refine lv_iinc (v := (x11 + 1)) (lv' := [(11, .int (x11 + 1)), (10, .int (x10 + 0)), (0, .ref (ad 0)), (1, .ref (b1)), (2, .ref (b2)), (3, .ref (at_ 0)), (4, .int x4), (5, .int x5), (6, .int x6), (7, .int x7), (8, .int x8), (9, .int x9)]) hx hb dL_does_63 hl (k := 11) rfl rfl (by decide) rfl (fun ls hl => ?_)
            refine lv_goto (tgt := 24) hx hb dL_does_66 (by decide) ?_
            exact ih24 x4 x5 x6 x7 x8 x9 (x10 + 0) (x11 + 1) block ties lines pmn row next past f1 f2 tF tG z1 _ _ _ (lv_sub hl [2, 3, 4, 5, 6, 7, 8, 9, 10, 11, 1, 0] rfl) hP hD hS h hk24
  obtain ⟨z7, ez7, h⟩ := e_b h
  refine hL24 FU x4 x5 x6 x7 (if x6 < x5 then x6 else x5) (if x5 < x6 then x6 else x5) 0 0 block ties lines pmn row next past f1 f2 tF tG z7 _ _ _ (lv_sub hl [4, 5, 6, 7, 8, 9, 10, 11, 3, 2, 1, 0] rfl) hP hD hS ez7 (fun ls H locs hl hP hD hS => ?_)
  refine lv_iload hx hb dL_does_69 (lv_at hl 3 rfl) ?_
  by_cases c11 : x4 = 0
  · have h := e_t c11 h
    refine lv_tableIn (off := 49) (tgt := 120) hx hb dL_does_71 (by rw [c11]; decide) (by rw [c11]; decide) (by rw [c11]; rfl) (by decide) ?_
    refine lv_aload_n hx hb dL_does_120 rfl (lv_at hl 0 rfl) ?_
    refine lv_iload hx hb dL_does_121 (lv_at hl 4 rfl) ?_
    refine lv_iload hx hb dL_does_123 (lv_at hl 6 rfl) ?_
    obtain ⟨q8, eq8, h⟩ := e_b h
    refine xv_i (As := [.int x5, .int x7]) (rest := []) (ci := 5) (b := ad 0) ⟨hx, hb, hml, hown, hts⟩ hl.1 (kX5_set l D cA ad block ties lines pmn row next past x5 x7  _ eq8) (cwV 2 hts gL_does_X5_set rfl rfl rfl (by decide +kernel) ⟨Nat.le_of_ble_eq_true rfl, Nat.le_of_ble_eq_true rfl⟩) rfl hK hP hD hS hA 0 rfl rfl rfl [0, 1, 2, 3, 4, 5, 6, 7, 8, 9, 10, 11, 12, 13, 14, 15, 16, 17, 18, 19, 20, 21, 22, 23, 24, 25, 26, 27, 28, 29, 30, 31, 32, 33, 34, 35, 36, 37, 38, 39, 40, 41, 42, 43, 44] rfl (by decide +kernel) rfl (Nat.le_of_ble_eq_true rfl) dL_does_125 ⟨Nat.zero_le _, Nat.zero_le _⟩ (fun H locs hP hD hS hnq8 => ?_)
    have hP : va_P D vwCl (wL_does cA ad b1 b2 at_ n1 n2 nt block ties lines q8.2.1 q8.2.2.1 q8.2.2.2.1 q8.2.2.2.2 f1 f2 tF tG) H := hP
    have hD : va_D A (wL_does cA ad b1 b2 at_ n1 n2 nt block ties lines q8.2.1 q8.2.2.1 q8.2.2.2.1 q8.2.2.2.2 f1 f2 tF tG) := hD
    refine lv_aload_n hx hb dL_does_128 rfl (lv_at hl 1 rfl) ?_
    refine lv_iload hx hb dL_does_129 (lv_at hl 4 rfl) ?_
    obtain ⟨v9, ev9, nv9, h⟩ := e_rd h
    refine xa_iald hx hb hK hP 45 rfl nv9 ev9 dL_does_131 ?_
    refine lv_icmp_ne (tgt := 139) hx hb dL_does_132 (by decide) (fun c10 => ?_) (fun c10 => ?_)
    · have h := e_t c10 h
      refine lv_iconst (v := 0) hx hb dL_does_139 (by decide) ?_
      obtain rfl := e_s h
      exact hret hP hS (show narrow .boolean (.int 0) = .int 0 from rfl) dL_does_140
    · have h := e_f (not_not_intro c10) h
      refine lv_iconst (v := 1) hx hb dL_does_135 (by decide) ?_
      refine lv_goto (tgt := 140) hx hb dL_does_136 (by decide) ?_
      obtain rfl := e_s h
      exact hret hP hS (show narrow .boolean (.int 1) = .int 1 from rfl) dL_does_140
  have h := e_f c11 h
  by_cases c16 : x4 = 1
  · have h := e_t c16 h
    refine lv_tableIn (off := 70) (tgt := 141) hx hb dL_does_71 (by rw [c16]; decide) (by rw [c16]; decide) (by rw [c16]; rfl) (by decide) ?_
    refine lv_aload_n hx hb dL_does_141 rfl (lv_at hl 0 rfl) ?_
    refine lv_iload hx hb dL_does_142 (lv_at hl 4 rfl) ?_
    refine lv_iconst (v := 1) hx hb dL_does_144 (by decide) ?_
    refine lv_iload hx hb dL_does_145 (lv_at hl 6 rfl) ?_
    refine lv_bipush (v := 9) hx hb dL_does_147 (by decide) ?_
    obtain ⟨v12, ev12, nv12, h⟩ := e_rm h
    refine xa_irem hx hb dL_does_149 nv12 ev12 ?_
    refine lv_iadd hx hb dL_does_150 ?_
    obtain ⟨q13, eq13, h⟩ := e_b h
    refine xv_i (As := [.int x5, .int (1 + v12)]) (rest := []) (ci := 5) (b := ad 0) ⟨hx, hb, hml, hown, hts⟩ hl.1 (kX5_weigh l D cA ad block ties lines pmn row next past x5 (1 + v12)  _ eq13) (cwV 2 hts gL_does_X5_weigh rfl rfl rfl (by decide +kernel) ⟨Nat.le_of_ble_eq_true rfl, Nat.le_of_ble_eq_true rfl⟩) rfl hK hP hD hS hA 0 rfl rfl rfl [0, 1, 2, 3, 4, 5, 6, 7, 8, 9, 10, 11, 12, 13, 14, 15, 16, 17, 18, 19, 20, 21, 22, 23, 24, 25, 26, 27, 28, 29, 30, 31, 32, 33, 34, 35, 36, 37, 38, 39, 40, 41, 42, 43, 44] rfl (by decide +kernel) rfl (Nat.le_of_ble_eq_true rfl) dL_does_151 ⟨Nat.zero_le _, Nat.zero_le _⟩ (fun H locs hP hD hS hnq13 => ?_)
    have hP : va_P D vwCl (wL_does cA ad b1 b2 at_ n1 n2 nt block ties lines q13.2.1 q13.2.2.1 q13.2.2.2.1 q13.2.2.2.2 f1 f2 tF tG) H := hP
    have hD : va_D A (wL_does cA ad b1 b2 at_ n1 n2 nt block ties lines q13.2.1 q13.2.2.1 q13.2.2.2.1 q13.2.2.2.2 f1 f2 tF tG) := hD
    refine lv_aload_n hx hb dL_does_154 rfl (lv_at hl 2 rfl) ?_
    refine lv_iload hx hb dL_does_155 (lv_at hl 4 rfl) ?_
    obtain ⟨v14, ev14, nv14, h⟩ := e_rd h
    refine xa_iald hx hb hK hP 46 rfl nv14 ev14 dL_does_157 ?_
    refine lv_icmp_ne (tgt := 165) hx hb dL_does_158 (by decide) (fun c15 => ?_) (fun c15 => ?_)
    · have h := e_t c15 h
      refine lv_iconst (v := 0) hx hb dL_does_165 (by decide) ?_
      obtain rfl := e_s h
      exact hret hP hS (show narrow .boolean (.int 0) = .int 0 from rfl) dL_does_166
    · have h := e_f (not_not_intro c15) h
      refine lv_iconst (v := 1) hx hb dL_does_161 (by decide) ?_
      refine lv_goto (tgt := 166) hx hb dL_does_162 (by decide) ?_
      obtain rfl := e_s h
      exact hret hP hS (show narrow .boolean (.int 1) = .int 1 from rfl) dL_does_166
  have h := e_f c16 h
  by_cases c19 : x4 = 2
  · have h := e_t c19 h
    refine lv_tableIn (off := 96) (tgt := 167) hx hb dL_does_71 (by rw [c19]; decide) (by rw [c19]; decide) (by rw [c19]; rfl) (by decide) ?_
    refine lv_aload_n hx hb dL_does_167 rfl (lv_at hl 0 rfl) ?_
    refine lv_iload hx hb dL_does_168 (lv_at hl 4 rfl) ?_
    refine lv_iload hx hb dL_does_170 (lv_at hl 6 rfl) ?_
    obtain ⟨q17, eq17, h⟩ := e_b h
    refine xv_i (As := [.int x5, .int x7]) (rest := []) (ci := 5) (b := ad 0) ⟨hx, hb, hml, hown, hts⟩ hl.1 (kX5_insert l D cA ad block ties lines pmn row next past x5 x7  _ eq17) (cwV 2 hts gL_does_X5_insert rfl rfl rfl (by decide +kernel) ⟨Nat.le_of_ble_eq_true rfl, Nat.le_of_ble_eq_true rfl⟩) rfl hK hP hD hS hA 0 rfl rfl rfl [0, 1, 2, 3, 4, 5, 6, 7, 8, 9, 10, 11, 12, 13, 14, 15, 16, 17, 18, 19, 20, 21, 22, 23, 24, 25, 26, 27, 28, 29, 30, 31, 32, 33, 34, 35, 36, 37, 38, 39, 40, 41, 42, 43, 44] rfl (by decide +kernel) rfl (Nat.le_of_ble_eq_true rfl) dL_does_172 ⟨Nat.zero_le _, Nat.zero_le _⟩ (fun H locs hP hD hS hnq17 => ?_)
    have hP : va_P D vwCl (wL_does cA ad b1 b2 at_ n1 n2 nt block ties lines q17.2.1 q17.2.2.1 q17.2.2.2.1 q17.2.2.2.2 f1 f2 tF tG) H := hP
    have hD : va_D A (wL_does cA ad b1 b2 at_ n1 n2 nt block ties lines q17.2.1 q17.2.2.1 q17.2.2.2.1 q17.2.2.2.2 f1 f2 tF tG) := hD
    refine lv_aload_n hx hb dL_does_175 rfl (lv_at hl 1 rfl) ?_
    refine va_alen (v := nI n1) hx hb hK hP 45 0 rfl rfl rfl dL_does_176 ?_
    refine lv_iconst (v := 1) hx hb dL_does_177 (by decide) ?_
    refine lv_iadd hx hb dL_does_178 ?_
    refine lv_icmp_ne (tgt := 186) hx hb dL_does_179 (by decide) (fun c18 => ?_) (fun c18 => ?_)
    · have h := e_t c18 h
      refine lv_iconst (v := 0) hx hb dL_does_186 (by decide) ?_
      obtain rfl := e_s h
      exact hret hP hS (show narrow .boolean (.int 0) = .int 0 from rfl) dL_does_187
    · have h := e_f (not_not_intro c18) h
      refine lv_iconst (v := 1) hx hb dL_does_182 (by decide) ?_
      refine lv_goto (tgt := 187) hx hb dL_does_183 (by decide) ?_
      obtain rfl := e_s h
      exact hret hP hS (show narrow .boolean (.int 1) = .int 1 from rfl) dL_does_187
  have h := e_f c19 h
  by_cases c23 : x4 = 3
  · have h := e_t c23 h
    refine lv_tableIn (off := 117) (tgt := 188) hx hb dL_does_71 (by rw [c23]; decide) (by rw [c23]; decide) (by rw [c23]; rfl) (by decide) ?_
    refine lv_aload_n hx hb dL_does_188 rfl (lv_at hl 0 rfl) ?_
    refine lv_iload hx hb dL_does_189 (lv_at hl 4 rfl) ?_
    obtain ⟨q20, eq20, h⟩ := e_b h
    refine xv_i (As := [.int x5]) (rest := []) (ci := 5) (b := ad 0) ⟨hx, hb, hml, hown, hts⟩ hl.1 (kX5_remove l D cA ad block ties lines pmn row next past x5  _ eq20) (cwV 1 hts gL_does_X5_remove rfl rfl rfl (by decide +kernel) ⟨Nat.le_of_ble_eq_true rfl, Nat.le_of_ble_eq_true rfl⟩) rfl hK hP hD hS hA 0 rfl rfl rfl [0, 1, 2, 3, 4, 5, 6, 7, 8, 9, 10, 11, 12, 13, 14, 15, 16, 17, 18, 19, 20, 21, 22, 23, 24, 25, 26, 27, 28, 29, 30, 31, 32, 33, 34, 35, 36, 37, 38, 39, 40, 41, 42, 43, 44] rfl (by decide +kernel) rfl (Nat.le_of_ble_eq_true rfl) dL_does_191 ⟨Nat.zero_le _, Nat.zero_le _⟩ (fun H locs hP hD hS hnq20 => ?_)
    have hP : va_P D vwCl (wL_does cA ad b1 b2 at_ n1 n2 nt block ties lines q20.2.1 q20.2.2.1 q20.2.2.2.1 q20.2.2.2.2 f1 f2 tF tG) H := hP
    have hD : va_D A (wL_does cA ad b1 b2 at_ n1 n2 nt block ties lines q20.2.1 q20.2.2.1 q20.2.2.2.1 q20.2.2.2.2 f1 f2 tF tG) := hD
    refine lv_aload_n hx hb dL_does_194 rfl (lv_at hl 1 rfl) ?_
    refine lv_iload hx hb dL_does_195 (lv_at hl 4 rfl) ?_
    obtain ⟨v21, ev21, nv21, h⟩ := e_rd h
    refine xa_iald hx hb hK hP 45 rfl nv21 ev21 dL_does_197 ?_
    refine lv_icmp_ne (tgt := 205) hx hb dL_does_198 (by decide) (fun c22 => ?_) (fun c22 => ?_)
    · have h := e_t c22 h
      refine lv_iconst (v := 0) hx hb dL_does_205 (by decide) ?_
      obtain rfl := e_s h
      exact hret hP hS (show narrow .boolean (.int 0) = .int 0 from rfl) dL_does_206
    · have h := e_f (not_not_intro c22) h
      refine lv_iconst (v := 1) hx hb dL_does_201 (by decide) ?_
      refine lv_goto (tgt := 206) hx hb dL_does_202 (by decide) ?_
      obtain rfl := e_s h
      exact hret hP hS (show narrow .boolean (.int 1) = .int 1 from rfl) dL_does_206
  have h := e_f c23 h
  by_cases c26 : x4 = 4
  · have h := e_t c26 h
    refine lv_tableIn (off := 136) (tgt := 207) hx hb dL_does_71 (by rw [c26]; decide) (by rw [c26]; decide) (by rw [c26]; rfl) (by decide) ?_
    refine lv_aload_n hx hb dL_does_207 rfl (lv_at hl 0 rfl) ?_
    refine lv_iload hx hb dL_does_208 (lv_at hl 7 rfl) ?_
    refine lv_iload hx hb dL_does_210 (lv_at hl 8 rfl) ?_
    refine lv_iload hx hb dL_does_212 (lv_at hl 6 rfl) ?_
    obtain ⟨q24, eq24, h⟩ := e_b h
    refine xv_i (As := [.int (if x6 < x5 then x6 else x5), .int (if x5 < x6 then x6 else x5), .int x7]) (rest := []) (ci := 5) (b := ad 0) ⟨hx, hb, hml, hown, hts⟩ hl.1 (kX5_fill l D cA ad block ties lines pmn row next past (if x6 < x5 then x6 else x5) (if x5 < x6 then x6 else x5) x7  _ eq24) (cwV 3 hts gL_does_X5_fill rfl rfl rfl (by decide +kernel) ⟨Nat.le_of_ble_eq_true rfl, Nat.le_of_ble_eq_true rfl⟩) rfl hK hP hD hS hA 0 rfl rfl rfl [0, 1, 2, 3, 4, 5, 6, 7, 8, 9, 10, 11, 12, 13, 14, 15, 16, 17, 18, 19, 20, 21, 22, 23, 24, 25, 26, 27, 28, 29, 30, 31, 32, 33, 34, 35, 36, 37, 38, 39, 40, 41, 42, 43, 44] rfl (by decide +kernel) rfl (Nat.le_of_ble_eq_true rfl) dL_does_214 ⟨Nat.zero_le _, Nat.zero_le _⟩ (fun H locs hP hD hS hnq24 => ?_)
    have hP : va_P D vwCl (wL_does cA ad b1 b2 at_ n1 n2 nt block ties lines q24.2.1 q24.2.2.1 q24.2.2.2.1 q24.2.2.2.2 f1 f2 tF tG) H := hP
    have hD : va_D A (wL_does cA ad b1 b2 at_ n1 n2 nt block ties lines q24.2.1 q24.2.2.1 q24.2.2.2.1 q24.2.2.2.2 f1 f2 tF tG) := hD
    refine lv_iload hx hb dL_does_217 (lv_at hl 9 rfl) ?_
    refine lv_icmp_ne (tgt := 226) hx hb dL_does_219 (by decide) (fun c25 => ?_) (fun c25 => ?_)
    · have h := e_t c25 h
      refine lv_iconst (v := 0) hx hb dL_does_226 (by decide) ?_
      obtain rfl := e_s h
      exact hret hP hS (show narrow .boolean (.int 0) = .int 0 from rfl) dL_does_227
    · have h := e_f (not_not_intro c25) h
      refine lv_iconst (v := 1) hx hb dL_does_222 (by decide) ?_
      refine lv_goto (tgt := 227) hx hb dL_does_223 (by decide) ?_
      obtain rfl := e_s h
      exact hret hP hS (show narrow .boolean (.int 1) = .int 1 from rfl) dL_does_227
  have h := e_f c26 h
  by_cases c31 : x4 = 5
  · have h := e_t c31 h
    refine lv_tableIn (off := 157) (tgt := 228) hx hb dL_does_71 (by rw [c31]; decide) (by rw [c31]; decide) (by rw [c31]; rfl) (by decide) ?_
    refine lv_aload_n hx hb dL_does_228 rfl (lv_at hl 0 rfl) ?_
    refine lv_iload hx hb dL_does_229 (lv_at hl 4 rfl) ?_
    refine lv_iload hx hb dL_does_231 (lv_at hl 5 rfl) ?_
    obtain ⟨q27, eq27, h⟩ := e_b h
    refine xv_i (As := [.int x5, .int x6]) (rest := []) (ci := 5) (b := ad 0) ⟨hx, hb, hml, hown, hts⟩ hl.1 (kX5_swap l D cA ad block ties lines pmn row next past x5 x6  _ eq27) (cwV 2 hts gL_does_X5_swap rfl rfl rfl (by decide +kernel) ⟨Nat.le_of_ble_eq_true rfl, Nat.le_of_ble_eq_true rfl⟩) rfl hK hP hD hS hA 0 rfl rfl rfl [0, 1, 2, 3, 4, 5, 6, 7, 8, 9, 10, 11, 12, 13, 14, 15, 16, 17, 18, 19, 20, 21, 22, 23, 24, 25, 26, 27, 28, 29, 30, 31, 32, 33, 34, 35, 36, 37, 38, 39, 40, 41, 42, 43, 44] rfl (by decide +kernel) rfl (Nat.le_of_ble_eq_true rfl) dL_does_233 ⟨Nat.zero_le _, Nat.zero_le _⟩ (fun H locs hP hD hS hnq27 => ?_)
    have hP : va_P D vwCl (wL_does cA ad b1 b2 at_ n1 n2 nt block ties lines q27.2.1 q27.2.2.1 q27.2.2.2.1 q27.2.2.2.2 f1 f2 tF tG) H := hP
    have hD : va_D A (wL_does cA ad b1 b2 at_ n1 n2 nt block ties lines q27.2.1 q27.2.2.1 q27.2.2.2.1 q27.2.2.2.2 f1 f2 tF tG) := hD
    refine lv_iload hx hb dL_does_236 (lv_at hl 4 rfl) ?_
    refine lv_iload hx hb dL_does_238 (lv_at hl 5 rfl) ?_
    refine lv_icmp_eq (tgt := 247) hx hb dL_does_240 (by decide) (fun c28 => ?_) (fun c28 => ?_)
    · have h := e_t c28 h
      refine lv_iconst (v := 0) hx hb dL_does_247 (by decide) ?_
      refine lv_icmp_ne (tgt := 255) hx hb dL_does_248 (by decide) (fun c29 => ?_) (fun c29 => ?_)
      · have h := e_t c29 h
        refine lv_iconst (v := 0) hx hb dL_does_255 (by decide) ?_
        obtain rfl := e_s h
        exact hret hP hS (show narrow .boolean (.int 0) = .int 0 from rfl) dL_does_256
      · have h := e_f (not_not_intro c29) h
        refine lv_iconst (v := 1) hx hb dL_does_251 (by decide) ?_
        refine lv_goto (tgt := 256) hx hb dL_does_252 (by decide) ?_
        obtain rfl := e_s h
        exact hret hP hS (show narrow .boolean (.int 1) = .int 1 from rfl) dL_does_256
    · have h := e_f c28 h
      refine lv_iconst (v := 1) hx hb dL_does_243 (by decide) ?_
      refine lv_goto (tgt := 248) hx hb dL_does_244 (by decide) ?_
      refine lv_icmp_ne (tgt := 255) hx hb dL_does_248 (by decide) (fun c30 => ?_) (fun c30 => ?_)
      · have h := e_t c30 h
        refine lv_iconst (v := 0) hx hb dL_does_255 (by decide) ?_
        obtain rfl := e_s h
        exact hret hP hS (show narrow .boolean (.int 0) = .int 0 from rfl) dL_does_256
      · have h := e_f (not_not_intro c30) h
        refine lv_iconst (v := 1) hx hb dL_does_251 (by decide) ?_
        refine lv_goto (tgt := 256) hx hb dL_does_252 (by decide) ?_
        obtain rfl := e_s h
        exact hret hP hS (show narrow .boolean (.int 1) = .int 1 from rfl) dL_does_256
  have h := e_f c31 h
  by_cases c34 : x4 = 6
  · have h := e_t c34 h
    refine lv_tableIn (off := 186) (tgt := 257) hx hb dL_does_71 (by rw [c34]; decide) (by rw [c34]; decide) (by rw [c34]; rfl) (by decide) ?_
    refine lv_aload_n hx hb dL_does_257 rfl (lv_at hl 0 rfl) ?_
    refine lv_iload hx hb dL_does_258 (lv_at hl 7 rfl) ?_
    refine lv_iload hx hb dL_does_260 (lv_at hl 8 rfl) ?_
    obtain ⟨q32, eq32, h⟩ := e_b h
    refine xv_i (As := [.int (if x6 < x5 then x6 else x5), .int (if x5 < x6 then x6 else x5)]) (rest := []) (ci := 5) (b := ad 0) ⟨hx, hb, hml, hown, hts⟩ hl.1 (kX5_flip l D cA ad block ties lines pmn row next past (if x6 < x5 then x6 else x5) (if x5 < x6 then x6 else x5)  _ eq32) (cwV 2 hts gL_does_X5_flip rfl rfl rfl (by decide +kernel) ⟨Nat.le_of_ble_eq_true rfl, Nat.le_of_ble_eq_true rfl⟩) rfl hK hP hD hS hA 0 rfl rfl rfl [0, 1, 2, 3, 4, 5, 6, 7, 8, 9, 10, 11, 12, 13, 14, 15, 16, 17, 18, 19, 20, 21, 22, 23, 24, 25, 26, 27, 28, 29, 30, 31, 32, 33, 34, 35, 36, 37, 38, 39, 40, 41, 42, 43, 44] rfl (by decide +kernel) rfl (Nat.le_of_ble_eq_true rfl) dL_does_262 ⟨Nat.zero_le _, Nat.zero_le _⟩ (fun H locs hP hD hS hnq32 => ?_)
    have hP : va_P D vwCl (wL_does cA ad b1 b2 at_ n1 n2 nt block ties lines q32.2.1 q32.2.2.1 q32.2.2.2.1 q32.2.2.2.2 f1 f2 tF tG) H := hP
    have hD : va_D A (wL_does cA ad b1 b2 at_ n1 n2 nt block ties lines q32.2.1 q32.2.2.1 q32.2.2.2.1 q32.2.2.2.2 f1 f2 tF tG) := hD
    refine lv_iload hx hb dL_does_265 (lv_at hl 9 rfl) ?_
    refine lv_icmp_ne (tgt := 274) hx hb dL_does_267 (by decide) (fun c33 => ?_) (fun c33 => ?_)
    · have h := e_t c33 h
      refine lv_iconst (v := 0) hx hb dL_does_274 (by decide) ?_
      obtain rfl := e_s h
      exact hret hP hS (show narrow .boolean (.int 0) = .int 0 from rfl) dL_does_275
    · have h := e_f (not_not_intro c33) h
      refine lv_iconst (v := 1) hx hb dL_does_270 (by decide) ?_
      refine lv_goto (tgt := 275) hx hb dL_does_271 (by decide) ?_
      obtain rfl := e_s h
      exact hret hP hS (show narrow .boolean (.int 1) = .int 1 from rfl) dL_does_275
  have h := e_f c34 h
  by_cases c38 : x4 = 7
  · have h := e_t c38 h
    refine lv_tableIn (off := 205) (tgt := 276) hx hb dL_does_71 (by rw [c38]; decide) (by rw [c38]; decide) (by rw [c38]; rfl) (by decide) ?_
    refine lv_aload_n hx hb dL_does_276 rfl (lv_at hl 0 rfl) ?_
    refine lv_iload hx hb dL_does_277 (lv_at hl 7 rfl) ?_
    refine lv_iload hx hb dL_does_279 (lv_at hl 8 rfl) ?_
    refine lv_iload hx hb dL_does_281 (lv_at hl 6 rfl) ?_
    refine lv_iload hx hb dL_does_283 (lv_at hl 8 rfl) ?_
    refine lv_iload hx hb dL_does_285 (lv_at hl 7 rfl) ?_
    refine lv_isub hx hb dL_does_287 ?_
    refine lv_iconst (v := 2) hx hb dL_does_288 (by decide) ?_
    refine lv_iadd hx hb dL_does_289 ?_
    obtain ⟨v35, ev35, nv35, h⟩ := e_rm h
    refine xa_irem hx hb dL_does_290 nv35 ev35 ?_
    obtain ⟨q36, eq36, h⟩ := e_b h
    refine xv_i (As := [.int (if x6 < x5 then x6 else x5), .int (if x5 < x6 then x6 else x5), .int v35]) (rest := []) (ci := 5) (b := ad 0) ⟨hx, hb, hml, hown, hts⟩ hl.1 (kX5_shift l D cA ad block ties lines pmn row next past (if x6 < x5 then x6 else x5) (if x5 < x6 then x6 else x5) v35  _ eq36) (cwV 3 hts gL_does_X5_shift rfl rfl rfl (by decide +kernel) ⟨Nat.le_of_ble_eq_true rfl, Nat.le_of_ble_eq_true rfl⟩) rfl hK hP hD hS hA 0 rfl rfl rfl [0, 1, 2, 3, 4, 5, 6, 7, 8, 9, 10, 11, 12, 13, 14, 15, 16, 17, 18, 19, 20, 21, 22, 23, 24, 25, 26, 27, 28, 29, 30, 31, 32, 33, 34, 35, 36, 37, 38, 39, 40, 41, 42, 43, 44] rfl (by decide +kernel) rfl (Nat.le_of_ble_eq_true rfl) dL_does_291 ⟨Nat.zero_le _, Nat.zero_le _⟩ (fun H locs hP hD hS hnq36 => ?_)
    have hP : va_P D vwCl (wL_does cA ad b1 b2 at_ n1 n2 nt block ties lines q36.2.1 q36.2.2.1 q36.2.2.2.1 q36.2.2.2.2 f1 f2 tF tG) H := hP
    have hD : va_D A (wL_does cA ad b1 b2 at_ n1 n2 nt block ties lines q36.2.1 q36.2.2.1 q36.2.2.2.1 q36.2.2.2.2 f1 f2 tF tG) := hD
    refine lv_iload hx hb dL_does_294 (lv_at hl 9 rfl) ?_
    refine lv_icmp_ne (tgt := 303) hx hb dL_does_296 (by decide) (fun c37 => ?_) (fun c37 => ?_)
    · have h := e_t c37 h
      refine lv_iconst (v := 0) hx hb dL_does_303 (by decide) ?_
      obtain rfl := e_s h
      exact hret hP hS (show narrow .boolean (.int 0) = .int 0 from rfl) dL_does_304
    · have h := e_f (not_not_intro c37) h
      refine lv_iconst (v := 1) hx hb dL_does_299 (by decide) ?_
      refine lv_goto (tgt := 304) hx hb dL_does_300 (by decide) ?_
      obtain rfl := e_s h
      exact hret hP hS (show narrow .boolean (.int 1) = .int 1 from rfl) dL_does_304
  have h := e_f c38 h
  by_cases c42 : x4 = 8
  · have h := e_t c42 h
    refine lv_tableIn (off := 234) (tgt := 305) hx hb dL_does_71 (by rw [c42]; decide) (by rw [c42]; decide) (by rw [c42]; rfl) (by decide) ?_
    refine lv_aload_n hx hb dL_does_305 rfl (lv_at hl 0 rfl) ?_
    refine lv_aload_n hx hb dL_does_306 rfl (lv_at hl 1 rfl) ?_
    refine lv_iload hx hb dL_does_307 (lv_at hl 4 rfl) ?_
    obtain ⟨v39, ev39, nv39, h⟩ := e_rd h
    refine xa_iald hx hb hK hP 45 rfl nv39 ev39 dL_does_309 ?_
    refine lv_iload hx hb dL_does_310 (lv_at hl 6 rfl) ?_
    obtain ⟨q40, eq40, h⟩ := e_b h
    refine xv_i (As := [.int v39, .int x7]) (rest := []) (ci := 5) (b := ad 0) ⟨hx, hb, hml, hown, hts⟩ hl.1 (kX5_replace l D cA ad block ties lines pmn row next past v39 x7  _ eq40) (cwV 2 hts gL_does_X5_replace rfl rfl rfl (by decide +kernel) ⟨Nat.le_of_ble_eq_true rfl, Nat.le_of_ble_eq_true rfl⟩) rfl hK hP hD hS hA 0 rfl rfl rfl [0, 1, 2, 3, 4, 5, 6, 7, 8, 9, 10, 11, 12, 13, 14, 15, 16, 17, 18, 19, 20, 21, 22, 23, 24, 25, 26, 27, 28, 29, 30, 31, 32, 33, 34, 35, 36, 37, 38, 39, 40, 41, 42, 43, 44] rfl (by decide +kernel) rfl (Nat.le_of_ble_eq_true rfl) dL_does_312 ⟨Nat.zero_le _, Nat.zero_le _⟩ (fun H locs hP hD hS hnq40 => ?_)
    have hP : va_P D vwCl (wL_does cA ad b1 b2 at_ n1 n2 nt block ties lines q40.2.1 q40.2.2.1 q40.2.2.2.1 q40.2.2.2.2 f1 f2 tF tG) H := hP
    have hD : va_D A (wL_does cA ad b1 b2 at_ n1 n2 nt block ties lines q40.2.1 q40.2.2.1 q40.2.2.2.1 q40.2.2.2.2 f1 f2 tF tG) := hD
    refine lv_iload hx hb dL_does_315 (lv_at hl 9 rfl) ?_
    refine lv_icmp_ne (tgt := 324) hx hb dL_does_317 (by decide) (fun c41 => ?_) (fun c41 => ?_)
    · have h := e_t c41 h
      refine lv_iconst (v := 0) hx hb dL_does_324 (by decide) ?_
      obtain rfl := e_s h
      exact hret hP hS (show narrow .boolean (.int 0) = .int 0 from rfl) dL_does_325
    · have h := e_f (not_not_intro c41) h
      refine lv_iconst (v := 1) hx hb dL_does_320 (by decide) ?_
      refine lv_goto (tgt := 325) hx hb dL_does_321 (by decide) ?_
      obtain rfl := e_s h
      exact hret hP hS (show narrow .boolean (.int 1) = .int 1 from rfl) dL_does_325
  have h := e_f c42 h
  refine lv_tableOut (tgt := 326) hx hb dL_does_71 (sw_out 8 (fun k hk => by match k, hk with | 0, _ => exact c11 | 1, _ => exact c16 | 2, _ => exact c19 | 3, _ => exact c23 | 4, _ => exact c26 | 5, _ => exact c31 | 6, _ => exact c34 | 7, _ => exact c38 | 8, _ => exact c42 | (n + 9), hk => exact absurd hk (by omega)) (by decide)) (by decide) ?_
  refine lv_aload_n hx hb dL_does_326 rfl (lv_at hl 0 rfl) ?_
  refine lv_iload hx hb dL_does_327 (lv_at hl 7 rfl) ?_
  refine lv_iload hx hb dL_does_329 (lv_at hl 8 rfl) ?_
  refine lv_iload hx hb dL_does_331 (lv_at hl 6 rfl) ?_
  refine lv_iconst (v := 2) hx hb dL_does_333 (by decide) ?_
  obtain ⟨v43, ev43, nv43, h⟩ := e_rm h
  refine xa_irem hx hb dL_does_334 nv43 ev43 ?_
  obtain ⟨z44, ez44, h⟩ := e_b h
  have hJ45 : ∀ (ls : Array Slot) (H : Heap) (locs : List Loc), lv_has ls 12 [(10, .int z7)] → va_P D vwCl (wL_does cA ad b1 b2 at_ n1 n2 nt block ties lines pmn row next past f1 f2 tF tG) H → va_D A (wL_does cA ad b1 b2 at_ n1 n2 nt block ties lines pmn row next past f1 f2 tF tG) → va_S A s.heap H locs → W p l e (headSpec wsL_does { frames := 6, cells := 0, slots := 0, locals := 143 }).room s m args below meth c H locs 0 0 Q (F0 m 343 ls [.int z44, .int (if x5 < x6 then x6 else x5), .int (if x6 < x5 then x6 else x5), .ref (ad 0)]) := by
    intro ls H locs hl hP hD hS
    obtain ⟨q46, eq46, h⟩ := e_b h
    refine xv_i (As := [.int (if x6 < x5 then x6 else x5), .int (if x5 < x6 then x6 else x5), .int z44]) (rest := []) (ci := 5) (b := ad 0) ⟨hx, hb, hml, hown, hts⟩ hl.1 (kX5_sort l D cA ad block ties lines pmn row next past (if x6 < x5 then x6 else x5) (if x5 < x6 then x6 else x5) z44  _ eq46) (cwV 3 hts gL_does_X5_sort rfl rfl rfl (by decide +kernel) ⟨Nat.le_of_ble_eq_true rfl, Nat.le_of_ble_eq_true rfl⟩) rfl hK hP hD hS hA 0 rfl rfl rfl [0, 1, 2, 3, 4, 5, 6, 7, 8, 9, 10, 11, 12, 13, 14, 15, 16, 17, 18, 19, 20, 21, 22, 23, 24, 25, 26, 27, 28, 29, 30, 31, 32, 33, 34, 35, 36, 37, 38, 39, 40, 41, 42, 43, 44] rfl (by decide +kernel) rfl (Nat.le_of_ble_eq_true rfl) dL_does_343 ⟨Nat.zero_le _, Nat.zero_le _⟩ (fun H locs hP hD hS hnq46 => ?_)
    have hP : va_P D vwCl (wL_does cA ad b1 b2 at_ n1 n2 nt block ties lines q46.2.1 q46.2.2.1 q46.2.2.2.1 q46.2.2.2.2 f1 f2 tF tG) H := hP
    have hD : va_D A (wL_does cA ad b1 b2 at_ n1 n2 nt block ties lines q46.2.1 q46.2.2.1 q46.2.2.2.1 q46.2.2.2.2 f1 f2 tF tG) := hD
    refine lv_iload hx hb dL_does_346 (lv_at hl 0 rfl) ?_
    refine lv_icmp_ne (tgt := 355) hx hb dL_does_348 (by decide) (fun c47 => ?_) (fun c47 => ?_)
    · have h := e_t c47 h
      refine lv_iconst (v := 0) hx hb dL_does_355 (by decide) ?_
      obtain rfl := e_s h
      exact hret hP hS (show narrow .boolean (.int 0) = .int 0 from rfl) dL_does_356
    · have h := e_f (not_not_intro c47) h
      refine lv_iconst (v := 1) hx hb dL_does_351 (by decide) ?_
      refine lv_goto (tgt := 356) hx hb dL_does_352 (by decide) ?_
      obtain rfl := e_s h
      exact hret hP hS (show narrow .boolean (.int 1) = .int 1 from rfl) dL_does_356
  have h := ez44
  refine lv_if_ne (tgt := 342) hx hb dL_does_335 (by decide) (fun c48 => ?_) (fun c48 => ?_)
  · have h := e_t c48 h
    refine lv_iconst (v := 0) hx hb dL_does_342 (by decide) ?_
    obtain rfl := e_s h
    exact hJ45 _ _ _ (lv_sub hl [9] rfl) hP hD hS
  · have h := e_f (not_not_intro c48) h
    refine lv_iconst (v := 1) hx hb dL_does_338 (by decide) ?_
    refine lv_goto (tgt := 343) hx hb dL_does_339 (by decide) ?_
    obtain rfl := e_s h
    exact hJ45 _ _ _ (lv_sub hl [9] rfl) hP hD hS

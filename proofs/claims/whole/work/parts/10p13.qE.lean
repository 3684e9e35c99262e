/-! PURE ROWS. All spans by their mode: spans, longest -/
theorem X6_longer_z {value weight : Nat → Int32} {n : Int} {V G : Int → Int} (hv : Rv value weight n V G) {t l r : Int} (ht : 0 ≤ t ∧ t ≤ 3) (hl : 0 ≤ l) (hlr : l ≤ r) (hr : r < n) (o fo la un : Nat → Int32) (um : Int32) (hC : r = l ∨ CuH (fun i => l + i) (spT V l (r - 1)) (o, fo, la, un, um)) :
    ∃ z : CuT, mX6_longer value (zI t) o fo la un um (zI l) (zI r) = some (zI (bsT t (spT V l r)), z) ∧ CuH (fun i => l + i) (spT V l r) z := by
  obtain ⟨hn, hV, hG, hB⟩ := id hv
  unfold mX6_longer
  by_cases e : r = l
  · subst e
    obtain ⟨z, e1, h1⟩ := X6_counts_z hv hl (show r ≤ r + 1 by omega) hr o fo la un um
    rw [if_neg (not_not_intro rfl), e1, sob, sob]
    have := X6_modeBy_z h1 ht
    refine ⟨z, ?_, h1⟩
    simp only []
    rw [this, sob]
  · have hC2 := hC.resolve_left e
    have hbv := (hB r (by omega) hr).1
    have hlen := spT_len (V := V) (l := l) (r := r - 1) (by omega)
    obtain ⟨z, e1, h1⟩ := X6_push_z hC2 (x := V r) (q := r) (okT_cons hbv hC2.ok (by omega)) (by rw [hlen]; omega)
    rw [if_pos (show ¬ zI l = zI r by rw [zI_eq (by omega) (by omega) (by omega) (by omega)]; omega), rd_A hV (by omega) hr (by omega) (by omega), sob, e1, sob, sob]
    rw [← spT_snoc hlr] at h1
    have := X6_modeBy_z h1 ht
    refine ⟨z, ?_, h1⟩
    simp only []
    rw [this, sob]
/-- the class: one more place of a span -/
theorem X3_more_z {row : RowT} {n : Int} {V G : Int → Int} (hR : Rw row n V G) {t l r : Int} (hl : 0 ≤ l) (hlr : l ≤ r) (hr : r < n) {T : TalT} (hT : TalH t (spT V l (r - 1)) T) : ∃ T', mX3_push T (zI (V r)) = some T' ∧ TalH t (spT V l r) T' := by
  obtain ⟨hn2, hs2, hV, hG, hB⟩ := id hR
  have hlen := spT_len (V := V) (l := l) (r := r - 1) (by omega)
  obtain ⟨T', e, h⟩ := X3_push_z hT (x := V r) (okT_cons (hB r (by omega) hr).1 hT.ok (by omega))
  rw [← spT_snoc hlr] at h
  exact ⟨T', e, h⟩
theorem X56_spans_I {row : RowT} {value weight : Nat → Int32} {n t l v : Int} {V G : Int → Int} (hR : Rw row n V G) (hv : Rv value weight n V G) (ht : 0 ≤ t ∧ t ≤ 3) (hvv : 0 ≤ v ∧ v < 1000) (hl : 0 ≤ l) : ∀ (k f f' : Nat) (c p : Int) (T : TalT) (o fo la un : Nat → Int32) (um : Int32), k < f → k < f' → l ≤ p → n = p + k → TalH t (spT V l (p - 1)) T → (p = l ∨ CuH (fun i => l + i) (spT V l (p - 1)) (o, fo, la, un, um)) →
    ∃ (c' : Int) (T' : TalT) (z : CuT), mX5_spans_L38 row (zI v) f (zI c) (zI p) T = some (zI c', T') ∧ TalC T' ∧ mX6_spans_L29 value (zI n) (zI t) (zI v) (zI l) f' (zI c) (zI p) o fo la un um = some (zI c', z)
  | k, 0, f', c, p, T, o, fo, la, un, um, h, _, _, _, _, _ => absurd h (Nat.not_lt_zero k)
  | k, f + 1, 0, c, p, T, o, fo, la, un, um, _, h, _, _, _, _ => absurd h (Nat.not_lt_zero k)
  | 0, f + 1, f' + 1, c, p, T, o, fo, la, un, um, _, _, hp, hk, hT, hC => by
    obtain ⟨hs, hn⟩ := hR.ok
    simp (disch := omega) only [mX5_spans_L38, mX6_spans_L29, hs, zI_le]
    rw [if_pos (show n ≤ p by omega), if_pos (show n ≤ p by omega)]
    exact ⟨c, T, (o, fo, la, un, um), rfl, hT.clean, rfl⟩
  | k + 1, f + 1, f' + 1, c, p, T, o, fo, la, un, um, h, h', hp, hk, hT, hC => by
    obtain ⟨hn, hs, hV, hG, hB⟩ := id hR
    obtain ⟨T1, e1, h1⟩ := X3_more_z hR hl hp (by omega) hT
    obtain ⟨z, e2, h2⟩ := X6_longer_z hv ht hl hp (by omega) o fo la un um hC
    have hb := bsT_nn (t := t) h1.ok (spT_ne hp)
    simp (disch := omega) only [mX5_spans_L38, mX6_spans_L29, hs, zI_le, rd_A hV, sob, e1, e2, h1.best]
    simp (disch := omega) only [zI_eq]
    rw [if_neg (show ¬ n ≤ p by omega), if_neg (show ¬ n ≤ p by omega), zI_a1, zI_a1, zI_a0]
    by_cases e : bsT t (spT V l p) = v
    · rw [if_neg (not_not_intro e), if_neg (not_not_intro e)]
      exact X56_spans_I hR hv ht hvv hl k f f' (c + 1) (p + 1) T1 z.1 z.2.1 z.2.2.1 z.2.2.2.1 z.2.2.2.2 (by omega) (by omega) (by omega) (by omega) (by rw [show p + 1 - 1 = p by omega]; exact h1) (Or.inr (by rw [show p + 1 - 1 = p by omega]; exact h2))
    · rw [if_pos e, if_pos e]
      exact X56_spans_I hR hv ht hvv hl k f f' c (p + 1) T1 z.1 z.2.1 z.2.2.1 z.2.2.2.1 z.2.2.2.2 (by omega) (by omega) (by omega) (by omega) (by rw [show p + 1 - 1 = p by omega]; exact h1) (Or.inr (by rw [show p + 1 - 1 = p by omega]; exact h2))
theorem X56_spans_O {row : RowT} {value weight : Nat → Int32} {n t v : Int} {V G : Int → Int} (hR : Rw row n V G) (hv : Rv value weight n V G) (ht : 0 ≤ t ∧ t ≤ 3) (hvv : 0 ≤ v ∧ v < 1000) : ∀ (k f f' : Nat) (c l : Int) (T : TalT) (o fo la un : Nat → Int32) (um : Int32), k < f → k < f' → 0 ≤ l → n = l + k → TalC T →
    ∃ (c' : Int) (T' : TalT) (z : CuT), mX5_spans_L13 (zI t) row (zI v) f (zI c) (zI l) T = some (zI c', T') ∧ TalC T' ∧ mX6_spans_L18 value (zI n) (zI t) (zI v) f' (zI c) (zI l) o fo la un um = some (zI c', z)
  | k, 0, f', c, p, T, o, fo, la, un, um, h, _, _, _, _ => absurd h (Nat.not_lt_zero k)
  | k, f + 1, 0, c, p, T, o, fo, la, un, um, _, h, _, _, _ => absurd h (Nat.not_lt_zero k)
  | 0, f + 1, f' + 1, c, l, T, o, fo, la, un, um, _, _, hp, hk, hT => by
    obtain ⟨hs, hn⟩ := hR.ok
    simp (disch := omega) only [mX5_spans_L13, mX6_spans_L18, hs, zI_le]
    rw [if_pos (show n ≤ l by omega), if_pos (show n ≤ l by omega)]
    exact ⟨c, T, (o, fo, la, un, um), rfl, hT, rfl⟩
  | k + 1, f + 1, f' + 1, c, l, T, o, fo, la, un, um, h, h', hp, hk, hT => by
    obtain ⟨hs, hn⟩ := hR.ok
    obtain ⟨T1, e1, h1⟩ := X3_begin_z hT ht
    obtain ⟨c2, T2, z2, e2, h2, e3⟩ := X56_spans_I hR hv ht hvv hp (n - l).toNat FU FU c l T1 o fo la un um (by rw [FU_e]; omega) (by rw [FU_e]; omega) (by omega) (by omega) (by rw [spT_nil (by omega)]; exact h1) (Or.inl rfl)
    simp (disch := omega) only [mX5_spans_L13, mX6_spans_L18, hs, zI_le, e1, e2, e3, sob]
    rw [if_neg (show ¬ n ≤ l by omega), if_neg (show ¬ n ≤ l by omega), zI_a1]
    exact X56_spans_O hR hv ht hvv k f f' c2 (l + 1) T2 z2.1 z2.2.1 z2.2.2.1 z2.2.2.2.1 z2.2.2.2.2 (by omega) (by omega) (by omega) (by omega) h2
theorem P_spans {row : RowT} {value weight : Nat → Int32} {n t : Int} {V G : Int → Int} {T : TalT} (hR : Rw row n V G) (hv : Rv value weight n V G) (ht : 0 ≤ t ∧ t ≤ 3) (hT : TalC T) (th : Int32) (o fo la un : Nat → Int32) (um x1 : Int32) :
    ∃ (a : Int32) (T' : TalT) (z : CuT), mX5_spans (zI t) row T x1 = some (a, T') ∧ TalC T' ∧ mX6_spans th value (zI n) (zI t) o fo la un um x1 = some (a, 0, z) := by
  obtain ⟨v, hvv, rfl⟩ := zI_ex x1
  obtain ⟨hs, hn⟩ := hR.ok
  unfold mX5_spans mX6_spans
  rw [X5_isValue_z hvv, X6_isValue_z hvv, sob, sob]
  by_cases d : 0 ≤ v ∧ v < 1000
  · rw [bz_t d, if_pos i1, if_pos i1]
    obtain ⟨c2, T2, z2, e2, h2, e3⟩ := X56_spans_O hR hv ht d n.toNat FU FU 0 0 T o fo la un um (by rw [FU_e]; omega) (by rw [FU_e]; omega) (by omega) (by omega) hT
    rw [z_0, e2, e3, sob, sob]
    exact ⟨_, _, _, rfl, h2, rfl⟩
  · rw [bz_f d, if_neg i0n, if_neg i0n]
    exact ⟨_, _, (o, fo, la, un, um), rfl, hT, rfl⟩
theorem X56_long_I {row : RowT} {value weight : Nat → Int32} {n t l v : Int} {V G : Int → Int} (hR : Rw row n V G) (hv : Rv value weight n V G) (ht : 0 ≤ t ∧ t ≤ 3) (hvv : 0 ≤ v ∧ v < 1000) (hl : 0 ≤ l) : ∀ (k f f' : Nat) (b m b' p : Int) (T : TalT) (o fo la un : Nat → Int32) (um : Int32), k < f → k < f' → l ≤ p → n = p + k → TalH t (spT V l (p - 1)) T → (p = l ∨ CuH (fun i => l + i) (spT V l (p - 1)) (o, fo, la, un, um)) → rgR b m b' → (0 < m → b + m ≤ n) →
    ∃ (b2 m2 b2' : Int) (T' : TalT) (z : CuT), mX5_longest_L55 row (zI v) (zI l) f (zI b) (zI m) (zI p) T = some (zI b2, zI m2, T') ∧ TalC T' ∧ mX6_longest_L45 value (zI n) (zI t) (zI v) (zI l) f' (zI b') (zI m) (zI p) o fo la un um = some (zI b2', zI m2, z) ∧ rgR b2 m2 b2' ∧ (0 < m2 → b2 + m2 ≤ n) ∧ m ≤ m2 ∧ (n - l ≤ m → b2 = b ∧ m2 = m ∧ b2' = b')
  | k, 0, f', b, m, b', p, T, o, fo, la, un, um, h, _, _, _, _, _, _, _ => absurd h (Nat.not_lt_zero k)
  | k, f + 1, 0, b, m, b', p, T, o, fo, la, un, um, _, h, _, _, _, _, _, _ => absurd h (Nat.not_lt_zero k)
  | 0, f + 1, f' + 1, b, m, b', p, T, o, fo, la, un, um, _, _, hp, hk, hT, hC, hg, hbm => by
    obtain ⟨hs, hn⟩ := hR.ok
    simp (disch := omega) only [mX5_longest_L55, mX6_longest_L45, hs, zI_le]
    rw [if_pos (show n ≤ p by omega), if_pos (show n ≤ p by omega)]
    exact ⟨b, m, b', T, (o, fo, la, un, um), rfl, hT.clean, rfl, hg, hbm, by omega, fun _ => ⟨rfl, rfl, rfl⟩⟩
  | k + 1, f + 1, f' + 1, b, m, b', p, T, o, fo, la, un, um, h, h', hp, hk, hT, hC, hg, hbm => by
    obtain ⟨hn, hs, hV, hG, hB⟩ := id hR
    obtain ⟨g1, g2, g3, g4⟩ := id hg
    obtain ⟨T1, e1, h1⟩ := X3_more_z hR hl hp (by omega) hT
    obtain ⟨z, e2, h2⟩ := X6_longer_z hv ht hl hp (by omega) o fo la un um hC
    have hb := bsT_nn (t := t) h1.ok (spT_ne hp)
    have h1' : TalH t (spT V l (p + 1 - 1)) T1 := by rw [show p + 1 - 1 = p by omega]; exact h1
    have h2' : CuH (fun i => l + i) (spT V l (p + 1 - 1)) (z.1, z.2.1, z.2.2.1, z.2.2.2.1, z.2.2.2.2) := by rw [show p + 1 - 1 = p by omega]; exact h2
    simp (disch := omega) only [mX5_longest_L55, mX6_longest_L45, hs, rd_A hV, e1, e2, h1.best, z_0, z_1, z_2, z_3, z_4, z_5, z_6, z_7, z_8, z_9, z_12, z_20, z_120, z_121, z_880, z_900, z_999, z_1000, zI_neg, zI_add, zI_sub, zI_mul, zI_lt, zI_le, zI_eq, sob, bz_0, Classical.not_not]
    rw [if_neg (show ¬ n ≤ p by omega), if_neg (show ¬ n ≤ p by omega)]
    by_cases e : bsT t (spT V l p) = v
    · rw [if_neg (not_not_intro e), if_neg (not_not_intro e)]
      by_cases d : p - l + 1 ≤ m
      · rw [if_pos d, if_neg (show ¬ m < p - l + 1 by omega)]
        exact X56_long_I hR hv ht hvv hl k f f' b m b' (p + 1) T1 _ _ _ _ _ (by omega) (by omega) (by omega) (by omega) h1' (Or.inr h2') hg hbm
      · rw [if_neg d, if_pos (show m < p - l + 1 by omega)]
        obtain ⟨b2, m2, b2', T', z', f1, f2, f3, f4, f5, f6, f7⟩ := X56_long_I hR hv ht hvv hl k f f' l (p - l + 1) l (p + 1) T1 z.1 z.2.1 z.2.2.1 z.2.2.2.1 z.2.2.2.2 (by omega) (by omega) (by omega) (by omega) h1' (Or.inr h2') ⟨by omega, by omega, by omega, by omega⟩ (by omega)
        exact ⟨b2, m2, b2', T', z', f1, f2, f3, f4, f5, by omega, by omega⟩
    · rw [if_pos e, if_pos e]
      exact X56_long_I hR hv ht hvv hl k f f' b m b' (p + 1) T1 _ _ _ _ _ (by omega) (by omega) (by omega) (by omega) h1' (Or.inr h2') hg hbm
theorem X56_long_O {row : RowT} {value weight : Nat → Int32} {n t v : Int} {V G : Int → Int} (hR : Rw row n V G) (hv : Rv value weight n V G) (ht : 0 ≤ t ∧ t ≤ 3) (hvv : 0 ≤ v ∧ v < 1000) : ∀ (k f f' : Nat) (b m b' l : Int) (T : TalT) (o fo la un : Nat → Int32) (um : Int32), k < f → k < f' → 0 ≤ l → n = l + k → TalC T → rgR b m b' → (0 < m → b + m ≤ n) →
    ∃ (b2 m2 b2' : Int) (T' : TalT) (z : CuT), mX5_longest_L25 (zI t) row (zI v) f (zI b) (zI m) (zI l) T = some (zI b2, zI m2, T') ∧ TalC T' ∧ mX6_longest_L32 value (zI n) (zI t) (zI v) f' (zI b') (zI m) (zI l) o fo la un um = some (zI b2', zI m2, z) ∧ rgR b2 m2 b2' ∧ (0 < m2 → b2 + m2 ≤ n)
  | k, 0, f', b, m, b', l, T, o, fo, la, un, um, h, _, _, _, _, _, _ => absurd h (Nat.not_lt_zero k)
  | k, f + 1, 0, b, m, b', l, T, o, fo, la, un, um, _, h, _, _, _, _, _ => absurd h (Nat.not_lt_zero k)
  | 0, f + 1, f' + 1, b, m, b', l, T, o, fo, la, un, um, _, _, hp, hk, hT, hg, hbm => by
    obtain ⟨hs, hn⟩ := hR.ok
    have g2 := hg.2.1
    simp (disch := omega) only [mX5_longest_L25, mX6_longest_L32, hs, zI_le, zI_sub]
    rw [if_pos (show n - m ≤ l by omega), if_pos (show n ≤ l by omega)]
    exact ⟨b, m, b', T, (o, fo, la, un, um), rfl, hT, rfl, hg, hbm⟩
  | k + 1, f + 1, f' + 1, b, m, b', l, T, o, fo, la, un, um, h, h', hp, hk, hT, hg, hbm => by
    obtain ⟨hs, hn⟩ := hR.ok
    have g2 := hg.2.1
    obtain ⟨T1, e1, h1⟩ := X3_begin_z hT ht
    obtain ⟨b2, m2, b2', T2, z2, e2, h2, e3, e4, e5, e6, e7⟩ := X56_long_I hR hv ht hvv hp (n - l).toNat FU FU b m b' l T1 o fo la un um (by rw [FU_e]; omega) (by rw [FU_e]; omega) (by omega) (by omega) (by rw [spT_nil (by omega)]; exact h1) (Or.inl rfl) hg hbm
    by_cases c : n - m ≤ l
    · obtain ⟨rfl, rfl, rfl⟩ := e7 (by omega)
      obtain ⟨b3, m3, b3', T3, z3, f1, f2, f3, f4, f5⟩ := X56_long_O hR hv ht hvv k (f + 1) f' b2 m2 b2' (l + 1) T z2.1 z2.2.1 z2.2.2.1 z2.2.2.2.1 z2.2.2.2.2 (by omega) (by omega) (by omega) (by omega) hT hg hbm
      simp (disch := omega) only [mX5_longest_L25, hs, zI_le, zI_sub] at f1 ⊢
      rw [if_pos (show n - m2 ≤ l + 1 by omega)] at f1
      rw [if_pos c]
      simp (disch := omega) only [mX6_longest_L32, zI_le]
      rw [if_neg (show ¬ n ≤ l by omega), e3, sob, zI_a1]
      exact ⟨b3, m3, b3', T3, z3, f1, f2, f3, f4, f5⟩
    · obtain ⟨b3, m3, b3', T3, z3, f1, f2, f3, f4, f5⟩ := X56_long_O hR hv ht hvv k f f' b2 m2 b2' (l + 1) T2 z2.1 z2.2.1 z2.2.2.1 z2.2.2.2.1 z2.2.2.2.2 (by omega) (by omega) (by omega) (by omega) h2 e4 e5
      simp (disch := omega) only [mX5_longest_L25, mX6_longest_L32, hs, zI_le, zI_sub, e1, sob]
      rw [if_neg c, if_neg (show ¬ n ≤ l by omega), e2, e3, sob, sob, zI_a1]
      exact ⟨b3, m3, b3', T3, z3, f1, f2, f3, f4, f5⟩
theorem P_longest {row : RowT} {value weight : Nat → Int32} {n t : Int} {V G : Int → Int} {T : TalT} (hR : Rw row n V G) (hv : Rv value weight n V G) (ht : 0 ≤ t ∧ t ≤ 3) (hT : TalC T) (th : Int32) (o fo la un : Nat → Int32) (um x1 x2 : Int32) :
    ∃ (a : Int32) (T' : TalT) (z : CuT), mX5_longest (zI t) row T x1 x2 = some (a, T') ∧ TalC T' ∧ mX6_longest th value (zI n) (zI t) o fo la un um x1 x2 = some (a, 0, z) := by
  obtain ⟨v, hvv, rfl⟩ := zI_ex x1
  obtain ⟨w, hw, rfl⟩ := zI_ex x2
  obtain ⟨hs, hn⟩ := hR.ok
  simp (disch := omega) only [mX5_longest, mX6_longest, X5_isValue_z hvv, X6_isValue_z hvv, X5_isBelow_z hw, z_0, z_1, z_2, z_3, z_4, z_5, z_6, z_7, z_8, z_9, z_12, z_20, z_120, z_121, z_880, z_900, z_999, z_1000, zI_neg, zI_add, zI_sub, zI_mul, zI_lt, zI_le, zI_eq, sob, bz_0, Classical.not_not]
  by_cases d : 0 ≤ v ∧ v < 1000
  · simp only [d, not_true_eq_false, not_false_eq_true, and_self, and_true, true_and, reduceIte]
    by_cases c : 0 ≤ w ∧ w < 2
    · rw [if_pos c, if_neg (show ¬ w < 0 by omega), if_pos (show w ≤ 1 by omega)]
      obtain ⟨b, m, b', T', z, e1, h1, e2, e3, e4⟩ := X56_long_O hR hv ht d n.toNat FU FU 0 0 (-2) 0 T o fo la un um (by rw [FU_e]; omega) (by rw [FU_e]; omega) (by omega) (by omega) hT ⟨by omega, by omega, by omega, by omega⟩ (by omega)
      obtain ⟨g1, g2, g3, g4⟩ := e3
      rw [e1, e2, sob, sob, X5_spanTold_z hR (by omega) (by omega) (by omega) (by omega), sob]
      by_cases m0 : m = 0
      · rw [if_pos m0, g3 m0]
        exact ⟨_, _, _, rfl, h1, rfl⟩
      · rw [g4 (by omega), if_neg m0, if_neg (show ¬ w = 2 by omega)]
        simp (disch := omega) only [z_0, z_1, z_2, z_3, z_4, z_5, z_6, z_7, z_8, z_9, z_12, z_20, z_120, z_121, z_880, z_900, z_999, z_1000, zI_neg, zI_add, zI_sub, zI_mul, zI_lt, zI_le, zI_eq, sob, bz_0, Classical.not_not]
        rw [if_neg (show ¬ b = -2 by omega)]
        by_cases w0 : w = 0
        · rw [if_pos w0, if_neg (show ¬ ¬ w = 0 by omega)]; exact ⟨_, _, _, rfl, h1, rfl⟩
        · rw [if_neg w0, if_pos w0]; exact ⟨_, _, _, rfl, h1, rfl⟩
    · rw [if_neg c]
      by_cases w0 : w < 0
      · rw [if_pos w0]; exact ⟨_, _, (o, fo, la, un, um), rfl, hT, rfl⟩
      · rw [if_neg w0, if_neg (show ¬ w ≤ 1 by omega)]; exact ⟨_, _, (o, fo, la, un, um), rfl, hT, rfl⟩
  · simp only [d, not_true_eq_false, not_false_eq_true, and_self, and_true, true_and, reduceIte]
    exact ⟨_, _, (o, fo, la, un, um), rfl, hT, rfl⟩

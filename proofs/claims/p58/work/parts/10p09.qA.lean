/-! PURE ROWS. Questions of one span: class and reference alike -/
theorem P_mode {row : RowT} {value weight : Nat → Int32} {n t : Int} {V G : Int → Int} {T : TalT} (hR : Rw row n V G) (hv : Rv value weight n V G) (ht : 0 ≤ t ∧ t ≤ 3) (hT : TalC T) (th : Int32) (o fo la un : Nat → Int32) (um x1 x2 x3 : Int32) :
    ∃ (a : Int32) (T' : TalT) (z : CuT), mX5_mode (zI t) row T x1 x2 x3 = some (a, T') ∧ TalC T' ∧ mX6_mode th value (zI n) (zI t) o fo la un um x1 x2 x3 = some (a, 0, z) := by
  obtain ⟨l, hl, rfl⟩ := zI_ex x1
  obtain ⟨r, hr, rfl⟩ := zI_ex x2
  obtain ⟨w, hw, rfl⟩ := zI_ex x3
  obtain ⟨hs, hn⟩ := hR.ok
  simp (disch := omega) only [mX5_mode, mX6_mode, X2_hasSpan_z hs hn hl hr, X6_isSpan_z hn hl hr, X5_isBelow_z hw, z_0, z_1, z_2, z_3, z_4, z_5, z_6, z_7, z_8, z_9, z_12, z_20, z_120, z_121, z_880, z_900, z_999, z_1000, zI_neg, zI_add, zI_sub, zI_mul, zI_lt, zI_le, zI_eq, sob, bz_0, Classical.not_not]
  by_cases c : 0 ≤ l ∧ l ≤ r ∧ r < n
  · simp only [c, not_true_eq_false, not_false_eq_true, and_self, and_true, true_and, reduceIte]
    by_cases d : 0 ≤ w ∧ w < 4
    · rw [if_pos d, if_neg (show ¬ w < 0 by omega), if_pos (show w ≤ 3 by omega)]
      obtain ⟨T', e1, h1⟩ := X5_tallySpan_z hR ht c.1 (by omega) c.2.2 hT
      obtain ⟨z, e2, h2⟩ := X6_modeOf_z hv ht c.1 (by omega) c.2.2 o fo la un um
      have hb := bsT_mem (t := t) h1.ok (spT_ne c.2.1)
      rw [e1, sob, h1.best, X3_told_z (t := t) h1.1 hb d, sob, e2, sob]
      have := X6_told_z h2 hb d
      simp only []
      rw [this, sob]
      exact ⟨_, _, _, rfl, h1.clean, rfl⟩
    · rw [if_neg d]
      by_cases w0 : w < 0
      · rw [if_pos w0]; exact ⟨_, _, (o, fo, la, un, um), rfl, hT, rfl⟩
      · rw [if_neg w0, if_neg (show ¬ w ≤ 3 by omega)]; exact ⟨_, _, (o, fo, la, un, um), rfl, hT, rfl⟩
  · simp only [c, not_true_eq_false, not_false_eq_true, and_self, and_true, true_and, reduceIte]
    exact ⟨_, _, (o, fo, la, un, um), rfl, hT, rfl⟩
theorem P_ranked {row : RowT} {value weight : Nat → Int32} {n t : Int} {V G : Int → Int} {T : TalT} (hR : Rw row n V G) (hv : Rv value weight n V G) (ht : 0 ≤ t ∧ t ≤ 3) (hT : TalC T) (th : Int32) (o fo la un : Nat → Int32) (um x1 x2 x3 x4 : Int32) :
    ∃ (a : Int32) (T' : TalT) (z : CuT), mX5_ranked (zI t) row T x1 x2 x3 x4 = some (a, T') ∧ TalC T' ∧ mX6_ranked th value (zI n) (zI t) o fo la un um x1 x2 x3 x4 = some (a, 0, z) := by
  obtain ⟨l, hl, rfl⟩ := zI_ex x1
  obtain ⟨r, hr, rfl⟩ := zI_ex x2
  obtain ⟨k, hk, rfl⟩ := zI_ex x3
  obtain ⟨w, hw, rfl⟩ := zI_ex x4
  obtain ⟨hs, hn⟩ := hR.ok
  simp (disch := omega) only [mX5_ranked, mX6_ranked, X2_hasSpan_z hs hn hl hr, X6_isSpan_z hn hl hr, X5_isBelow_z hw, z_0, z_1, z_2, z_3, z_4, z_5, z_6, z_7, z_8, z_9, z_12, z_20, z_120, z_121, z_880, z_900, z_999, z_1000, zI_neg, zI_add, zI_sub, zI_mul, zI_lt, zI_le, zI_eq, sob, bz_0, Classical.not_not]
  by_cases c : 0 ≤ l ∧ l ≤ r ∧ r < n
  · simp only [c, not_true_eq_false, not_false_eq_true, and_self, and_true, true_and, reduceIte]
    by_cases k0 : k < 0
    · rw [if_pos k0, if_pos k0]; exact ⟨_, _, (o, fo, la, un, um), rfl, hT, rfl⟩
    · rw [if_neg k0, if_neg k0]
      by_cases d : 0 ≤ w ∧ w < 4
      · rw [if_pos d, if_neg (show ¬ w < 0 by omega), if_pos (show w ≤ 3 by omega)]
        obtain ⟨T', e1, h1⟩ := X5_tallySpan_z hR ht c.1 (by omega) c.2.2 hT
        obtain ⟨z, e2, h2⟩ := X6_counts_z hv c.1 (by omega) c.2.2 o fo la un um
        obtain ⟨T2, S, e3, h3⟩ := X3_order_z h1
        have hsl := srT_len h3.2.1
        have h120 := dsT_120 h1.ok
        rw [e1, sob, h1.kinds, show zI (-1) = (-1 : Int32) from rfl, e2, sob, X6_ofRank_z h2 ht hk, sob]
        by_cases g : k < (dsT (spT V l r)).length
        · obtain ⟨i, rfl⟩ : ∃ i : Nat, k = i := ⟨k.toNat, by omega⟩
          have hi : i < S.length := by omega
          have hm : S[i] ∈ spT V l r := (srT_mem h3.2.1).mp (List.getElem_mem hi)
          have hmb := h1.ok.2 _ hm
          rw [orT_sr h3.2.1 hi, if_pos (by rw [zI_lt (by omega) (by omega) (by omega) (by omega)]; exact g), e3, sob, rd_L h3.2.2.1 hi (by omega) (by omega), sob, X3_told_z (t := t) h3.1 hm d, sob, if_pos (by rw [z_m1, zI_eq (by omega) (by omega) (by omega) (by omega)]; omega), X6_told_z h2 hm d, sob]
          exact ⟨_, _, _, rfl, h3.clean, rfl⟩
        · rw [orT_out h3.2.1 (by omega), if_neg (by rw [zI_lt (by omega) (by omega) (by omega) (by omega)]; exact g), if_neg (by decide)]
          exact ⟨_, _, _, rfl, h1.clean, rfl⟩
      · rw [if_neg d]
        by_cases w0 : w < 0
        · rw [if_pos w0]; exact ⟨_, _, (o, fo, la, un, um), rfl, hT, rfl⟩
        · rw [if_neg w0, if_neg (show ¬ w ≤ 3 by omega)]; exact ⟨_, _, (o, fo, la, un, um), rfl, hT, rfl⟩
  · simp only [c, not_true_eq_false, not_false_eq_true, and_self, and_true, true_and, reduceIte]
    exact ⟨_, _, (o, fo, la, un, um), rfl, hT, rfl⟩
theorem P_rank {row : RowT} {value weight : Nat → Int32} {n t : Int} {V G : Int → Int} {T : TalT} (hR : Rw row n V G) (hv : Rv value weight n V G) (ht : 0 ≤ t ∧ t ≤ 3) (hT : TalC T) (th : Int32) (o fo la un : Nat → Int32) (um x1 x2 x3 : Int32) :
    ∃ (a : Int32) (T' : TalT) (z : CuT), mX5_rank (zI t) row T x1 x2 x3 = some (a, T') ∧ TalC T' ∧ mX6_rank th value (zI n) (zI t) o fo la un um x1 x2 x3 = some (a, 0, z) := by
  obtain ⟨l, hl, rfl⟩ := zI_ex x1
  obtain ⟨r, hr, rfl⟩ := zI_ex x2
  obtain ⟨v, hvv, rfl⟩ := zI_ex x3
  obtain ⟨hs, hn⟩ := hR.ok
  simp (disch := omega) only [mX5_rank, mX6_rank, X2_hasSpan_z hs hn hl hr, X6_isSpan_z hn hl hr, X5_isValue_z hvv, X6_isValue_z hvv, z_0, z_1, z_2, z_3, z_4, z_5, z_6, z_7, z_8, z_9, z_12, z_20, z_120, z_121, z_880, z_900, z_999, z_1000, zI_neg, zI_add, zI_sub, zI_mul, zI_lt, zI_le, zI_eq, sob, bz_0, Classical.not_not]
  by_cases c : 0 ≤ l ∧ l ≤ r ∧ r < n
  · simp only [c, not_true_eq_false, not_false_eq_true, and_self, and_true, true_and, reduceIte]
    by_cases d : 0 ≤ v ∧ v < 1000
    · simp only [d, not_true_eq_false, not_false_eq_true, and_self, and_true, true_and, reduceIte]
      obtain ⟨T', e1, h1⟩ := X5_tallySpan_z hR ht c.1 (by omega) c.2.2 hT
      obtain ⟨z, e2, h2⟩ := X6_counts_z hv c.1 (by omega) c.2.2 o fo la un um
      have cb := cnT_nn (spT V l r) v
      have ok := h1.ok.1
      have h120 := dsT_120 h1.ok
      rw [e1, sob, show zI (-1) = (-1 : Int32) from rfl, e2, sob, rd_A h1.num d.1 d.2 (by omega) (by omega), rd_A h2.num d.1 d.2 (by omega) (by omega), sob, sob]
      by_cases g : cnT (spT V l r) v = 0
      · rw [g, if_neg (fun y : ¬ zI 0 = zI 0 => y rfl), if_neg (fun y : ¬ zI 0 = zI 0 => y rfl)]
        exact ⟨_, _, _, rfl, h1.clean, rfl⟩
      · have gm : v ∈ spT V l r := (cnT_pos _ _).mp (by omega)
        have g2 : ¬ zI (cnT (spT V l r) v) = zI 0 := by rw [zI_eq (by omega) (by omega) (by omega) (by omega)]; exact g
        have e3 := X5_rank_L h1 gm (dsT (spT V l r)).length 0 FU 0 (by omega) (by rw [FU_e]; omega)
        rw [if_pos g2, if_pos g2, X6_rankOf_z h2 ht gm, sob, show zI 0 = zI ((0 : Nat) : Int) from rfl, show (zI ((0 : Nat) : Int)) = zI 0 from rfl]
        rw [show zI ((0 : Nat) : Int) = zI 0 from rfl] at e3
        rw [e3, sob, List.drop_zero, Int.zero_add]
        exact ⟨_, _, _, rfl, h1.clean, rfl⟩
    · simp only [d, not_true_eq_false, not_false_eq_true, and_self, and_true, true_and, reduceIte]
      exact ⟨_, _, (o, fo, la, un, um), rfl, hT, rfl⟩
  · simp only [c, not_true_eq_false, not_false_eq_true, and_self, and_true, true_and, reduceIte]
    exact ⟨_, _, (o, fo, la, un, um), rfl, hT, rfl⟩
theorem P_unlike {row : RowT} {value weight : Nat → Int32} {n t : Int} {V G : Int → Int} {T : TalT} (hR : Rw row n V G) (hv : Rv value weight n V G) (ht : 0 ≤ t ∧ t ≤ 3) (hT : TalC T) (th : Int32) (o fo la un : Nat → Int32) (um x1 x2 : Int32) :
    ∃ (a : Int32) (T' : TalT) (z : CuT), mX5_unlike (zI t) row T x1 x2 = some (a, T') ∧ TalC T' ∧ mX6_unlike th value (zI n) o fo la un um x1 x2 = some (a, 0, z) := by
  obtain ⟨l, hl, rfl⟩ := zI_ex x1
  obtain ⟨r, hr, rfl⟩ := zI_ex x2
  obtain ⟨hs, hn⟩ := hR.ok
  simp (disch := omega) only [mX5_unlike, mX6_unlike, X2_hasSpan_z hs hn hl hr, X6_isSpan_z hn hl hr, z_0, z_1, z_2, z_3, z_4, z_5, z_6, z_7, z_8, z_9, z_12, z_20, z_120, z_121, z_880, z_900, z_999, z_1000, zI_neg, zI_add, zI_sub, zI_mul, zI_lt, zI_le, zI_eq, sob, bz_0, Classical.not_not]
  by_cases c : 0 ≤ l ∧ l ≤ r ∧ r < n
  · simp only [c, not_true_eq_false, not_false_eq_true, and_self, and_true, true_and, reduceIte]
    obtain ⟨T', e1, h1⟩ := X5_tallySpan_z hR ht c.1 (by omega) c.2.2 hT
    obtain ⟨z, e2, h2⟩ := X6_counts_z hv c.1 (by omega) c.2.2 o fo la un um
    rw [e1, sob, show zI (-1) = (-1 : Int32) from rfl, e2, sob, h1.kinds, h2.2.2]
    exact ⟨_, _, (z.1, z.2.1, z.2.2.1, z.2.2.2.1, _), rfl, h1.clean, rfl⟩
  · simp only [c, not_true_eq_false, not_false_eq_true, and_self, and_true, true_and, reduceIte]
    exact ⟨_, _, (o, fo, la, un, um), rfl, hT, rfl⟩
/-- how many stand just c times -/
def tmT (R : List Int) (c : Int) : List Int → Int
  | [] => 0
  | v :: K => (if cnT R v = c then 1 else 0) + tmT R c K
theorem X5_times_L {t c : Int} {R : List Int} {T : TalT} (h : TalH t R T) (hc : -2147483648 ≤ c ∧ c < 2147483648) : ∀ (m i f : Nat) (a : Int), (dsT R).length = i + m → m < f → mX5_times_L31 T (zI c) f (zI a) (zI (i : Int)) = some (zI (a + tmT R c ((dsT R).drop i)))
  | m, i, 0, a, _, h => absurd h (Nat.not_lt_zero m)
  | 0, i, f + 1, a, hl, _ => by
    have h120 := dsT_120 h.ok
    rw [mX5_times_L31, h.kinds, if_pos (by rw [zI_le (by omega) (by omega) (by omega) (by omega)]; omega), List.drop_eq_nil_of_le (by omega)]
    simp only [tmT, Int.add_zero]
  | m + 1, i, f + 1, a, hl, hm => by
    have h120 := dsT_120 h.ok
    have ok := h.ok.1
    have hi : i < (dsT R).length := by omega
    have hx : (dsT R)[i] ∈ R := (mem_dsT R _).mp (List.getElem_mem hi)
    have hb := h.ok.2 _ hx
    have cb := cnT_nn R (dsT R)[i]
    rw [mX5_times_L31, if_neg (show ¬ T.2.2.2.2.1 ≤ zI (i : Int) by rw [h.kinds, zI_le (by omega) (by omega) (by omega) (by omega)]; omega), rd_L h.kind hi h120 (by omega), sob, rd_A h.num hb.1 hb.2 (by omega) (by omega), sob, zI_a1, zI_s, zI_a1, List.drop_eq_getElem_cons hi]
    simp (disch := omega) only [tmT, zI_eq]
    by_cases d : cnT R (dsT R)[i] = c
    · rw [if_neg (not_not_intro d), if_pos d, X5_times_L h hc m (i + 1) f _ (by omega) (by omega), Int.add_assoc]
    · rw [if_pos d, if_neg d, X5_times_L h hc m (i + 1) f _ (by omega) (by omega), Int.zero_add]
theorem X6_times_L {pos : Int → Int} {c : Int} {R : List Int} {z : CuT} (h : CuH pos R z) (hc : -2147483648 ≤ c ∧ c < 2147483648) : ∀ (m i f : Nat) (a : Int), (dsT R).length = i + m → m < f → mX6_times_L34 z.1 z.2.2.2.1 z.2.2.2.2 (zI c) f (zI a) (zI (i : Int)) = some (zI (a + tmT R c ((dsT R).drop i)))
  | m, i, 0, a, _, h => absurd h (Nat.not_lt_zero m)
  | 0, i, f + 1, a, hl, _ => by
    have h120 := dsT_120 h.ok
    rw [mX6_times_L34, h.2.2, if_pos (by rw [zI_le (by omega) (by omega) (by omega) (by omega)]; omega), List.drop_eq_nil_of_le (by omega)]
    simp only [tmT, Int.add_zero]
  | m + 1, i, f + 1, a, hl, hm => by
    have h120 := dsT_120 h.ok
    have ok := h.ok.1
    have hi : i < (dsT R).length := by omega
    have hx : (dsT R)[i] ∈ R := (mem_dsT R _).mp (List.getElem_mem hi)
    have hb := h.ok.2 _ hx
    have cb := cnT_nn R (dsT R)[i]
    rw [mX6_times_L34, if_neg (show ¬ z.2.2.2.2 ≤ zI (i : Int) by rw [h.2.2, zI_le (by omega) (by omega) (by omega) (by omega)]; omega), rd_L h.2.1 hi h120 (by omega), sob, rd_A h.num hb.1 hb.2 (by omega) (by omega), sob, zI_a1, zI_s, zI_a1, zI_a0, List.drop_eq_getElem_cons hi]
    simp (disch := omega) only [tmT, zI_eq]
    by_cases d : cnT R (dsT R)[i] = c
    · rw [if_neg (not_not_intro d), if_pos d, X6_times_L h hc m (i + 1) f _ (by omega) (by omega), Int.add_assoc]
    · rw [if_pos d, if_neg d, X6_times_L h hc m (i + 1) f _ (by omega) (by omega), Int.zero_add]
theorem P_times {row : RowT} {value weight : Nat → Int32} {n t : Int} {V G : Int → Int} {T : TalT} (hR : Rw row n V G) (hv : Rv value weight n V G) (ht : 0 ≤ t ∧ t ≤ 3) (hT : TalC T) (th : Int32) (o fo la un : Nat → Int32) (um x1 x2 x3 : Int32) :
    ∃ (a : Int32) (T' : TalT) (z : CuT), mX5_times (zI t) row T x1 x2 x3 = some (a, T') ∧ TalC T' ∧ mX6_times th value (zI n) o fo la un um x1 x2 x3 = some (a, 0, z) := by
  obtain ⟨l, hl, rfl⟩ := zI_ex x1
  obtain ⟨r, hr, rfl⟩ := zI_ex x2
  obtain ⟨k, hk, rfl⟩ := zI_ex x3
  obtain ⟨hs, hn⟩ := hR.ok
  simp (disch := omega) only [mX5_times, mX6_times, X2_hasSpan_z hs hn hl hr, X6_isSpan_z hn hl hr, z_0, z_1, z_2, z_3, z_4, z_5, z_6, z_7, z_8, z_9, z_12, z_20, z_120, z_121, z_880, z_900, z_999, z_1000, zI_neg, zI_add, zI_sub, zI_mul, zI_lt, zI_le, zI_eq, sob, bz_0, Classical.not_not]
  by_cases c : 0 ≤ l ∧ l ≤ r ∧ r < n
  · simp only [c, not_true_eq_false, not_false_eq_true, and_self, and_true, true_and, reduceIte]
    by_cases d : 1 ≤ k
    · rw [if_pos d, if_pos d]
      obtain ⟨T', e1, h1⟩ := X5_tallySpan_z hR ht c.1 (by omega) c.2.2 hT
      obtain ⟨z, e2, h2⟩ := X6_counts_z hv c.1 (by omega) c.2.2 o fo la un um
      have h120 := dsT_120 h1.ok
      have e3 := X5_times_L h1 hk (dsT (spT V l r)).length 0 FU 0 (by omega) (by rw [FU_e]; omega)
      have e4 := X6_times_L h2 hk (dsT (spT V l r)).length 0 FU 0 (by omega) (by rw [FU_e]; omega)
      rw [show zI ((0 : Nat) : Int) = zI 0 from rfl] at e3 e4
      rw [e1, sob, show zI (-1) = (-1 : Int32) from rfl, e2, sob, e3, e4, sob, sob]
      exact ⟨_, _, _, rfl, h1.clean, rfl⟩
    · rw [if_neg d, if_neg d]
      exact ⟨_, _, (o, fo, la, un, um), rfl, hT, rfl⟩
  · simp only [c, not_true_eq_false, not_false_eq_true, and_self, and_true, true_and, reduceIte]
    exact ⟨_, _, (o, fo, la, un, um), rfl, hT, rfl⟩
theorem X6_majorityOf_z {value weight : Nat → Int32} {n : Int} {V G : Int → Int} (hv : Rv value weight n V G) {t l r : Int} (ht : 0 ≤ t ∧ t ≤ 3) (hl : 0 ≤ l) (hlr : l ≤ r) (hr : r < n) (o fo la un : Nat → Int32) (um : Int32) :
    ∃ z : CuT, mX6_majorityOf value (zI t) o fo la un um (zI l) (zI r) = some (zI (if ((spT V l r).length : Int) < 2 * cnT (spT V l r) (bsT t (spT V l r)) then bsT t (spT V l r) else -1), z) ∧ CuH (fun i => l + i) (spT V l r) z := by
  have hn := hv.1
  obtain ⟨z, e, h⟩ := X6_modeOf_z hv ht hl (by omega) hr o fo la un um
  have hb := bsT_nn (t := t) h.ok (spT_ne hlr)
  have cb := cnT_nn (spT V l r) (bsT t (spT V l r))
  have ok := h.ok.1
  have hlen := spT_len (V := V) (l := l) (r := r) (by omega)
  refine ⟨z, ?_, h⟩
  unfold mX6_majorityOf
  rw [e, sob]
  show (rd z.1 1000 (zI (bsT t (spT V l r)))).bind _ = _
  rw [rd_A h.num hb.1 hb.2 (by omega) (by omega), sob]
  simp (disch := omega) only [z_0, z_1, z_2, z_3, z_4, z_5, z_6, z_7, z_8, z_9, z_12, z_20, z_120, z_121, z_880, z_900, z_999, z_1000, zI_neg, zI_add, zI_sub, zI_mul, zI_lt, zI_le, zI_eq, sob, bz_0, Classical.not_not]
  by_cases d : ((spT V l r).length : Int) < 2 * cnT (spT V l r) (bsT t (spT V l r))
  · rw [if_neg (by omega), if_pos d]
  · rw [if_pos (by omega), if_neg d]
theorem P_majority {row : RowT} {value weight : Nat → Int32} {n t : Int} {V G : Int → Int} {T : TalT} (hR : Rw row n V G) (hv : Rv value weight n V G) (ht : 0 ≤ t ∧ t ≤ 3) (hT : TalC T) (th : Int32) (o fo la un : Nat → Int32) (um x1 x2 : Int32) :
    ∃ (a : Int32) (T' : TalT) (z : CuT), mX5_majority (zI t) row T x1 x2 = some (a, T') ∧ TalC T' ∧ mX6_majority th value (zI n) (zI t) o fo la un um x1 x2 = some (a, 0, z) := by
  obtain ⟨l, hl, rfl⟩ := zI_ex x1
  obtain ⟨r, hr, rfl⟩ := zI_ex x2
  obtain ⟨hs, hn⟩ := hR.ok
  unfold mX5_majority mX6_majority
  rw [X2_hasSpan_z hs hn hl hr, X6_isSpan_z hn hl hr, sob, sob]
  by_cases c : 0 ≤ l ∧ l ≤ r ∧ r < n
  · rw [bz_t c, if_pos i1, if_pos i1]
    obtain ⟨T', e1, h1⟩ := X5_tallySpan_z hR ht c.1 (by omega) c.2.2 hT
    obtain ⟨z, e2, h2⟩ := X6_majorityOf_z hv ht c.1 c.2.1 c.2.2 o fo la un um
    have hb := bsT_nn (t := t) h1.ok (spT_ne c.2.1)
    rw [e1, sob, X3_hasMajority_z h1 (spT_ne c.2.1), sob, e2, sob, h1.best]
    by_cases d : ((spT V l r).length : Int) < 2 * cnT (spT V l r) (bsT t (spT V l r))
    · rw [bz_t d, if_neg i1, if_pos d, if_pos (by rw [z_m1, zI_eq (by omega) (by omega) (by omega) (by omega)]; omega)]
      exact ⟨_, _, _, rfl, h1.clean, rfl⟩
    · rw [bz_f d, if_pos rfl, if_neg d, if_neg (show ¬ ¬ zI (-1) = (-1 : Int32) from not_not_intro rfl)]
      exact ⟨_, _, _, rfl, h1.clean, rfl⟩
  · rw [bz_f c, if_neg i0n, if_neg i0n]
    exact ⟨_, _, (o, fo, la, un, um), rfl, hT, rfl⟩

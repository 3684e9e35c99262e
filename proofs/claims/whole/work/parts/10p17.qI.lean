/-! PURE ROWS. split, wide -/
theorem mxS_in {t : Int} {V : Int → Int} {n l r : Int} (hB : ∀ i, 0 ≤ i → i < n → 0 ≤ V i ∧ V i < 1000) (hl : 0 ≤ l) (hlr : l ≤ r + 1) (hr : r < n) (hn : n ≤ 120) : 0 ≤ mxS t V l r ∧ mxS t V l r ≤ 120 ∧ (l ≤ r → 1 ≤ mxS t V l r) := by
  have ok := spT_ok hB hl hlr hr hn
  have := cnT_nn (spT V l r) (bsT t (spT V l r))
  have := ok.1
  unfold mxS
  refine ⟨by omega, by omega, fun h => ?_⟩
  have hm := bsT_mem (t := t) ok (spT_ne h)
  have := (cnT_pos (spT V l r) (bsT t (spT V l r))).mpr hm
  omega
/-- pushed from r downward, k of them -/
def rvT (V : Int → Int) (r : Int) : Nat → List Int
  | 0 => []
  | k + 1 => V (r - k) :: rvT V r k
theorem rvT_len (V : Int → Int) (r : Int) : ∀ k : Nat, (rvT V r k).length = k
  | 0 => rfl
  | k + 1 => by simp only [rvT, List.length_cons, rvT_len V r k]
theorem rvT_cn (V : Int → Int) (r v : Int) : ∀ k : Nat, cnT (rvT V r k) v = ocT V v (r - k + 1) k
  | 0 => rfl
  | k + 1 => by
    simp only [rvT, cnT, ocT]
    rw [rvT_cn V r v k, show r - ((k + 1 : Nat) : Int) + 1 = r - k by omega]
    by_cases e : V (r - k) = v
    · rw [if_pos e, if_pos e.symm]
    · rw [if_neg e, if_neg (fun q => e q.symm)]
theorem rvT_mx {t : Int} {V : Int → Int} {n m r : Int} (hB : ∀ i, 0 ≤ i → i < n → 0 ≤ V i ∧ V i < 1000) (hm : 0 ≤ m) (hmr : m ≤ r + 1) (hr : r < n) (hn : n ≤ 120) (ok : okT (rvT V r (r + 1 - m).toNat)) : cnT (rvT V r (r + 1 - m).toNat) (bsT t (rvT V r (r + 1 - m).toNat)) = mxS t V m r := by
  unfold mxS
  refine mxT_eq ok (spT_ok hB hm hmr hr hn) (fun v => ?_)
  rw [rvT_cn]
  unfold spT
  rw [cnT_sp]
  simp only [cnT, Int.zero_add]
  rw [show r - ((r + 1 - m).toNat : Int) + 1 = m by omega]
theorem X5_split_1 {row : RowT} {n : Int} {V G : Int → Int} (hR : Rw row n V G) {t l r : Int} (hl : 0 ≤ l) (hr : r < n) : ∀ (k f : Nat) (m : Int) (T : TalT) (ah : Nat → Int32), k < f → l ≤ m → r = m + k → TalH t (spT V l (m - 1)) T → (∀ j, l ≤ j → j < m → ah j.toNat = zI (mxS t V l j)) →
    ∃ T' ah', mX5_split_L41 row (zI r) f (zI m) T ah = some (T', ah') ∧ TalC T' ∧ ∀ j, l ≤ j → j < r → ah' j.toNat = zI (mxS t V l j)
  | k, 0, m, T, ah, h, _, _, _, _ => absurd h (Nat.not_lt_zero k)
  | 0, f + 1, m, T, ah, _, hm, hk, hT, ha => by
    have hn := hR.1
    rw [mX5_split_L41, if_pos (show zI r ≤ zI m by rw [zI_le (by omega) (by omega) (by omega) (by omega)]; omega)]
    exact ⟨T, ah, rfl, hT.clean, fun j h0 h1 => ha j h0 (by omega)⟩
  | k + 1, f + 1, m, T, ah, h, hm, hk, hT, ha => by
    obtain ⟨hn, hs, hV, hG, hB⟩ := id hR
    obtain ⟨T1, e1, h1⟩ := X3_more_z hR hl hm (by omega) hT
    rw [mX5_split_L41, if_neg (show ¬ zI r ≤ zI m by rw [zI_le (by omega) (by omega) (by omega) (by omega)]; omega), rd_A hV (by omega) (by omega) (by omega) (by omega), sob, e1, sob, X3_most_mx h1, sob, wr_in (by omega) (by omega) (by omega), sob, zI_a1]
    exact X5_split_1 hR hl hr k f (m + 1) T1 _ (by omega) (by omega) (by omega) (by rw [show m + 1 - 1 = m by omega]; exact h1) (fun j h0 h2 => by
      rw [upd_at (by omega) (by omega)]
      by_cases e : j = m
      · rw [if_pos e, e]; rfl
      · rw [if_neg e]; exact ha j h0 (by omega))
def spF (t : Int) (V : Int → Int) (l r m : Int) : Int := mxS t V l m + mxS t V (m + 1) r
/-- (b, s): the most of l .. r - 1, the least of several -/
def spB (t : Int) (V : Int → Int) (l r b s : Int) : Prop := (l ≤ b ∧ b < r ∧ s = spF t V l r b) ∧ ∀ j, l ≤ j → j < r → spF t V l r j ≤ s ∧ (spF t V l r j = s → b ≤ j)
theorem spB_uq {t : Int} {V : Int → Int} {l r b s b2 s2 : Int} (h : spB t V l r b s) (h2 : spB t V l r b2 s2) : b = b2 ∧ s = s2 := by
  obtain ⟨⟨a1, a2, a3⟩, a4⟩ := h
  obtain ⟨⟨c1, c2, c3⟩, c4⟩ := h2
  have p := a4 b2 c1 c2
  have q := c4 b a1 a2
  omega
theorem X5_split_2 {row : RowT} {n : Int} {V G : Int → Int} (hR : Rw row n V G) {t l r : Int} (hl : 0 ≤ l) (hr : r < n) {ah : Nat → Int32} (ha : ∀ j, l ≤ j → j < r → ah j.toNat = zI (mxS t V l j)) : ∀ (k f : Nat) (b s m : Int) (T : TalT), k < f → m + 1 = l + k → m < r → TalH t (rvT V r (r + 1 - (m + 2)).toNat) T → ((m = r - 1 ∧ s = 0) ∨ (True ∧ (l ≤ b ∧ m < b ∧ b < r ∧ s = spF t V l r b) ∧ ∀ j, m < j → j < r → spF t V l r j ≤ s ∧ (spF t V l r j = s → b ≤ j))) → (0 < k ∨ m < r - 1) → l ≤ b ∧ b ≤ 120 →
    ∃ b' s' T', mX5_split_L106 row ah (zI l) f (zI b) (zI s) (zI m) T = some (zI b', zI s', T') ∧ TalC T' ∧ spB t V l r b' s'
  | k, 0, b, s, m, T, h, _, _, _, _, _, _ => absurd h (Nat.not_lt_zero k)
  | 0, f + 1, b, s, m, T, _, hk, hmr, hT, hi, hpos, hb => by
    have hn := hR.1
    rw [mX5_split_L106, if_pos (show zI m < zI l by rw [zI_lt (by omega) (by omega) (by omega) (by omega)]; omega)]
    refine ⟨b, s, T, rfl, hT.clean, ?_⟩
    rcases hi with ⟨h1, h2⟩ | ⟨_, h1, h2⟩
    · omega
    · exact ⟨⟨h1.1, h1.2.2.1, h1.2.2.2⟩, fun j h3 h4 => h2 j (by omega) h4⟩
  | k + 1, f + 1, b, s, m, T, h, hk, hmr, hT, hi, hpos, hb => by
    obtain ⟨hn, hs, hV, hG, hB⟩ := id hR
    have hBv := hR.bv
    have ok2 : okT (V (m + 1) :: rvT V r (r + 1 - (m + 2)).toNat) := okT_cons (hBv (m + 1) (by omega) (by omega)) hT.ok (by rw [rvT_len]; omega)
    obtain ⟨T1, e1, h1⟩ := X3_push_z hT (x := V (m + 1)) ok2
    have hrv : V (m + 1) :: rvT V r (r + 1 - (m + 2)).toNat = rvT V r (r + 1 - (m + 1)).toNat := by
      rw [show (r + 1 - (m + 1)).toNat = (r + 1 - (m + 2)).toNat + 1 by omega]
      simp only [rvT]
      rw [show r - ((r + 1 - (m + 2)).toNat : Int) = m + 1 by omega]
    rw [hrv] at h1 ok2
    have hmx := rvT_mx (t := t) hBv (show 0 ≤ m + 1 by omega) (by omega) hr hn.2 ok2
    have m1 := mxS_in (t := t) hBv hl (show l ≤ m + 1 by omega) (by omega) hn.2
    have m2 := mxS_in (t := t) hBv (show 0 ≤ m + 1 by omega) (by omega) hr hn.2
    have hf : spF t V l r m = mxS t V l m + mxS t V (m + 1) r := rfl
    have hsb : -1000 ≤ s ∧ s ≤ 1000 := by
      rcases hi with ⟨_, h2⟩ | ⟨_, h2, _⟩
      · omega
      · have m3 := mxS_in (t := t) hBv hl (show l ≤ b + 1 by omega) (by omega) hn.2
        have m4 := mxS_in (t := t) hBv (show 0 ≤ b + 1 by omega) (show b + 1 ≤ r + 1 by omega) hr hn.2
        have : spF t V l r b = mxS t V l b + mxS t V (b + 1) r := rfl
        omega
    rw [mX5_split_L106, if_neg (show ¬ zI m < zI l by rw [zI_lt (by omega) (by omega) (by omega) (by omega)]; omega), zI_a1, rd_A hV (by omega) (by omega) (by omega) (by omega), sob, e1, sob, rd_in (by omega) (by omega) (by omega), ha m (by omega) hmr, sob, X3_most_mx h1, hmx, sob, sob, sob, zI_add, ← hf, zI_d1]
    have hT' : TalH t (rvT V r (r + 1 - (m - 1 + 2)).toNat) T1 := by rw [show m - 1 + 2 = m + 1 by omega]; exact h1
    by_cases c : spF t V l r m < s
    · rw [if_pos (show zI (spF t V l r m) < zI s by rw [zI_lt (by omega) (by omega) (by omega) (by omega)]; exact c)]
      refine X5_split_2 hR hl hr ha k f b s (m - 1) T1 (by omega) (by omega) (by omega) hT' (Or.inr ⟨trivial, ?_⟩) (Or.inr (by omega)) hb
      rcases hi with ⟨_, h2⟩ | ⟨_, h2, h3⟩
      · omega
      · exact ⟨⟨h2.1, by omega, h2.2.2.1, h2.2.2.2⟩, fun j h4 h5 => by
          by_cases e : j = m
          · rw [e]; omega
          · exact h3 j (by omega) h5⟩
    · rw [if_neg (show ¬ zI (spF t V l r m) < zI s by rw [zI_lt (by omega) (by omega) (by omega) (by omega)]; exact c)]
      refine X5_split_2 hR hl hr ha k f m (spF t V l r m) (m - 1) T1 (by omega) (by omega) (by omega) hT' (Or.inr ⟨trivial, ⟨by omega, by omega, hmr, rfl⟩, fun j h4 h5 => ?_⟩) (Or.inr (by omega)) (by omega)
      by_cases e : j = m
      · rw [e]; omega
      · rcases hi with ⟨h2, _⟩ | ⟨_, h2, h3⟩
        · omega
        · have := h3 j (by omega) h5; omega
theorem X6_split_L {value weight : Nat → Int32} {n : Int} {V G : Int → Int} (hv : Rv value weight n V G) {t l r : Int} (ht : 0 ≤ t ∧ t ≤ 3) (hl : 0 ≤ l) (hlr : l < r) (hr : r < n) : ∀ (k f : Nat) (b s m : Int) (o fo la un : Nat → Int32) (um : Int32), k < f → l ≤ m → r = m + k → ((m = l ∧ s = -1) ∨ ((l ≤ b ∧ b < m ∧ s = spF t V l r b) ∧ ∀ j, l ≤ j → j < m → spF t V l r j ≤ s ∧ (spF t V l r j = s → b ≤ j))) → l ≤ b ∧ b ≤ 120 →
    ∃ (b' s' : Int) (z : CuT), mX6_split_L39 value (zI t) (zI l) (zI r) f (zI b) (zI s) (zI m) o fo la un um = some (zI b', zI s', z) ∧ spB t V l r b' s'
  | k, 0, b, s, m, o, fo, la, un, um, h, _, _, _, _ => absurd h (Nat.not_lt_zero k)
  | 0, f + 1, b, s, m, o, fo, la, un, um, _, hm, hk, hi, hb => by
    have hn := hv.1
    rw [mX6_split_L39, if_pos (show zI r ≤ zI m by rw [zI_le (by omega) (by omega) (by omega) (by omega)]; omega)]
    refine ⟨b, s, (o, fo, la, un, um), rfl, ?_⟩
    rcases hi with hi | ⟨h1, h2⟩
    · omega
    · exact ⟨⟨h1.1, by omega, h1.2.2⟩, fun j h3 h4 => h2 j h3 (by omega)⟩
  | k + 1, f + 1, b, s, m, o, fo, la, un, um, h, hm, hk, hi, hb => by
    have hn := hv.1
    have hBv := hv.bv
    obtain ⟨z1, e1, h1⟩ := X6_modeOf_z hv ht hl (show l ≤ m + 1 by omega) (by omega) o fo la un um
    obtain ⟨z2, e2, h2⟩ := X6_modeOf_z hv ht (l := m + 1) (r := r) (by omega) (by omega) hr z1.1 z1.2.1 z1.2.2.1 z1.2.2.2.1 z1.2.2.2.2
    have b1 := bsT_nn (t := t) h1.ok (spT_ne hm)
    have b2 := bsT_nn (t := t) h2.ok (spT_ne (by omega))
    have m1 := mxS_in (t := t) hBv hl (show l ≤ m + 1 by omega) (by omega) hn.2
    have m2 := mxS_in (t := t) hBv (show 0 ≤ m + 1 by omega) (show m + 1 ≤ r + 1 by omega) hr hn.2
    have hf : spF t V l r m = mxS t V l m + mxS t V (m + 1) r := rfl
    have hsb : -1000 ≤ s ∧ s ≤ 1000 := by
      rcases hi with ⟨_, h2⟩ | ⟨h2, _⟩
      · omega
      · have m3 := mxS_in (t := t) hBv hl (show l ≤ b + 1 by omega) (by omega) hn.2
        have m4 := mxS_in (t := t) hBv (show 0 ≤ b + 1 by omega) (show b + 1 ≤ r + 1 by omega) hr hn.2
        have : spF t V l r b = mxS t V l b + mxS t V (b + 1) r := rfl
        omega
    rw [mX6_split_L39, if_neg (show ¬ zI r ≤ zI m by rw [zI_le (by omega) (by omega) (by omega) (by omega)]; omega), e1, sob]
    simp only []
    rw [rd_A h1.num b1.1 b1.2 (by omega) (by omega), sob, zI_a1, e2, sob]
    simp only []
    rw [rd_A h2.num b2.1 b2.2 (by omega) (by omega), sob, zI_add, show cnT (spT V l m) (bsT t (spT V l m)) + cnT (spT V (m + 1) r) (bsT t (spT V (m + 1) r)) = spF t V l r m from rfl]
    by_cases c : s < spF t V l r m
    · rw [if_pos (show zI s < zI (spF t V l r m) by rw [zI_lt (by omega) (by omega) (by omega) (by omega)]; exact c)]
      refine X6_split_L hv ht hl hlr hr k f m (spF t V l r m) (m + 1) z2.1 z2.2.1 z2.2.2.1 z2.2.2.2.1 z2.2.2.2.2 (by omega) (by omega) (by omega) (Or.inr ⟨⟨by omega, by omega, rfl⟩, fun j h4 h5 => ?_⟩) (by omega)
      by_cases e : j = m
      · rw [e]; omega
      · rcases hi with ⟨h2, _⟩ | ⟨h2, h3⟩
        · omega
        · have := h3 j h4 (by omega); omega
    · rw [if_neg (show ¬ zI s < zI (spF t V l r m) by rw [zI_lt (by omega) (by omega) (by omega) (by omega)]; exact c)]
      rcases hi with ⟨h2, h3⟩ | ⟨h2, h3⟩
      · omega
      · exact X6_split_L hv ht hl hlr hr k f b s (m + 1) z2.1 z2.2.1 z2.2.2.1 z2.2.2.2.1 z2.2.2.2.2 (by omega) (by omega) (by omega) (Or.inr ⟨⟨h2.1, by omega, h2.2.2⟩, fun j h4 h5 => by
          by_cases e : j = m
          · rw [e]; omega
          · exact h3 j h4 (by omega)⟩) hb
theorem P_split {row : RowT} {value weight : Nat → Int32} {n t : Int} {V G : Int → Int} {T : TalT} (hR : Rw row n V G) (hv : Rv value weight n V G) (ht : 0 ≤ t ∧ t ≤ 3) (hT : TalC T) (th : Int32) (ah : Nat → Int32) (o fo la un : Nat → Int32) (um x1 x2 x3 : Int32) :
    ∃ (a : Int32) (T' : TalT) (ah' : Nat → Int32) (z : CuT), mX5_split (zI t) row T ah x1 x2 x3 = some (a, T', ah') ∧ TalC T' ∧ mX6_split th value (zI n) (zI t) o fo la un um x1 x2 x3 = some (a, 0, z) := by
  obtain ⟨l, hl, rfl⟩ := zI_ex x1
  obtain ⟨r, hr, rfl⟩ := zI_ex x2
  obtain ⟨w, hw, rfl⟩ := zI_ex x3
  obtain ⟨hs, hn⟩ := hR.ok
  simp (disch := omega) only [mX5_split, mX6_split, X2_hasSpan_z hs hn hl hr, X6_isSpan_z hn hl hr, X5_isBelow_z hw, z_0, z_1, z_2, z_3, z_4, z_5, z_6, z_7, z_8, z_9, z_12, z_20, z_120, z_121, z_880, z_900, z_999, z_1000, zI_neg, zI_add, zI_sub, zI_mul, zI_lt, zI_le, zI_eq, sob, bz_0, Classical.not_not]
  by_cases c : 0 ≤ l ∧ l ≤ r ∧ r < n
  · simp only [c, not_true_eq_false, not_false_eq_true, and_self, and_true, true_and, reduceIte]
    by_cases lr : l = r
    · rw [if_pos lr, if_pos lr]; exact ⟨_, _, _, (o, fo, la, un, um), rfl, hT, rfl⟩
    · rw [if_neg lr, if_neg lr]
      by_cases d : 0 ≤ w ∧ w < 2
      · rw [if_pos d, if_neg (show ¬ w < 0 by omega), if_pos (show w ≤ 1 by omega)]
        obtain ⟨T1, e1, h1⟩ := X3_begin_z hT ht
        obtain ⟨T2, ah', e2, h2, h3⟩ := X5_split_1 hR c.1 c.2.2 (r - l).toNat FU l T1 ah (by rw [FU_e]; omega) (by omega) (by omega) (by rw [spT_nil (by omega)]; exact h1) (fun j h0 h1 => by omega)
        obtain ⟨T3, e3, h4⟩ := X3_begin_z h2 ht
        obtain ⟨b, s, T4, e4, h5, h6⟩ := X5_split_2 hR c.1 c.2.2 h3 (r - l).toNat FU l 0 (r - 1) T3 (by rw [FU_e]; omega) (by omega) (by omega) (by rw [show (r + 1 - (r - 1 + 2)).toNat = 0 by omega]; exact h4) (Or.inl ⟨rfl, rfl⟩) (Or.inl (by omega)) (by omega)
        obtain ⟨b2, s2, z, e5, h7⟩ := X6_split_L hv ht c.1 (show l < r by omega) c.2.2 (r - l).toNat FU l (-1) l o fo la un um (by rw [FU_e]; omega) (by omega) (by omega) (Or.inl ⟨rfl, rfl⟩) (by omega)
        obtain ⟨rfl, rfl⟩ := spB_uq h6 h7
        rw [e1, sob, e2, sob, e3, sob, e4, sob, e5, sob]
        by_cases w0 : w = 0
        · rw [if_neg (not_not_intro w0), if_neg (not_not_intro w0)]; exact ⟨_, _, _, _, rfl, h5, rfl⟩
        · rw [if_pos w0, if_pos w0]; exact ⟨_, _, _, _, rfl, h5, rfl⟩
      · rw [if_neg d]
        by_cases w0 : w < 0
        · rw [if_pos w0]; exact ⟨_, _, _, (o, fo, la, un, um), rfl, hT, rfl⟩
        · rw [if_neg w0, if_neg (show ¬ w ≤ 1 by omega)]; exact ⟨_, _, _, (o, fo, la, un, um), rfl, hT, rfl⟩
  · simp only [c, not_true_eq_false, not_false_eq_true, and_self, and_true, true_and, reduceIte]
    exact ⟨_, _, _, (o, fo, la, un, um), rfl, hT, rfl⟩

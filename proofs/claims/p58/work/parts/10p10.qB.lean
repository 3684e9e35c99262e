/-! PURE ROWS. More questions of spans -/
theorem P_window {row : RowT} {value weight : Nat → Int32} {n t : Int} {V G : Int → Int} {T : TalT} (hR : Rw row n V G) (hv : Rv value weight n V G) (ht : 0 ≤ t ∧ t ≤ 3) (hT : TalC T) (th : Int32) (o fo la un : Nat → Int32) (um x1 x2 : Int32) :
    ∃ (a : Int32) (T' : TalT) (z : CuT), mX5_window (zI t) row T x1 x2 = some (a, T') ∧ TalC T' ∧ mX6_window th value (zI n) (zI t) o fo la un um x1 x2 = some (a, 0, z) := by
  obtain ⟨w, hw, rfl⟩ := zI_ex x1
  obtain ⟨k, hk, rfl⟩ := zI_ex x2
  obtain ⟨hs, hn⟩ := hR.ok
  simp (disch := omega) only [mX5_window, mX6_window, hs, z_0, z_1, zI_lt, zI_le, zI_neg]
  by_cases c : w < 1
  · rw [if_pos c, if_pos c]; exact ⟨_, _, (o, fo, la, un, um), rfl, hT, rfl⟩
  · rw [if_neg c, if_neg c]
    by_cases c2 : n < w
    · rw [if_pos c2, if_pos c2]; exact ⟨_, _, (o, fo, la, un, um), rfl, hT, rfl⟩
    · rw [if_neg c2, if_neg c2]
      by_cases c3 : 0 ≤ k
      · rw [if_pos c3, if_pos c3]
        simp (disch := omega) only [zI_sub, zI_le]
        by_cases c4 : k ≤ n - w
        · rw [if_pos c4, if_pos c4, zI_add, zI_sub]
          obtain ⟨T', e1, h1⟩ := X5_modeOf_z hR ht (l := k) (r := k + w - 1) (by omega) (by omega) (by omega) hT
          obtain ⟨z, e2, h2⟩ := X6_modeOf_z hv ht (l := k) (r := k + w - 1) (by omega) (by omega) (by omega) o fo la un um
          rw [e1, sob, e2, sob]
          exact ⟨_, _, _, rfl, h1.clean, rfl⟩
        · rw [if_neg c4, if_neg c4]; exact ⟨_, _, (o, fo, la, un, um), rfl, hT, rfl⟩
      · rw [if_neg c3, if_neg c3]; exact ⟨_, _, (o, fo, la, un, um), rfl, hT, rfl⟩
theorem P_agree {row : RowT} {value weight : Nat → Int32} {n t : Int} {V G : Int → Int} {T : TalT} (hR : Rw row n V G) (hv : Rv value weight n V G) (ht : 0 ≤ t ∧ t ≤ 3) (hT : TalC T) (th : Int32) (o fo la un : Nat → Int32) (um x1 x2 x3 : Int32) :
    ∃ (a : Int32) (T' : TalT) (z : CuT), mX5_agree (zI t) row T x1 x2 x3 = some (a, T') ∧ TalC T' ∧ mX6_agree th value (zI n) (zI t) o fo la un um x1 x2 x3 = some (a, 0, z) := by
  obtain ⟨l, hl, rfl⟩ := zI_ex x1
  obtain ⟨m, hm, rfl⟩ := zI_ex x2
  obtain ⟨r, hr, rfl⟩ := zI_ex x3
  obtain ⟨hs, hn⟩ := hR.ok
  unfold mX5_agree mX6_agree
  rw [X2_hasSpan_z hs hn hl hm, X6_isSpan_z hn hl hm, sob, sob]
  by_cases c : 0 ≤ l ∧ l ≤ m ∧ m < n
  · rw [bz_t c, if_neg i1, if_neg i1, zI_a1, X2_hasSpan_z hs hn (by omega) hr, X6_isSpan_z hn (by omega) hr, sob, sob]
    by_cases d : 0 ≤ m + 1 ∧ m + 1 ≤ r ∧ r < n
    · rw [bz_t d, if_pos i1, if_pos i1]
      obtain ⟨T', e1, h1⟩ := X5_modeOf_z hR ht (l := l) (r := m) (by omega) (by omega) (by omega) hT
      obtain ⟨T2, e2, h2⟩ := X5_modeOf_z hR ht (l := m + 1) (r := r) (by omega) (by omega) (by omega) h1.clean
      obtain ⟨z, e3, h3⟩ := X6_modeOf_z hv ht (l := l) (r := m) (by omega) (by omega) (by omega) o fo la un um
      obtain ⟨z2, e4, h4⟩ := X6_modeOf_z hv ht (l := m + 1) (r := r) (by omega) (by omega) (by omega) z.1 z.2.1 z.2.2.1 z.2.2.2.1 z.2.2.2.2
      have b1 := bsT_nn (t := t) h1.ok (spT_ne (by omega))
      have b2 := bsT_nn (t := t) h2.ok (spT_ne (by omega))
      rw [e1, sob, e2, sob, e3, sob, e4, sob]
      simp only []
      simp (disch := omega) only [zI_eq]
      by_cases e : bsT t (spT V l m) = bsT t (spT V (m + 1) r)
      · rw [if_neg (not_not_intro e), if_neg (not_not_intro e.symm)]; exact ⟨_, _, _, rfl, h2.clean, rfl⟩
      · rw [if_pos e, if_pos (fun y => e y.symm)]; exact ⟨_, _, _, rfl, h2.clean, rfl⟩
    · rw [bz_f d, if_neg i0n, if_neg i0n]; exact ⟨_, _, (o, fo, la, un, um), rfl, hT, rfl⟩
  · rw [bz_f c, if_pos rfl, if_pos rfl]; exact ⟨_, _, (o, fo, la, un, um), rfl, hT, rfl⟩
/-! ifTies -/
theorem X5_ifTies_L {row : RowT} {x3 : Int32} : ∀ (f : Nat) (x : Int32) (T : TalT), mX5_ifTies_L34 row x3 f x T = mX5_tallySpan_L13 row x3 f x T
  | 0, x, T => rfl
  | f + 1, x, T => by
    rw [mX5_ifTies_L34, mX5_tallySpan_L13]
    simp only [X5_ifTies_L f]
theorem P_ifTies {row : RowT} {value weight : Nat → Int32} {n : Int} {V G : Int → Int} {T : TalT} (hR : Rw row n V G) (hv : Rv value weight n V G) (hT : TalC T) (th : Int32) (o fo la un : Nat → Int32) (um x1 x2 x3 : Int32) :
    ∃ (a : Int32) (T' : TalT) (z : CuT), mX5_ifTies row T x1 x2 x3 = some (a, T') ∧ TalC T' ∧ mX6_ifTies th value (zI n) o fo la un um x1 x2 x3 = some (a, 0, z) := by
  obtain ⟨t, htt, rfl⟩ := zI_ex x1
  obtain ⟨l, hl, rfl⟩ := zI_ex x2
  obtain ⟨r, hr, rfl⟩ := zI_ex x3
  obtain ⟨hs, hn⟩ := hR.ok
  simp (disch := omega) only [mX5_ifTies, mX6_ifTies, X2_hasSpan_z hs hn hl hr, X6_isSpan_z hn hl hr, z_0, z_1, z_2, z_3, z_4, z_5, z_6, z_7, z_8, z_9, z_12, z_20, z_120, z_121, z_880, z_900, z_999, z_1000, zI_neg, zI_add, zI_sub, zI_mul, zI_lt, zI_le, zI_eq, sob, bz_0, Classical.not_not]
  by_cases c0 : t < 0
  · rw [if_pos c0, if_pos c0]; exact ⟨_, _, (o, fo, la, un, um), rfl, hT, rfl⟩
  · rw [if_neg c0, if_neg c0]
    by_cases c3 : 3 < t
    · rw [if_pos c3, if_pos c3]; exact ⟨_, _, (o, fo, la, un, um), rfl, hT, rfl⟩
    · rw [if_neg c3, if_neg c3]
      by_cases c : 0 ≤ l ∧ l ≤ r ∧ r < n
      · simp only [c, not_true_eq_false, not_false_eq_true, and_self, and_true, true_and, reduceIte]
        obtain ⟨T1, e1, h1⟩ := X3_begin_z hT (t := t) (by omega)
        obtain ⟨T2, e2, h2⟩ := X5_span_L hR c.2.2 (r + 1 - l).toNat FU l [] T1 (by rw [FU_e]; omega) c.1 (by omega) (by simp only [List.length_nil]; omega) h1
        obtain ⟨z, e3, h3⟩ := X6_counts_z hv c.1 (by omega) c.2.2 o fo la un um
        rw [e1, sob, X5_ifTies_L, e2, sob, show zI (-1) = (-1 : Int32) from rfl, e3, sob, X6_modeBy_z h3 (by omega), sob, h2.best]
        exact ⟨_, _, _, rfl, h2.clean, rfl⟩
      · simp only [c, not_true_eq_false, not_false_eq_true, and_self, and_true, true_and, reduceIte]
        exact ⟨_, _, (o, fo, la, un, um), rfl, hT, rfl⟩
/-! median -/
def mdT (R : List Int) : Int → Int → Nat → Int
  | _, _, 0 => -1
  | a, v, k + 1 => if a - cnT R v < 0 then v else mdT R (a - cnT R v) (v + 1) k
def suT (R : List Int) : Int → Nat → Int
  | _, 0 => 0
  | v, k + 1 => cnT R v + suT R (v + 1) k
theorem suT_nil : ∀ (k : Nat) (v : Int), suT [] v k = 0
  | 0, v => rfl
  | k + 1, v => by simp only [suT, cnT, suT_nil k, Int.add_zero]
theorem suT_cons (x : Int) (R : List Int) : ∀ (k : Nat) (v : Int), suT (x :: R) v k = suT R v k + if v ≤ x ∧ x < v + k then 1 else 0
  | 0, v => by
    simp only [suT]
    rw [if_neg (by omega)]; rfl
  | k + 1, v => by
    simp only [suT, cnT]
    rw [suT_cons x R k (v + 1)]
    by_cases e : v = x
    · rw [if_pos e, if_neg (by omega), if_pos (by omega)]; omega
    · rw [if_neg e]
      by_cases d : v + 1 ≤ x ∧ x < v + 1 + k
      · rw [if_pos d, if_pos (by omega)]; omega
      · rw [if_neg d, if_neg (by omega)]; omega
theorem suT_all : ∀ (R : List Int), (∀ v ∈ R, 0 ≤ v ∧ v < 1000) → suT R 0 1000 = R.length
  | [], _ => suT_nil 1000 0
  | x :: R, h => by
    have hx := h x List.mem_cons_self
    rw [suT_cons, suT_all R (fun v hv => h v (List.mem_cons_of_mem _ hv)), if_pos (by omega), List.length_cons]
    omega
theorem X5_median_L {t : Int} {R : List Int} {T : TalT} (h : TalH t R T) : ∀ (k f : Nat) (a v : Int), k < f → 0 ≤ v → 1000 = v + k → 0 ≤ a → a ≤ 1000 → mX5_median_L29 T f (zI a) (zI v) = some (zI (mdT R a v k), T)
  | k, 0, a, v, h, _, _, _, _ => absurd h (Nat.not_lt_zero k)
  | 0, f + 1, a, v, _, hv, hk, ha, ha2 => by
    simp (disch := omega) only [mX5_median_L29, z_0, z_1, z_2, z_3, z_4, z_5, z_6, z_7, z_8, z_9, z_12, z_20, z_120, z_121, z_880, z_900, z_999, z_1000, zI_neg, zI_add, zI_sub, zI_mul, zI_lt, zI_le, zI_eq, sob, bz_0, Classical.not_not]
    rw [if_pos (by omega)]
    rfl
  | k + 1, f + 1, a, v, hf, hv, hk, ha, ha2 => by
    have cb := cnT_nn R v
    have ok := h.ok.1
    simp (disch := omega) only [mX5_median_L29, rd_A h.num, z_0, z_1, z_2, z_3, z_4, z_5, z_6, z_7, z_8, z_9, z_12, z_20, z_120, z_121, z_880, z_900, z_999, z_1000, zI_neg, zI_add, zI_sub, zI_mul, zI_lt, zI_le, zI_eq, sob, bz_0, Classical.not_not]
    rw [if_neg (show ¬ 1000 ≤ v by omega)]
    simp only [mdT]
    by_cases d : a - cnT R v < 0
    · rw [if_neg (by omega), if_pos d]
    · rw [if_pos (by omega), if_neg d, X5_median_L h k f _ _ (by omega) (by omega) (by omega) (by omega) (by omega)]
theorem X6_median_L {pos : Int → Int} {R : List Int} {z : CuT} (h : CuH pos R z) : ∀ (k f : Nat) (a v : Int), k < f → 0 ≤ v → 1000 = v + k → 0 ≤ a → a ≤ 1000 → a < suT R v k → mX6_median_L32 z.1 f (zI a) (zI v) = some (zI (mdT R a v k)) ∧ mdT R a v k ≠ -1
  | k, 0, a, v, h, _, _, _, _, _ => absurd h (Nat.not_lt_zero k)
  | 0, f + 1, a, v, _, hv, hk, ha, ha2, hs => by simp only [suT] at hs; omega
  | k + 1, f + 1, a, v, hf, hv, hk, ha, ha2, hs => by
    have cb := cnT_nn R v
    have ok := h.ok.1
    simp (disch := omega) only [mX6_median_L32, rd_A h.num, z_0, z_1, z_2, z_3, z_4, z_5, z_6, z_7, z_8, z_9, z_12, z_20, z_120, z_121, z_880, z_900, z_999, z_1000, zI_neg, zI_add, zI_sub, zI_mul, zI_lt, zI_le, zI_eq, sob, bz_0, Classical.not_not]
    simp only [mdT]
    simp only [suT] at hs
    by_cases d : a - cnT R v < 0
    · rw [if_pos (by omega), if_pos d]; exact ⟨rfl, by omega⟩
    · rw [if_neg (by omega), if_neg d]
      exact X6_median_L h k f _ _ (by omega) (by omega) (by omega) (by omega) (by omega) (by omega)
theorem P_median {row : RowT} {value weight : Nat → Int32} {n t : Int} {V G : Int → Int} {T : TalT} (hR : Rw row n V G) (hv : Rv value weight n V G) (ht : 0 ≤ t ∧ t ≤ 3) (hT : TalC T) (th : Int32) (o fo la un : Nat → Int32) (um x1 x2 : Int32) :
    ∃ (a : Int32) (T' : TalT) (z : CuT), mX5_median (zI t) row T x1 x2 = some (a, T') ∧ TalC T' ∧ mX6_median th value (zI n) o fo la un um x1 x2 = some (a, 0, z) := by
  obtain ⟨l, hl, rfl⟩ := zI_ex x1
  obtain ⟨r, hr, rfl⟩ := zI_ex x2
  obtain ⟨hs, hn⟩ := hR.ok
  simp (disch := omega) only [mX5_median, mX6_median, X2_hasSpan_z hs hn hl hr, X6_isSpan_z hn hl hr, z_0, z_1, z_2, z_3, z_4, z_5, z_6, z_7, z_8, z_9, z_12, z_20, z_120, z_121, z_880, z_900, z_999, z_1000, zI_neg, zI_add, zI_sub, zI_mul, zI_lt, zI_le, zI_eq, sob, bz_0, Classical.not_not]
  by_cases c : 0 ≤ l ∧ l ≤ r ∧ r < n
  · simp only [c, not_true_eq_false, not_false_eq_true, and_self, and_true, true_and, reduceIte]
    obtain ⟨T', e1, h1⟩ := X5_tallySpan_z hR ht c.1 (by omega) c.2.2 hT
    obtain ⟨z, e2, h2⟩ := X6_counts_z hv c.1 (by omega) c.2.2 o fo la un um
    have hlen := spT_len (V := V) (l := l) (r := r) (by omega)
    have hsu := suT_all (spT V l r) h1.ok.2
    rw [e1, sob, idv_z (by omega) (by omega) (by omega) (by omega), sob, sob, X5_median_L h1 1000 FU _ 0 (by rw [FU_e]; omega) (by omega) (by omega) (by omega) (by omega), show zI (-1) = (-1 : Int32) from rfl, e2, sob, (X6_median_L h2 1000 FU ((r - l) / 2) 0 (by rw [FU_e]; omega) (by omega) (by omega) (by omega) (by omega) (by omega)).1, sob]
    exact ⟨_, _, _, rfl, h1.clean, rfl⟩
  · simp only [c, not_true_eq_false, not_false_eq_true, and_self, and_true, true_and, reduceIte]
    exact ⟨_, _, (o, fo, la, un, um), rfl, hT, rfl⟩
/-! heaviest -/
theorem owT_nn {V G : Int → Int} {n : Int} (hG : ∀ i, 0 ≤ i → i < n → 1 ≤ G i ∧ G i ≤ 9) (v : Int) : ∀ (k : Nat) (p : Int), 0 ≤ p → p + k ≤ n → 0 ≤ owT V G v p k ∧ owT V G v p k ≤ 9 * k
  | 0, p, _, _ => by simp only [owT]; omega
  | k + 1, p, hp, hk => by
    have h := owT_nn (V := V) hG v k (p + 1) (by omega) (by omega)
    have hg := hG p hp (by omega)
    simp only [owT]
    by_cases e : V p = v
    · rw [if_pos e]; omega
    · rw [if_neg e]; omega
theorem owT_pos {V G : Int → Int} {n : Int} (hG : ∀ i, 0 ≤ i → i < n → 1 ≤ G i ∧ G i ≤ 9) (v : Int) : ∀ (k : Nat) (p : Int), 0 ≤ p → p + k ≤ n → (∃ i, p ≤ i ∧ i < p + k ∧ V i = v) → 1 ≤ owT V G v p k
  | 0, p, _, _, ⟨i, h1, h2, _⟩ => by omega
  | k + 1, p, hp, hk, ⟨i, h1, h2, h3⟩ => by
    have h := owT_nn (V := V) hG v k (p + 1) (by omega) (by omega)
    have hg := hG p hp (by omega)
    simp only [owT]
    by_cases e : V p = v
    · rw [if_pos e]; omega
    · rw [if_neg e]
      have := owT_pos hG v k (p + 1) (by omega) (by omega) ⟨i, by rcases Int.lt_or_eq_of_le h1 with q | q; omega; rw [q] at e; exact absurd h3 e, by omega, h3⟩
      omega
theorem X56_heavy_L {row : RowT} {value weight : Nat → Int32} {n t l r : Int} {V G : Int → Int} {T : TalT} {z : CuT} (hR : Rw row n V G) (hv : Rv value weight n V G) (ht : 0 ≤ t ∧ t ≤ 3) (hl : 0 ≤ l) (hlr : l ≤ r) (hr : r < n) (h : TalH t (spT V l r) T) (h2 : CuH (fun i => l + i) (spT V l r) z) :
    ∀ (m i f f' : Nat) (b a b' : Int), (dsT (spT V l r)).length = i + m → m < f → m < f' → 0 ≤ a → a ≤ 2000 → b ∈ spT V l r → ((a = 0 ∧ b' = -1) ∨ (0 < a ∧ b' = b)) →
    ∃ b2 a2 b2', mX5_heaviest_L43 row T (zI l) (zI r) f (zI b) (zI a) (zI (i : Int)) = some (zI b2, zI a2) ∧ mX6_heaviest_L41 value weight (zI t) z.1 z.2.1 z.2.2.1 z.2.2.2.1 z.2.2.2.2 (zI l) (zI r) f' (zI b') (zI a) (zI (i : Int)) = some (zI b2', zI a2) ∧ ((a2 = 0 ∧ b2' = -1) ∨ (0 < a2 ∧ b2' = b2)) ∧ (0 < m → 0 < a2) ∧ a ≤ a2
  | m, i, 0, f', b, a, b', _, h, _, _, _, _, _ => absurd h (Nat.not_lt_zero m)
  | m, i, f + 1, 0, b, a, b', _, _, h, _, _, _, _ => absurd h (Nat.not_lt_zero m)
  | 0, i, f + 1, f' + 1, b, a, b', hlen, _, _, ha, ha2, hb, hi => by
    have h120 := dsT_120 h.ok
    rw [mX5_heaviest_L43, h.kinds, if_pos (by rw [zI_le (by omega) (by omega) (by omega) (by omega)]; omega), mX6_heaviest_L41, h2.2.2, if_pos (by rw [zI_le (by omega) (by omega) (by omega) (by omega)]; omega)]
    exact ⟨b, a, b', rfl, rfl, hi, fun q => absurd q (Nat.lt_irrefl 0), by omega⟩
  | m + 1, i, f + 1, f' + 1, b, a, b', hlen, hf, hf', ha, ha2, hb, hi => by
    have h120 := dsT_120 h.ok
    have hn := hR.1
    have hi2 : i < (dsT (spT V l r)).length := by omega
    have hx : (dsT (spT V l r))[i] ∈ spT V l r := (mem_dsT _ _).mp (List.getElem_mem hi2)
    have hxb := h.ok.2 _ hx
    have hbb := h.ok.2 _ hb
    have hGb : ∀ i, 0 ≤ i → i < n → 1 ≤ G i ∧ G i ≤ 9 := fun i h0 h1 => (hR.2.2.2.2 i h0 h1).2
    have w1 := owT_nn (V := V) hGb (dsT (spT V l r))[i] (r + 1 - l).toNat l hl (by omega)
    have w2 := owT_pos (V := V) hGb (dsT (spT V l r))[i] (r + 1 - l).toNat l hl (by omega) (by
      obtain ⟨j, q1, q2, q3⟩ := spT_mem.mp hx
      exact ⟨j, q1, by omega, q3⟩)
    rw [mX5_heaviest_L43, if_neg (show ¬ T.2.2.2.2.1 ≤ zI (i : Int) by rw [h.kinds, zI_le (by omega) (by omega) (by omega) (by omega)]; omega), rd_L h.kind hi2 h120 (by omega), sob, X2_weightOf_z hR hxb hl (by omega) hr, sob]
    rw [mX6_heaviest_L41, if_neg (show ¬ z.2.2.2.2 ≤ zI (i : Int) by rw [h2.2.2, zI_le (by omega) (by omega) (by omega) (by omega)]; omega), rd_L h2.2.1 hi2 h120 (by omega), sob, X6_weightsOf_z hv hxb hl (by omega) hr, sob, zI_a1, zI_s]
    generalize owT V G (dsT (spT V l r))[i] l (r + 1 - l).toNat = w at w1 w2 ⊢
    have new := X56_heavy_L hR hv ht hl hlr hr h h2 m (i + 1) f f' (dsT (spT V l r))[i] w (dsT (spT V l r))[i] (by omega) (by omega) (by omega) (by omega) (by omega) hx (Or.inr ⟨by omega, rfl⟩)
    have old := X56_heavy_L hR hv ht hl hlr hr h h2 m (i + 1) f f' b a b' (by omega) (by omega) (by omega) (by omega) (by omega) hb hi
    simp (disch := omega) only [zI_lt]
    by_cases c : a < w
    · rw [if_pos c]
      obtain ⟨b2, a2, b2', n1, n2, n3, n4, n5⟩ := new
      refine ⟨b2, a2, b2', n1, ?_, n3, fun _ => by omega, by omega⟩
      rcases hi with ⟨a0, hb'⟩ | ⟨a0, hb'⟩
      · rw [hb', if_pos (show zI (-1) = -1 from rfl), sob, if_pos i1]; exact n2
      · rw [hb', if_neg (show ¬ zI b = -1 by rw [z_m1, zI_eq (by omega) (by omega) (by omega) (by omega)]; omega), if_pos c, sob, if_pos i1]; exact n2
    · have a0 : 0 < a := by omega
      have hb' : b' = b := by rcases hi with ⟨q, _⟩ | ⟨_, q⟩; omega; exact q
      subst hb'
      rw [if_neg c, if_neg (show ¬ zI b' = -1 by rw [z_m1, zI_eq (by omega) (by omega) (by omega) (by omega)]; omega), if_neg c]
      simp (disch := omega) only [zI_eq]
      by_cases d : w = a
      · rw [if_neg (not_not_intro d), if_neg (not_not_intro d), X3_isAhead_z h hx hb, sob, X6_ah h2.1 ht hx hb, sob]
        by_cases e : kyT t (spT V l r) b' < kyT t (spT V l r) (dsT (spT V l r))[i]
        · rw [if_pos e, if_neg i1, if_neg i1, sob, if_pos i1]
          obtain ⟨b2, a2, b2', n1, n2, n3, n4, n5⟩ := new
          exact ⟨b2, a2, b2', n1, n2, n3, fun _ => by omega, by omega⟩
        · rw [if_neg e, if_pos rfl, if_pos rfl, sob, if_neg i0n]
          obtain ⟨b2, a2, b2', n1, n2, n3, n4, n5⟩ := old
          exact ⟨b2, a2, b2', n1, n2, n3, fun _ => by omega, by omega⟩
      · rw [if_pos d, if_pos d, sob, if_neg i0n]
        obtain ⟨b2, a2, b2', n1, n2, n3, n4, n5⟩ := old
        exact ⟨b2, a2, b2', n1, n2, n3, fun _ => by omega, by omega⟩
theorem P_heaviest {row : RowT} {value weight : Nat → Int32} {n t : Int} {V G : Int → Int} {T : TalT} (hR : Rw row n V G) (hv : Rv value weight n V G) (ht : 0 ≤ t ∧ t ≤ 3) (hT : TalC T) (th : Int32) (o fo la un : Nat → Int32) (um x1 x2 x3 : Int32) :
    ∃ (a : Int32) (T' : TalT) (z : CuT), mX5_heaviest (zI t) row T x1 x2 x3 = some (a, T') ∧ TalC T' ∧ mX6_heaviest th value weight (zI n) (zI t) o fo la un um x1 x2 x3 = some (a, 0, z) := by
  obtain ⟨l, hl, rfl⟩ := zI_ex x1
  obtain ⟨r, hr, rfl⟩ := zI_ex x2
  obtain ⟨w, hw, rfl⟩ := zI_ex x3
  obtain ⟨hs, hn⟩ := hR.ok
  simp (disch := omega) only [mX5_heaviest, mX6_heaviest, X2_hasSpan_z hs hn hl hr, X6_isSpan_z hn hl hr, X5_isBelow_z hw, z_0, z_1, z_2, z_3, z_4, z_5, z_6, z_7, z_8, z_9, z_12, z_20, z_120, z_121, z_880, z_900, z_999, z_1000, zI_neg, zI_add, zI_sub, zI_mul, zI_lt, zI_le, zI_eq, sob, bz_0, Classical.not_not]
  by_cases c : 0 ≤ l ∧ l ≤ r ∧ r < n
  · simp only [c, not_true_eq_false, not_false_eq_true, and_self, and_true, true_and, reduceIte]
    by_cases d : 0 ≤ w ∧ w < 2
    · rw [if_pos d, if_neg (show ¬ w < 0 by omega), if_pos (show w ≤ 1 by omega)]
      obtain ⟨T', e1, h1⟩ := X5_tallySpan_z hR ht c.1 (by omega) c.2.2 hT
      obtain ⟨z, e2, h2⟩ := X6_counts_z hv c.1 (by omega) c.2.2 o fo la un um
      have hb := bsT_mem (t := t) h1.ok (spT_ne c.2.1)
      have h120 := dsT_120 h1.ok
      have hne := dsT_ne (spT_ne (V := V) c.2.1)
      obtain ⟨b2, a2, b2', n1, n2, n3, n4, n5⟩ := X56_heavy_L hR hv ht c.1 c.2.1 c.2.2 h1 h2 (dsT (spT V l r)).length 0 FU FU (bsT t (spT V l r)) 0 (-1) (by omega) (by rw [FU_e]; omega) (by rw [FU_e]; omega) (by omega) (by omega) hb (Or.inl ⟨rfl, rfl⟩)
      rw [show zI ((0 : Nat) : Int) = zI 0 from rfl] at n1 n2
      have hpos : 0 < a2 := n4 (List.length_pos_iff.mpr hne)
      have hbb : b2' = b2 := by rcases n3 with ⟨q, _⟩ | ⟨_, q⟩; omega; exact q
      subst hbb
      rw [e1, sob, h1.best, n1, sob, show zI (-1) = (-1 : Int32) from rfl, e2, sob, show (-1 : Int32) = zI (-1) from rfl, n2, sob]
      by_cases w0 : w = 0
      · rw [if_neg (not_not_intro w0), if_neg (not_not_intro w0)]; exact ⟨_, _, _, rfl, h1.clean, rfl⟩
      · rw [if_pos w0, if_pos w0]; exact ⟨_, _, _, rfl, h1.clean, rfl⟩
    · rw [if_neg d]
      by_cases w0 : w < 0
      · rw [if_pos w0]; exact ⟨_, _, (o, fo, la, un, um), rfl, hT, rfl⟩
      · rw [if_neg w0, if_neg (show ¬ w ≤ 1 by omega)]; exact ⟨_, _, (o, fo, la, un, um), rfl, hT, rfl⟩
  · simp only [c, not_true_eq_false, not_false_eq_true, and_self, and_true, true_and, reduceIte]
    exact ⟨_, _, (o, fo, la, un, um), rfl, hT, rfl⟩

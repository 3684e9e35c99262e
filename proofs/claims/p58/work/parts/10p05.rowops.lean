/-! PURE ROWS. What asks the row alone: class and reference alike -/
theorem Rw.ok {t : RowT} {n : Int} {V G : Int → Int} (h : Rw t n V G) : t.2.2 = zI n ∧ (0 ≤ n ∧ n ≤ 120) := ⟨h.2.1, h.1⟩
theorem P_often {row : RowT} {value weight : Nat → Int32} {n : Int} {V G : Int → Int} (hR : Rw row n V G) (hv : Rv value weight n V G) (th x1 x2 x3 : Int32) :
    ∃ a, mX5_often row x1 x2 x3 = some a ∧ mX6_often th value (zI n) x1 x2 x3 = some (a, 0) := by
  obtain ⟨l, hl, rfl⟩ := zI_ex x1
  obtain ⟨r, hr, rfl⟩ := zI_ex x2
  obtain ⟨v, hvv, rfl⟩ := zI_ex x3
  obtain ⟨hs, hn⟩ := hR.ok
  simp (disch := omega) only [mX5_often, mX6_often, X2_hasSpan_z hs hn hl hr, X6_isSpan_z hn hl hr, X5_isValue_z hvv, X6_isValue_z hvv, z_0, z_1, z_2, z_3, z_4, z_5, z_6, z_7, z_8, z_9, z_12, z_20, z_120, z_121, z_880, z_900, z_999, z_1000, zI_neg, zI_add, zI_sub, zI_mul, zI_lt, zI_le, zI_eq, sob, bz_0, Classical.not_not]
  by_cases c : 0 ≤ l ∧ l ≤ r ∧ r < n
  · simp only [c, not_true_eq_false, not_false_eq_true, and_self, and_true, true_and, reduceIte]
    by_cases d : 0 ≤ v ∧ v < 1000
    · simp only [d, not_true_eq_false, not_false_eq_true, and_self, and_true, true_and, reduceIte]
      rw [X2_howOften_z hR d c.1 (by omega) c.2.2, X6_timesIn_z hv d c.1 (by omega) c.2.2]
      exact ⟨_, rfl, rfl⟩
    · simp only [d, not_true_eq_false, not_false_eq_true, and_self, and_true, true_and, reduceIte]
      exact ⟨_, rfl, rfl⟩
  · simp only [c, not_true_eq_false, not_false_eq_true, and_self, and_true, true_and, reduceIte]
    exact ⟨_, rfl, rfl⟩
/-- the k-th place of v -/
def atT (V : Int → Int) (v : Int) : Int → Int → Nat → Int
  | _, _, 0 => -2
  | c, p, k + 1 => if V p = v then (if c = 0 then p else atT V v (c - 1) (p + 1) k) else atT V v c (p + 1) k
theorem X5_at_L {t : RowT} {n : Int} {V G : Int → Int} (hR : Rw t n V G) {v : Int} (hv : 0 ≤ v ∧ v < 1000) : ∀ (k f : Nat) (c p : Int), k < f → 0 ≤ p → n = p + k → 0 ≤ c → c < 2147483648 → mX5_at_L18 t (zI v) f (zI c) (zI p) = some (zI (atT V v c p k))
  | k, 0, c, p, h, _, _, _, _ => absurd h (Nat.not_lt_zero k)
  | 0, f + 1, c, p, _, hp, hn, _, _ => by
    obtain ⟨hn2, hs, hV, hG, hB⟩ := hR
    simp (disch := omega) only [mX5_at_L18, hs, zI_le]
    rw [if_pos (by omega)]
    rfl
  | k + 1, f + 1, c, p, h, hp, hn, hc, hc2 => by
    obtain ⟨hn2, hs, hV, hG, hB⟩ := id hR
    have hb := hB p hp (by omega)
    simp (disch := omega) only [mX5_at_L18, hs, zI_le, rd_A hV, sob, zI_eq, zI_a1, zI_d1]
    rw [if_neg (by omega), X5_at_L hR hv k f c _ (by omega) (by omega) (by omega) hc hc2, z_0]
    simp (disch := omega) only [zI_eq]
    simp only [atT]
    by_cases e : V p = v
    · rw [if_neg (by simp [e]), if_pos e]
      by_cases d : c = 0
      · rw [if_neg (by omega), if_pos d]
      · rw [if_pos (by omega), if_neg d, X5_at_L hR hv k f _ _ (by omega) (by omega) (by omega) (by omega) (by omega)]
    · rw [if_pos e, if_neg e]
theorem X6_at_L {value weight : Nat → Int32} {n : Int} {V G : Int → Int} (hR : Rv value weight n V G) {v : Int} {th : Int32} (hv : 0 ≤ v ∧ v < 1000) : ∀ (k f : Nat) (c p : Int), k < f → 0 ≤ p → n = p + k → 0 ≤ c → c < 2147483648 → mX6_at_L23 th value (zI n) (zI v) f (zI c) (zI p) = some (zI (atT V v c p k), th)
  | k, 0, c, p, h, _, _, _, _ => absurd h (Nat.not_lt_zero k)
  | 0, f + 1, c, p, _, hp, hn, _, _ => by
    obtain ⟨hn2, hV, hG, hB⟩ := hR
    simp (disch := omega) only [mX6_at_L23, zI_le]
    rw [if_pos (by omega)]
    rfl
  | k + 1, f + 1, c, p, h, hp, hn, hc, hc2 => by
    obtain ⟨hn2, hV, hG, hB⟩ := id hR
    have hb := hB p hp (by omega)
    simp (disch := omega) only [mX6_at_L23, zI_le, rd_A hV, sob, zI_eq, zI_a1, zI_d1]
    rw [if_neg (by omega), X6_at_L hR hv k f c _ (by omega) (by omega) (by omega) hc hc2, z_0]
    simp (disch := omega) only [zI_eq]
    simp only [atT]
    by_cases e : V p = v
    · rw [if_pos e, if_pos e]
      by_cases d : c = 0
      · rw [if_neg (by omega), if_pos d]
      · rw [if_pos (by omega), if_neg d, X6_at_L hR hv k f _ _ (by omega) (by omega) (by omega) (by omega) (by omega)]
    · rw [if_neg e, if_neg e]
theorem P_at {row : RowT} {value weight : Nat → Int32} {n : Int} {V G : Int → Int} (hR : Rw row n V G) (hv : Rv value weight n V G) (th x1 x2 : Int32) :
    ∃ a, mX5_at row x1 x2 = some a ∧ mX6_at th value (zI n) x1 x2 = some (a, 0) := by
  obtain ⟨v, hvv, rfl⟩ := zI_ex x1
  obtain ⟨k, hk, rfl⟩ := zI_ex x2
  obtain ⟨hs, hn⟩ := hR.ok
  simp (disch := omega) only [mX5_at, mX6_at, X5_isValue_z hvv, X6_isValue_z hvv, z_0, z_1, z_2, z_3, z_4, z_5, z_6, z_7, z_8, z_9, z_12, z_20, z_120, z_121, z_880, z_900, z_999, z_1000, zI_neg, zI_add, zI_sub, zI_mul, zI_lt, zI_le, zI_eq, sob, bz_0, Classical.not_not]
  by_cases d : 0 ≤ v ∧ v < 1000
  · simp only [d, not_true_eq_false, not_false_eq_true, and_self, and_true, true_and, reduceIte]
    by_cases c : 0 ≤ k
    · simp only [c, not_true_eq_false, not_false_eq_true, and_self, and_true, true_and, reduceIte]
      rw [X5_at_L hR d n.toNat FU k 0 (by rw [FU_e]; omega) (by omega) (by omega) c (by omega), X6_at_L hv d n.toNat FU k 0 (by rw [FU_e]; omega) (by omega) (by omega) c (by omega)]
      exact ⟨_, rfl, rfl⟩
    · simp only [c, not_true_eq_false, not_false_eq_true, and_self, and_true, true_and, reduceIte]
      exact ⟨_, rfl, rfl⟩
  · simp only [d, not_true_eq_false, not_false_eq_true, and_self, and_true, true_and, reduceIte]
    exact ⟨_, rfl, rfl⟩
/-- where a walk upward, downward for v ends -/
def stT (V : Int → Int) (v : Int) : Int → Nat → Int
  | p, 0 => p
  | p, k + 1 => if V p = v then p else stT V v (p + 1) k
def sdT (V : Int → Int) (v : Int) : Int → Nat → Int
  | p, 0 => p
  | p, k + 1 => if V p = v then p else sdT V v (p - 1) k
theorem stT_nx (V : Int → Int) (v : Int) : ∀ (k : Nat) (p : Int), 0 ≤ p → (p ≤ stT V v p k ∧ stT V v p k ≤ p + k) ∧ nxT V v 1 p k = if stT V v p k = p + k then -2 else stT V v p k
  | 0, p, _ => by simp [stT, nxT]
  | k + 1, p, hp => by
    have h1 := stT_nx V v k (p + 1) (by omega)
    simp only [stT, nxT]
    by_cases e : V p = v
    · simp only [if_pos e, reduceIte]; rw [if_neg (by omega)]; omega
    · simp only [if_neg e]
      refine ⟨by omega, ?_⟩
      rw [h1.2]
      by_cases d : stT V v (p + 1) k = p + 1 + k
      · rw [if_pos d, if_pos (by omega)]
      · rw [if_neg d, if_neg (by omega)]
theorem sdT_pv (V : Int → Int) (v : Int) : ∀ (k : Nat) (p : Int), (p - k ≤ sdT V v p k ∧ sdT V v p k ≤ p) ∧ pvT V v p k = if sdT V v p k = p - k then -2 else sdT V v p k
  | 0, p => by simp [sdT, pvT]
  | k + 1, p => by
    have h1 := sdT_pv V v k (p - 1)
    simp only [sdT, pvT]
    by_cases e : V p = v
    · simp only [if_pos e]; rw [if_neg (by omega)]; omega
    · simp only [if_neg e]
      refine ⟨by omega, ?_⟩
      rw [h1.2]
      by_cases d : sdT V v (p - 1) k = p - 1 - k
      · rw [if_pos d, if_pos (by omega)]
      · rw [if_neg d, if_neg (by omega)]
theorem X6_nextTo_U {value weight : Nat → Int32} {n x : Int} {V G : Int → Int} (hR : Rv value weight n V G) (hx : 0 ≤ x ∧ x < n) : ∀ (k f : Nat) (p : Int), k < f → 0 ≤ p → n = p + k → mX6_nextTo_L4 value (zI n) (zI x) (zI 1) f (zI p) = some (zI (stT V (V x) p k))
  | k, 0, p, h, _, _ => absurd h (Nat.not_lt_zero k)
  | 0, f + 1, p, _, hp, hn => by
    have hn2 := hR.1
    simp (disch := omega) only [mX6_nextTo_L4, X6_isPlace_z, z_0, z_1, z_2, z_3, z_4, z_5, z_6, z_7, z_8, z_9, z_12, z_20, z_120, z_121, z_880, z_900, z_999, z_1000, zI_neg, zI_add, zI_sub, zI_mul, zI_lt, zI_le, zI_eq, sob, bz_0, Classical.not_not]
    rw [if_pos (by omega)]
    rfl
  | k + 1, f + 1, p, h, hp, hn => by
    obtain ⟨hn2, hV, hG, hB⟩ := id hR
    have hb := hB p hp (by omega)
    have hb2 := hB x hx.1 hx.2
    simp (disch := omega) only [mX6_nextTo_L4, X6_isPlace_z, rd_A hV, z_0, z_1, z_2, z_3, z_4, z_5, z_6, z_7, z_8, z_9, z_12, z_20, z_120, z_121, z_880, z_900, z_999, z_1000, zI_neg, zI_add, zI_sub, zI_mul, zI_lt, zI_le, zI_eq, sob, bz_0, Classical.not_not]
    rw [if_neg (by omega), X6_nextTo_U hR hx k f _ (by omega) (by omega) (by omega)]
    simp only [stT]
    by_cases e : V p = V x
    · rw [if_pos e, if_pos e]
    · rw [if_neg e, if_neg e]
theorem X6_nextTo_D {value weight : Nat → Int32} {n x : Int} {V G : Int → Int} (hR : Rv value weight n V G) (hx : 0 ≤ x ∧ x < n) : ∀ (k f : Nat) (p : Int), k < f → p < n → p + 1 = k → mX6_nextTo_L4 value (zI n) (zI x) (zI (-1)) f (zI p) = some (zI (sdT V (V x) p k))
  | k, 0, p, h, _, _ => absurd h (Nat.not_lt_zero k)
  | 0, f + 1, p, _, hp, hn => by
    have hn2 := hR.1
    simp (disch := omega) only [mX6_nextTo_L4, X6_isPlace_z, z_0, z_1, z_2, z_3, z_4, z_5, z_6, z_7, z_8, z_9, z_12, z_20, z_120, z_121, z_880, z_900, z_999, z_1000, zI_neg, zI_add, zI_sub, zI_mul, zI_lt, zI_le, zI_eq, sob, bz_0, Classical.not_not]
    rw [if_pos (by omega)]
    rfl
  | k + 1, f + 1, p, h, hp, hn => by
    obtain ⟨hn2, hV, hG, hB⟩ := id hR
    have hb := hB p (by omega) (by omega)
    have hb2 := hB x hx.1 hx.2
    simp (disch := omega) only [mX6_nextTo_L4, X6_isPlace_z, rd_A hV, z_0, z_1, z_2, z_3, z_4, z_5, z_6, z_7, z_8, z_9, z_12, z_20, z_120, z_121, z_880, z_900, z_999, z_1000, zI_neg, zI_add, zI_sub, zI_mul, zI_lt, zI_le, zI_eq, sob, bz_0, Classical.not_not]
    rw [if_neg (by omega), show p + -1 = p - 1 from rfl, X6_nextTo_D hR hx k f _ (by omega) (by omega) (by omega)]
    simp only [sdT]
    by_cases e : V p = V x
    · rw [if_pos e, if_pos e]
    · rw [if_neg e, if_neg e]
theorem X6_nextTo_up {value weight : Nat → Int32} {n x : Int} {V G : Int → Int} (hR : Rv value weight n V G) (hx : 0 ≤ x ∧ x < n) : mX6_nextTo value (zI n) (zI x) 1 = some (zI (nxT V (V x) 1 (x + 1) (n - (x + 1)).toNat)) := by
  have hn2 := hR.1
  have h := stT_nx V (V x) (n - (x + 1)).toNat (x + 1) (by omega)
  unfold mX6_nextTo
  rw [z_1, zI_add, X6_nextTo_U hR hx (n - (x + 1)).toNat FU (x + 1) (by rw [FU_e]; omega) (by omega) (by omega), sob, X6_isPlace_z hn2 (by omega), sob, h.2, z_0]
  simp only [bz_0]
  by_cases d : stT V (V x) (x + 1) (n - (x + 1)).toNat = x + 1 + (n - (x + 1)).toNat
  · rw [if_pos (by omega), if_pos d]; rfl
  · rw [if_neg (by omega), if_neg d]
theorem X6_nextTo_dn {value weight : Nat → Int32} {n x : Int} {V G : Int → Int} (hR : Rv value weight n V G) (hx : 0 ≤ x ∧ x < n) : mX6_nextTo value (zI n) (zI x) (-1) = some (zI (pvT V (V x) (x - 1) (x - 1 + 1).toNat)) := by
  have hn2 := hR.1
  have h := sdT_pv V (V x) (x - 1 + 1).toNat (x - 1)
  unfold mX6_nextTo
  rw [z_m1, zI_add, show x + -1 = x - 1 from rfl, X6_nextTo_D hR hx (x - 1 + 1).toNat FU (x - 1) (by rw [FU_e]; omega) (by omega) (by omega), sob, X6_isPlace_z hn2 (by omega), sob, h.2, z_0]
  simp only [bz_0]
  by_cases d : sdT V (V x) (x - 1) (x - 1 + 1).toNat = x - 1 - (x - 1 + 1).toNat
  · rw [if_pos (by omega), if_pos d]; rfl
  · rw [if_neg (by omega), if_neg d]
theorem X6_follow_U {value weight : Nat → Int32} {n v : Int} {V G : Int → Int} (hR : Rv value weight n V G) (hv : 0 ≤ v ∧ v < 1000) : ∀ (k f : Nat) (p : Int), k < f → 0 ≤ p → n = p + k → mX6_follow_L25 value (zI n) (zI v) 0 f (zI p) = some (zI (stT V v p k))
  | k, 0, p, h, _, _ => absurd h (Nat.not_lt_zero k)
  | 0, f + 1, p, _, hp, hn => by
    have hn2 := hR.1
    simp (disch := omega) only [mX6_follow_L25, X6_isPlace_z, z_0, z_1, z_2, z_3, z_4, z_5, z_6, z_7, z_8, z_9, z_12, z_20, z_120, z_121, z_880, z_900, z_999, z_1000, zI_neg, zI_add, zI_sub, zI_mul, zI_lt, zI_le, zI_eq, sob, bz_0, Classical.not_not]
    rw [if_pos (by omega)]
    rfl
  | k + 1, f + 1, p, h, hp, hn => by
    obtain ⟨hn2, hV, hG, hB⟩ := id hR
    have hb := hB p hp (by omega)
    rw [mX6_follow_L25]
    simp (disch := omega) only [X6_isPlace_z, rd_A hV, sob, zI_eq, zI_a1, reduceIte]
    rw [show (0 : Int32) = zI 0 from rfl]
    simp only [bz_0]
    rw [if_neg (by omega), show zI 0 = (0 : Int32) from rfl, X6_follow_U hR hv k f _ (by omega) (by omega) (by omega)]
    simp only [stT]
    by_cases e : V p = v
    · rw [if_pos e, if_pos e]
    · rw [if_neg e, if_neg e]
theorem X6_follow_D {value weight : Nat → Int32} {n v : Int} {V G : Int → Int} {b : Int32} (hR : Rv value weight n V G) (hv : 0 ≤ v ∧ v < 1000) (hb0 : ¬ b = 0) : ∀ (k f : Nat) (p : Int), k < f → p < n → p + 1 = k → mX6_follow_L25 value (zI n) (zI v) b f (zI p) = some (zI (sdT V v p k))
  | k, 0, p, h, _, _ => absurd h (Nat.not_lt_zero k)
  | 0, f + 1, p, _, hp, hn => by
    have hn2 := hR.1
    simp (disch := omega) only [mX6_follow_L25, X6_isPlace_z, z_0, z_1, z_2, z_3, z_4, z_5, z_6, z_7, z_8, z_9, z_12, z_20, z_120, z_121, z_880, z_900, z_999, z_1000, zI_neg, zI_add, zI_sub, zI_mul, zI_lt, zI_le, zI_eq, sob, bz_0, Classical.not_not]
    rw [if_pos (by omega)]
    rfl
  | k + 1, f + 1, p, h, hp, hn => by
    obtain ⟨hn2, hV, hG, hB⟩ := id hR
    have hb := hB p (by omega) (by omega)
    rw [mX6_follow_L25]
    simp (disch := omega) only [X6_isPlace_z, rd_A hV, sob, zI_eq, zI_d1, hb0, reduceIte]
    rw [show (0 : Int32) = zI 0 from rfl]
    simp only [bz_0]
    rw [if_neg (by omega), X6_follow_D hR hv hb0 k f _ (by omega) (by omega) (by omega)]
    simp only [sdT]
    by_cases e : V p = v
    · rw [if_pos e, if_pos e]
    · rw [if_neg e, if_neg e]
theorem P_follow {row : RowT} {value weight : Nat → Int32} {n : Int} {V G : Int → Int} (hR : Rw row n V G) (hv : Rv value weight n V G) (th x1 x2 x3 : Int32) :
    ∃ a, mX5_follow row x1 x2 x3 = some a ∧ mX6_follow th value (zI n) x1 x2 x3 = some (a, 0) := by
  obtain ⟨v, hvv, rfl⟩ := zI_ex x1
  obtain ⟨p, hp, rfl⟩ := zI_ex x2
  obtain ⟨hs, hn⟩ := hR.ok
  unfold mX5_follow mX6_follow
  rw [X5_isValue_z hvv, X6_isValue_z hvv, sob, sob, X2_has_z hs hn hp, X6_isPlace_z hn hp, sob, sob]
  by_cases d : 0 ≤ v ∧ v < 1000
  · rw [bz_t d, if_neg i1, if_neg i1]
    by_cases c : 0 ≤ p ∧ p < n
    · rw [bz_t c, if_pos i1, if_pos i1]
      by_cases e : x3 = 0
      · subst e
        have h := stT_nx V v (n - p).toNat p (by omega)
        rw [if_pos rfl, X2_from_z hR d c.1 (by omega), X6_follow_U hv d (n - p).toNat FU p (by rw [FU_e]; omega) (by omega) (by omega), sob, sob, X6_isPlace_z hn (by omega), sob, h.2]
        refine ⟨_, rfl, ?_⟩
        by_cases g : stT V v p (n - p).toNat = p + (n - p).toNat
        · rw [bz_f (by omega), if_pos rfl, if_pos g]; rfl
        · rw [bz_t (by omega), if_neg i1, if_neg g]
      · have h := sdT_pv V v (p + 1).toNat p
        rw [if_neg e, X2_upTo_z hR d (by omega) (by omega), X6_follow_D hv d e (p + 1).toNat FU p (by rw [FU_e]; omega) (by omega) (by omega), sob, sob, X6_isPlace_z hn (by omega), sob, h.2]
        refine ⟨_, rfl, ?_⟩
        by_cases g : sdT V v p (p + 1).toNat = p - (p + 1).toNat
        · rw [bz_f (by omega), if_pos rfl, if_pos g]; rfl
        · rw [bz_t (by omega), if_neg i1, if_neg g]
    · rw [bz_f c, if_neg i0n, if_neg i0n]
      exact ⟨_, rfl, rfl⟩
  · rw [bz_f d, if_pos rfl, if_pos rfl]
    exact ⟨_, rfl, rfl⟩
/-- gap -/
def gaT (V : Int → Int) (v : Int) : Int → Int → Int → Nat → Int
  | w, _, _, 0 => w
  | w, b, p, k + 1 => if V p = v then gaT V v (if b = -1 then w else if w < p - b then p - b else w) p (p + 1) k else gaT V v w b (p + 1) k
theorem X5_gap_L {t : RowT} {n : Int} {V G : Int → Int} (hR : Rw t n V G) {v : Int} (hv : 0 ≤ v ∧ v < 1000) : ∀ (k f : Nat) (w b p : Int), k < f → 0 ≤ p → n = p + k → -2 ≤ w → w ≤ 120 → -1 ≤ b → b < p → mX5_gap_L17 t (zI v) f (zI w) (zI b) (zI p) = some (zI (gaT V v w b p k))
  | k, 0, w, b, p, h, _, _, _, _, _, _ => absurd h (Nat.not_lt_zero k)
  | 0, f + 1, w, b, p, _, hp, hn, _, _, _, _ => by
    obtain ⟨hn2, hs, hV, hG, hB⟩ := hR
    simp (disch := omega) only [mX5_gap_L17, hs, zI_le]
    rw [if_pos (by omega)]
    rfl
  | k + 1, f + 1, w, b, p, h, hp, hn, hw, hw2, hb1, hb2 => by
    obtain ⟨hn2, hs, hV, hG, hB⟩ := id hR
    have hb := hB p hp (by omega)
    simp (disch := omega) only [mX5_gap_L17, hs, rd_A hV, z_0, z_1, z_2, z_3, z_4, z_5, z_6, z_7, z_8, z_9, z_12, z_20, z_120, z_121, z_880, z_900, z_999, z_1000, zI_neg, zI_add, zI_sub, zI_mul, zI_lt, zI_le, zI_eq, sob, bz_0, Classical.not_not]
    rw [if_neg (by omega)]
    simp only [gaT]
    by_cases e : V p = v
    · rw [if_neg (by simp [e]), if_pos e]
      by_cases d : b = -1
      · rw [if_pos d, if_pos d, X5_gap_L hR hv k f _ _ _ (by omega) (by omega) (by omega) hw hw2 (by omega) (by omega)]
      · rw [if_neg d, if_neg d]
        by_cases g : w < p - b
        · rw [if_pos g, if_pos g, X5_gap_L hR hv k f _ _ _ (by omega) (by omega) (by omega) (by omega) (by omega) (by omega) (by omega)]
        · rw [if_neg g, if_neg g, X5_gap_L hR hv k f _ _ _ (by omega) (by omega) (by omega) (by omega) (by omega) (by omega) (by omega)]
    · rw [if_pos e, if_neg e, X5_gap_L hR hv k f _ _ _ (by omega) (by omega) (by omega) (by omega) (by omega) (by omega) (by omega)]

theorem X6_gap_L {value weight : Nat → Int32} {n : Int} {V G : Int → Int} (hR : Rv value weight n V G) {v : Int} (hv : 0 ≤ v ∧ v < 1000) : ∀ (k f : Nat) (w b p : Int), k < f → 0 ≤ p → n = p + k → -2 ≤ w → w ≤ 120 → -1 ≤ b → b < p → mX6_gap_L22 value (zI n) (zI v) f (zI w) (zI b) (zI p) = some (zI (gaT V v w b p k))
  | k, 0, w, b, p, h, _, _, _, _, _, _ => absurd h (Nat.not_lt_zero k)
  | 0, f + 1, w, b, p, _, hp, hn, _, _, _, _ => by
    obtain ⟨hn2, hV, hG, hB⟩ := hR
    simp (disch := omega) only [mX6_gap_L22, zI_le]
    rw [if_pos (by omega)]
    rfl
  | k + 1, f + 1, w, b, p, h, hp, hn, hw, hw2, hb1, hb2 => by
    obtain ⟨hn2, hV, hG, hB⟩ := id hR
    have hb := hB p hp (by omega)
    simp (disch := omega) only [mX6_gap_L22, rd_A hV, z_0, z_1, z_2, z_3, z_4, z_5, z_6, z_7, z_8, z_9, z_12, z_20, z_120, z_121, z_880, z_900, z_999, z_1000, zI_neg, zI_add, zI_sub, zI_mul, zI_lt, zI_le, zI_eq, sob, bz_0, Classical.not_not]
    rw [if_neg (by omega)]
    simp only [gaT]
    by_cases e : V p = v
    · rw [if_pos e, if_pos e]
      by_cases d : b = -1
      · rw [if_pos d, if_pos d, X6_gap_L hR hv k f _ _ _ (by omega) (by omega) (by omega) hw hw2 (by omega) (by omega)]
      · rw [if_neg d, if_neg d]
        by_cases g : w < p - b
        · rw [if_neg (by omega), if_pos g, X6_gap_L hR hv k f _ _ _ (by omega) (by omega) (by omega) (by omega) (by omega) (by omega) (by omega)]
        · rw [if_pos (by omega), if_neg g, X6_gap_L hR hv k f _ _ _ (by omega) (by omega) (by omega) (by omega) (by omega) (by omega) (by omega)]
    · rw [if_neg e, if_neg e, X6_gap_L hR hv k f _ _ _ (by omega) (by omega) (by omega) (by omega) (by omega) (by omega) (by omega)]
theorem P_gap {row : RowT} {value weight : Nat → Int32} {n : Int} {V G : Int → Int} (hR : Rw row n V G) (hv : Rv value weight n V G) (th x1 : Int32) :
    ∃ a, mX5_gap row x1 = some a ∧ mX6_gap th value (zI n) x1 = some (a, 0) := by
  obtain ⟨v, hvv, rfl⟩ := zI_ex x1
  obtain ⟨hs, hn⟩ := hR.ok
  simp (disch := omega) only [mX5_gap, mX6_gap, X5_isValue_z hvv, X6_isValue_z hvv, z_0, z_1, z_2, z_3, z_4, z_5, z_6, z_7, z_8, z_9, z_12, z_20, z_120, z_121, z_880, z_900, z_999, z_1000, zI_neg, zI_add, zI_sub, zI_mul, zI_lt, zI_le, zI_eq, sob, bz_0, Classical.not_not]
  by_cases d : 0 ≤ v ∧ v < 1000
  · simp only [d, not_true_eq_false, not_false_eq_true, and_self, and_true, true_and, reduceIte]
    rw [X5_gap_L hR d n.toNat FU _ _ 0 (by rw [FU_e]; omega) (by omega) (by omega) (by omega) (by omega) (by omega) (by omega), X6_gap_L hv d n.toNat FU _ _ 0 (by rw [FU_e]; omega) (by omega) (by omega) (by omega) (by omega) (by omega) (by omega)]
    exact ⟨_, rfl, rfl⟩
  · simp only [d, not_true_eq_false, not_false_eq_true, and_self, and_true, true_and, reduceIte]
    exact ⟨_, rfl, rfl⟩
/-- twisted: of k places from q on, how many have a lesser value than x -/
def twT (V : Int → Int) (x : Int) : Int → Nat → Int
  | _, 0 => 0
  | q, k + 1 => (if x ≤ V q then 0 else 1) + twT V x (q + 1) k
def tsT (V : Int → Int) : Int → Nat → Int
  | _, 0 => 0
  | p, k + 1 => twT V (V p) (p + 1) k + tsT V (p + 1) k
theorem X5_tw_L {t : RowT} {n : Int} {V G : Int → Int} (hR : Rw t n V G) {x r : Int} (hx : 0 ≤ x ∧ x < n) (hr : r < n) : ∀ (k f : Nat) (c q : Int), k < f → 0 ≤ q → r + 1 = q + k → mX5_twisted_L31 t (zI r) (zI x) f (zI c) (zI q) = some (zI (c + twT V (V x) q k))
  | k, 0, c, p, h, _, _ => absurd h (Nat.not_lt_zero k)
  | 0, f + 1, c, p, _, hp, hn => by
    obtain ⟨hn2, hs, hV, hG, hB⟩ := hR
    simp (disch := omega) only [mX5_twisted_L31, zI_lt]
    rw [if_pos (by omega)]
    simp only [twT, Int.add_zero]
  | k + 1, f + 1, c, p, h, hp, hn => by
    obtain ⟨hn2, hs, hV, hG, hB⟩ := id hR
    have hb := hB p hp (by omega)
    have hb2 := hB x hx.1 hx.2
    simp (disch := omega) only [mX5_twisted_L31, rd_A hV, z_0, z_1, z_2, z_3, z_4, z_5, z_6, z_7, z_8, z_9, z_12, z_20, z_120, z_121, z_880, z_900, z_999, z_1000, zI_neg, zI_add, zI_sub, zI_mul, zI_lt, zI_le, zI_eq, sob, bz_0, Classical.not_not]
    rw [if_neg (by omega), X5_tw_L hR hx hr k f _ _ (by omega) (by omega) (by omega), X5_tw_L hR hx hr k f _ _ (by omega) (by omega) (by omega)]
    simp only [twT]
    by_cases e : V x ≤ V p
    · rw [if_pos e, if_pos e, Int.zero_add]
    · rw [if_neg e, if_neg e, Int.add_assoc]
theorem X6_tw_L {value weight : Nat → Int32} {n : Int} {V G : Int → Int} (hR : Rv value weight n V G) {x r : Int} (hx : 0 ≤ x ∧ x < n) (hr : r < n) : ∀ (k f : Nat) (c q : Int), k < f → 0 ≤ q → r + 1 = q + k → mX6_twisted_L33 value (zI r) (zI x) f (zI c) (zI q) = some (zI (c + twT V (V x) q k))
  | k, 0, c, p, h, _, _ => absurd h (Nat.not_lt_zero k)
  | 0, f + 1, c, p, _, hp, hn => by
    obtain ⟨hn2, hV, hG, hB⟩ := hR
    simp (disch := omega) only [mX6_twisted_L33, zI_lt]
    rw [if_pos (by omega)]
    simp only [twT, Int.add_zero]
  | k + 1, f + 1, c, p, h, hp, hn => by
    obtain ⟨hn2, hV, hG, hB⟩ := id hR
    have hb := hB p hp (by omega)
    have hb2 := hB x hx.1 hx.2
    simp (disch := omega) only [mX6_twisted_L33, rd_A hV, z_0, z_1, z_2, z_3, z_4, z_5, z_6, z_7, z_8, z_9, z_12, z_20, z_120, z_121, z_880, z_900, z_999, z_1000, zI_neg, zI_add, zI_sub, zI_mul, zI_lt, zI_le, zI_eq, sob, bz_0, Classical.not_not]
    rw [if_neg (by omega), X6_tw_L hR hx hr k f _ _ (by omega) (by omega) (by omega), X6_tw_L hR hx hr k f _ _ (by omega) (by omega) (by omega)]
    simp only [twT]
    by_cases e : V x ≤ V p
    · rw [if_pos e, if_pos e, Int.zero_add, Int.add_zero]
    · rw [if_neg e, if_neg e, Int.add_assoc]
theorem X5_ts_L {t : RowT} {n : Int} {V G : Int → Int} (hR : Rw t n V G) {r : Int} (hr : r < n) : ∀ (k f : Nat) (c p : Int), k < f → 0 ≤ p → r + 1 = p + k → mX5_twisted_L19 t (zI r) f (zI c) (zI p) = some (zI (c + tsT V p k))
  | k, 0, c, p, h, _, _ => absurd h (Nat.not_lt_zero k)
  | 0, f + 1, c, p, _, hp, hn => by
    obtain ⟨hn2, hs, hV, hG, hB⟩ := hR
    simp (disch := omega) only [mX5_twisted_L19, zI_lt]
    rw [if_pos (by omega)]
    simp only [tsT, Int.add_zero]
  | k + 1, f + 1, c, p, h, hp, hn => by
    obtain ⟨hn2, hs, hV, hG, hB⟩ := id hR
    simp (disch := omega) only [mX5_twisted_L19, rd_A hV, z_0, z_1, z_2, z_3, z_4, z_5, z_6, z_7, z_8, z_9, z_12, z_20, z_120, z_121, z_880, z_900, z_999, z_1000, zI_neg, zI_add, zI_sub, zI_mul, zI_lt, zI_le, zI_eq, sob, bz_0, Classical.not_not]
    rw [if_neg (by omega), X5_tw_L hR (by omega) hr k FU _ _ (by rw [FU_e]; omega) (by omega) (by omega), sob, X5_ts_L hR hr k f _ _ (by omega) (by omega) (by omega)]
    simp only [tsT, Int.add_assoc]
theorem X6_ts_L {value weight : Nat → Int32} {n : Int} {V G : Int → Int} (hR : Rv value weight n V G) {r : Int} (hr : r < n) : ∀ (k f : Nat) (c p : Int), k < f → 0 ≤ p → r + 1 = p + k → mX6_twisted_L21 value (zI r) f (zI c) (zI p) = some (zI (c + tsT V p k))
  | k, 0, c, p, h, _, _ => absurd h (Nat.not_lt_zero k)
  | 0, f + 1, c, p, _, hp, hn => by
    obtain ⟨hn2, hV, hG, hB⟩ := hR
    simp (disch := omega) only [mX6_twisted_L21, zI_lt]
    rw [if_pos (by omega)]
    simp only [tsT, Int.add_zero]
  | k + 1, f + 1, c, p, h, hp, hn => by
    obtain ⟨hn2, hV, hG, hB⟩ := id hR
    simp (disch := omega) only [mX6_twisted_L21, rd_A hV, z_0, z_1, z_2, z_3, z_4, z_5, z_6, z_7, z_8, z_9, z_12, z_20, z_120, z_121, z_880, z_900, z_999, z_1000, zI_neg, zI_add, zI_sub, zI_mul, zI_lt, zI_le, zI_eq, sob, bz_0, Classical.not_not]
    rw [if_neg (by omega), X6_tw_L hR (by omega) hr k FU _ _ (by rw [FU_e]; omega) (by omega) (by omega), sob, X6_ts_L hR hr k f _ _ (by omega) (by omega) (by omega)]
    simp only [tsT, Int.add_assoc]
theorem P_twisted {row : RowT} {value weight : Nat → Int32} {n : Int} {V G : Int → Int} (hR : Rw row n V G) (hv : Rv value weight n V G) (th x1 x2 : Int32) :
    ∃ a, mX5_twisted row x1 x2 = some a ∧ mX6_twisted th value (zI n) x1 x2 = some (a, 0) := by
  obtain ⟨l, hl, rfl⟩ := zI_ex x1
  obtain ⟨r, hr, rfl⟩ := zI_ex x2
  obtain ⟨hs, hn⟩ := hR.ok
  simp (disch := omega) only [mX5_twisted, mX6_twisted, X2_hasSpan_z hs hn hl hr, X6_isSpan_z hn hl hr, z_0, z_1, z_2, z_3, z_4, z_5, z_6, z_7, z_8, z_9, z_12, z_20, z_120, z_121, z_880, z_900, z_999, z_1000, zI_neg, zI_add, zI_sub, zI_mul, zI_lt, zI_le, zI_eq, sob, bz_0, Classical.not_not]
  by_cases c : 0 ≤ l ∧ l ≤ r ∧ r < n
  · simp only [c, not_true_eq_false, not_false_eq_true, and_self, and_true, true_and, reduceIte]
    rw [X5_ts_L hR c.2.2 (r + 1 - l).toNat FU 0 l (by rw [FU_e]; omega) c.1 (by omega), X6_ts_L hv c.2.2 (r + 1 - l).toNat FU 0 l (by rw [FU_e]; omega) c.1 (by omega)]
    exact ⟨_, rfl, rfl⟩
  · simp only [c, not_true_eq_false, not_false_eq_true, and_self, and_true, true_and, reduceIte]
    exact ⟨_, rfl, rfl⟩

/-! PURE ROWS. Spans of the row: run, reign, tightest -/
theorem X5_spanTold_z {row : RowT} {n : Int} {V G : Int → Int} (hR : Rw row n V G) {l m w : Int} (hl : 0 ≤ l ∧ l ≤ 120) (hm : 0 ≤ m ∧ m ≤ 120) (hw : 0 ≤ w ∧ w < 3) (hln : 0 < m → l < n) :
    mX5_spanTold row (zI l) (zI m) (zI w) = some (zI (if m = 0 then -2 else if w = 2 then V l else if w = 0 then l else l + m - 1)) := by
  obtain ⟨hn2, hs, hV, hG, hB⟩ := hR
  simp (disch := omega) only [mX5_spanTold, z_0, z_1, z_2, z_3, z_4, z_5, z_6, z_7, z_8, z_9, z_12, z_20, z_120, z_121, z_880, z_900, z_999, z_1000, zI_neg, zI_add, zI_sub, zI_mul, zI_lt, zI_le, zI_eq, sob, bz_0, Classical.not_not]
  by_cases a : m = 0
  · rw [if_neg (by omega), if_pos a]
  · rw [if_pos a, if_neg a]
    by_cases b : w = 2
    · rw [if_neg (by omega), if_pos b, rd_A hV hl.1 (hln (by omega)) (by omega) (by omega), sob]
    · rw [if_pos b, if_neg b]
      by_cases c : w = 0
      · rw [if_neg (by omega), if_pos c]
      · rw [if_pos c, if_neg c]
/-! run -/
def rnC (V : Int → Int) (b e : Int) : Prop := ∀ i, b ≤ i → i ≤ e → V i = V b
/-- (b, m) is the longest run in l .. r, the first of several -/
def rnB (V : Int → Int) (l r b m : Int) : Prop := (l ≤ b ∧ 1 ≤ m ∧ b + m - 1 ≤ r ∧ rnC V b (b + m - 1)) ∧ ∀ b' e', l ≤ b' → b' ≤ e' → e' ≤ r → rnC V b' e' → e' - b' + 1 ≤ m ∧ (e' - b' + 1 = m → b ≤ b')
theorem rnB_uq {V : Int → Int} {l r b m b2 m2 : Int} (h : rnB V l r b m) (h2 : rnB V l r b2 m2) : b = b2 ∧ m = m2 := by
  have a := h.2 b2 (b2 + m2 - 1) h2.1.1 (by have := h2.1.2.1; omega) h2.1.2.2.1 h2.1.2.2.2
  have c := h2.2 b (b + m - 1) h.1.1 (by have := h.1.2.1; omega) h.1.2.2.1 h.1.2.2.2
  omega
theorem X5_run_L {row : RowT} {n : Int} {V G : Int → Int} (hR : Rw row n V G) {l r : Int} (hl : 0 ≤ l) (hr : r < n) : ∀ (k f : Nat) (s b m p : Int), k < f → l < p → r + 1 = p + k → l ≤ s → s < p → rnC V s (p - 1) → (s = l ∨ V (s - 1) ≠ V s) → rnB V l (p - 1) b m →
    ∃ b' m', mX5_run_L34 row (zI r) f (zI s) (zI b) (zI m) (zI p) = some (zI b', zI m') ∧ rnB V l r b' m'
  | k, 0, s, b, m, p, h, _, _, _, _, _, _, _ => absurd h (Nat.not_lt_zero k)
  | 0, f + 1, s, b, m, p, _, hp, hk, hs1, hs2, hc, hst, hB => by
    have hn := hR.1
    simp (disch := omega) only [mX5_run_L34, z_0, z_1, z_2, z_3, z_4, z_5, z_6, z_7, z_8, z_9, z_12, z_20, z_120, z_121, z_880, z_900, z_999, z_1000, zI_neg, zI_add, zI_sub, zI_mul, zI_lt, zI_le, zI_eq, sob, bz_0, Classical.not_not]
    rw [if_pos (by omega)]
    exact ⟨b, m, rfl, by rw [show r = p - 1 by omega]; exact hB⟩
  | k + 1, f + 1, s, b, m, p, h, hp, hk, hs1, hs2, hc, hst, hB => by
    obtain ⟨hn2, hs, hV, hG, hBd⟩ := id hR
    have hb := hBd p (by omega) (by omega)
    have hb2 := hBd s (by omega) (by omega)
    obtain ⟨⟨q1, q2, q3, q4⟩, q5⟩ := hB
    simp (disch := omega) only [mX5_run_L34, rd_A hV, z_0, z_1, z_2, z_3, z_4, z_5, z_6, z_7, z_8, z_9, z_12, z_20, z_120, z_121, z_880, z_900, z_999, z_1000, zI_neg, zI_add, zI_sub, zI_mul, zI_lt, zI_le, zI_eq, sob, bz_0, Classical.not_not]
    rw [if_neg (by omega)]
    -- the new start
    have key : ∀ s2 : Int, s2 ≤ p → l ≤ s2 → rnC V s2 p → (s2 = l ∨ V (s2 - 1) ≠ V s2) → (if p - s2 + 1 ≤ m then mX5_run_L34 row (zI r) f (zI s2) (zI b) (zI m) (zI (p + 1)) else mX5_run_L34 row (zI r) f (zI s2) (zI s2) (zI (p - s2 + 1)) (zI (p + 1))) = (if p - s2 + 1 ≤ m then mX5_run_L34 row (zI r) f (zI s2) (zI b) (zI m) (zI (p + 1)) else mX5_run_L34 row (zI r) f (zI s2) (zI s2) (zI (p - s2 + 1)) (zI (p + 1))) → ∃ b' m', (if p - s2 + 1 ≤ m then mX5_run_L34 row (zI r) f (zI s2) (zI b) (zI m) (zI (p + 1)) else mX5_run_L34 row (zI r) f (zI s2) (zI s2) (zI (p - s2 + 1)) (zI (p + 1))) = some (zI b', zI m') ∧ rnB V l r b' m' := by
      intro s2 g1 g2 g3 g4 _
      have ends : ∀ b', l ≤ b' → b' ≤ p → rnC V b' p → s2 ≤ b' := by
        intro b' h1 h2 h3
        rcases Int.lt_or_le b' s2 with z | z
        · exfalso
          rcases g4 with g4 | g4
          · omega
          · have e1 := h3 (s2 - 1) (by omega) (by omega)
            have e2 := h3 s2 (by omega) (by omega)
            rw [e1, e2] at g4; exact g4 rfl
        · exact z
      by_cases c : p - s2 + 1 ≤ m
      · rw [if_pos c]
        refine X5_run_L hR hl hr k f s2 b m (p + 1) (by omega) (by omega) (by omega) g2 (by omega) (by rw [show p + 1 - 1 = p by omega]; exact g3) g4 ⟨⟨q1, q2, by omega, q4⟩, fun b' e' h1 h2 h3 h4 => ?_⟩
        rcases Int.lt_or_le e' p with z | z
        · exact q5 b' e' h1 h2 (by omega) h4
        · have ee : e' = p := by omega
          subst ee
          have := ends b' h1 h2 h4
          omega
      · rw [if_neg c]
        refine X5_run_L hR hl hr k f s2 s2 (p - s2 + 1) (p + 1) (by omega) (by omega) (by omega) g2 (by omega) (by rw [show p + 1 - 1 = p by omega]; exact g3) g4 ⟨⟨g2, by omega, by omega, by rw [show s2 + (p - s2 + 1) - 1 = p by omega]; exact g3⟩, fun b' e' h1 h2 h3 h4 => ?_⟩
        rcases Int.lt_or_le e' p with z | z
        · have := q5 b' e' h1 h2 (by omega) h4; omega
        · have ee : e' = p := by omega
          subst ee
          have := ends b' h1 h2 h4
          omega
    by_cases e : V p = V s
    · rw [if_pos e, sob]
      simp (disch := omega) only [z_0, z_1, z_2, z_3, z_4, z_5, z_6, z_7, z_8, z_9, z_12, z_20, z_120, z_121, z_880, z_900, z_999, z_1000, zI_neg, zI_add, zI_sub, zI_mul, zI_lt, zI_le, zI_eq, sob, bz_0, Classical.not_not]
      refine key s (by omega) hs1 (fun i h1 h2 => ?_) hst rfl
      by_cases z : i = p
      · rw [z, e]
      · exact hc i h1 (by omega)
    · rw [if_neg e, sob]
      simp (disch := omega) only [z_0, z_1, z_2, z_3, z_4, z_5, z_6, z_7, z_8, z_9, z_12, z_20, z_120, z_121, z_880, z_900, z_999, z_1000, zI_neg, zI_add, zI_sub, zI_mul, zI_lt, zI_le, zI_eq, sob, bz_0, Classical.not_not]
      refine key p (by omega) (by omega) (fun i h1 h2 => by rw [show i = p by omega]) (Or.inr ?_) rfl
      rw [hc (p - 1) (by omega) (by omega)]
      exact fun z => e z.symm
theorem X6_run_E {value weight : Nat → Int32} {n : Int} {V G : Int → Int} (hR : Rv value weight n V G) {p r : Int} (hp : 0 ≤ p) (hr : r < n) : ∀ (k f : Nat) (e : Int), k < f → p ≤ e → r = e + k → rnC V p e →
    ∃ e', mX6_run_L44 value (zI r) (zI p) f (zI e) = some (zI e') ∧ e ≤ e' ∧ e' ≤ r ∧ rnC V p e' ∧ (e' = r ∨ V (e' + 1) ≠ V p)
  | k, 0, e, h, _, _, _ => absurd h (Nat.not_lt_zero k)
  | 0, f + 1, e, _, hpe, hk, hc => by
    have hn := hR.1
    simp (disch := omega) only [mX6_run_L44, z_0, z_1, z_2, z_3, z_4, z_5, z_6, z_7, z_8, z_9, z_12, z_20, z_120, z_121, z_880, z_900, z_999, z_1000, zI_neg, zI_add, zI_sub, zI_mul, zI_lt, zI_le, zI_eq, sob, bz_0, Classical.not_not]
    rw [if_pos (by omega)]
    exact ⟨e, rfl, by omega, by omega, hc, Or.inl (by omega)⟩
  | k + 1, f + 1, e, h, hpe, hk, hc => by
    obtain ⟨hn2, hV, hG, hB⟩ := id hR
    have hb := hB (e + 1) (by omega) (by omega)
    have hb2 := hB p (by omega) (by omega)
    simp (disch := omega) only [mX6_run_L44, rd_A hV, z_0, z_1, z_2, z_3, z_4, z_5, z_6, z_7, z_8, z_9, z_12, z_20, z_120, z_121, z_880, z_900, z_999, z_1000, zI_neg, zI_add, zI_sub, zI_mul, zI_lt, zI_le, zI_eq, sob, bz_0, Classical.not_not]
    rw [if_neg (by omega)]
    by_cases d : V (e + 1) = V p
    · rw [if_neg (by simp [d])]
      obtain ⟨e', h1, h2, h3, h4, h5⟩ := X6_run_E hR hp hr k f (e + 1) (by omega) (by omega) (by omega) (fun i h1 h2 => by
        by_cases z : i = e + 1
        · rw [z, d]
        · exact hc i h1 (by omega))
      exact ⟨e', h1, by omega, h3, h4, h5⟩
    · rw [if_pos d]
      exact ⟨e, rfl, by omega, by omega, hc, Or.inr d⟩
theorem X6_run_L {value weight : Nat → Int32} {n : Int} {V G : Int → Int} (hR : Rv value weight n V G) {l r : Int} (hl : 0 ≤ l) (hlr : l ≤ r) (hr : r < n) : ∀ (k f : Nat) (b m p : Int), k < f → l ≤ p → r + 1 = p + k → (m = 0 ∧ p = l ∧ b = l) ∨ ((l < p ∧ b < p) ∧ (l ≤ b ∧ 1 ≤ m ∧ b + m - 1 ≤ r ∧ rnC V b (b + m - 1)) ∧ ∀ b' e', l ≤ b' → b' < p → b' ≤ e' → e' ≤ r → rnC V b' e' → e' - b' + 1 ≤ m ∧ (e' - b' + 1 = m → b ≤ b')) →
    ∃ b' m', mX6_run_L34 value (zI r) f (zI b) (zI m) (zI p) = some (zI b', zI m') ∧ rnB V l r b' m'
  | k, 0, b, m, p, h, _, _, _ => absurd h (Nat.not_lt_zero k)
  | 0, f + 1, b, m, p, _, hp, hk, hi => by
    have hn := hR.1
    simp (disch := omega) only [mX6_run_L34, z_0, z_1, z_2, z_3, z_4, z_5, z_6, z_7, z_8, z_9, z_12, z_20, z_120, z_121, z_880, z_900, z_999, z_1000, zI_neg, zI_add, zI_sub, zI_mul, zI_lt, zI_le, zI_eq, sob, bz_0, Classical.not_not]
    rw [if_pos (by omega)]
    rcases hi with hi | ⟨i1, i2, i3⟩
    · omega
    · exact ⟨b, m, rfl, i2, fun b' e' h1 h2 h3 h4 => i3 b' e' h1 (by omega) h2 h3 h4⟩
  | k + 1, f + 1, b, m, p, h, hp, hk, hi => by
    have hn := hR.1
    obtain ⟨e, h1, h2, h3, h4, h5⟩ := X6_run_E hR (p := p) (by omega) hr (r - p).toNat FU p (by rw [FU_e]; omega) (by omega) (by omega) (fun i h1 h2 => by rw [show i = p by omega])
    have hm : 0 ≤ m ∧ m ≤ 120 := by
      rcases hi with hi | ⟨i1, i2, i3⟩
      · omega
      · have := i2.2.1; have := i2.2.2.1; have := i2.1; omega
    have mx : ∀ e', p ≤ e' → e' ≤ r → rnC V p e' → e' ≤ e := by
      intro e' g1 g2 g3
      rcases Int.lt_or_le e e' with z | z
      · exfalso
        rcases h5 with h5 | h5
        · omega
        · exact h5 (g3 (e + 1) (by omega) (by omega))
      · exact z
    simp (disch := omega) only [mX6_run_L34, zI_lt]
    rw [if_neg (by omega), h1]
    simp (disch := omega) only [z_0, z_1, z_2, z_3, z_4, z_5, z_6, z_7, z_8, z_9, z_12, z_20, z_120, z_121, z_880, z_900, z_999, z_1000, zI_neg, zI_add, zI_sub, zI_mul, zI_lt, zI_le, zI_eq, sob, bz_0, Classical.not_not]
    by_cases c : m < e - p + 1
    · rw [if_pos c]
      refine X6_run_L hR hl hlr hr k f p (e - p + 1) (p + 1) (by omega) (by omega) (by omega) (Or.inr ⟨by omega, ⟨by omega, by omega, by omega, by rw [show p + (e - p + 1) - 1 = e by omega]; exact h4⟩, fun b' e' g1 g2 g3 g4 g5 => ?_⟩)
      by_cases z : b' = p
      · subst z; have := mx e' g3 g4 g5; omega
      · rcases hi with hi | ⟨i1, i2, i3⟩
        · omega
        · have := i3 b' e' g1 (by omega) g3 g4 g5; omega
    · rw [if_neg c]
      rcases hi with hi | ⟨i1, i2, i3⟩
      · omega
      · refine X6_run_L hR hl hlr hr k f b m (p + 1) (by omega) (by omega) (by omega) (Or.inr ⟨by omega, i2, fun b' e' g1 g2 g3 g4 g5 => ?_⟩)
        by_cases z : b' = p
        · subst z; have := mx e' g3 g4 g5; omega
        · exact i3 b' e' g1 (by omega) g3 g4 g5
theorem P_run {row : RowT} {value weight : Nat → Int32} {n : Int} {V G : Int → Int} (hR : Rw row n V G) (hv : Rv value weight n V G) (th x1 x2 x3 : Int32) :
    ∃ a, mX5_run row x1 x2 x3 = some a ∧ mX6_run th value (zI n) x1 x2 x3 = some (a, 0) := by
  obtain ⟨l, hl, rfl⟩ := zI_ex x1
  obtain ⟨r, hr, rfl⟩ := zI_ex x2
  obtain ⟨w, hw, rfl⟩ := zI_ex x3
  obtain ⟨hs, hn⟩ := hR.ok
  simp (disch := omega) only [mX5_run, mX6_run, X2_hasSpan_z hs hn hl hr, X6_isSpan_z hn hl hr, X5_isBelow_z hw, z_0, z_1, z_2, z_3, z_4, z_5, z_6, z_7, z_8, z_9, z_12, z_20, z_120, z_121, z_880, z_900, z_999, z_1000, zI_neg, zI_add, zI_sub, zI_mul, zI_lt, zI_le, zI_eq, sob, bz_0, Classical.not_not]
  by_cases c : 0 ≤ l ∧ l ≤ r ∧ r < n
  · simp only [c, not_true_eq_false, not_false_eq_true, and_self, and_true, true_and, reduceIte]
    by_cases d : 0 ≤ w ∧ w < 3
    · rw [if_pos d, if_neg (show ¬ w < 0 by omega), if_pos (show w ≤ 2 by omega)]
      have h1 : ∃ b' m', mX5_run_L34 row (zI r) FU (zI l) (zI l) (zI 0) (zI l) = some (zI b', zI m') ∧ rnB V l r b' m' := by
        obtain ⟨hn2, hs, hV, hG, hB⟩ := id hR
        have hb := hB l (by omega) (by omega)
        obtain ⟨g, hg, hg2⟩ : ∃ g : Nat, FU = g + 1 ∧ 1000 ≤ g := ⟨1999, rfl, by omega⟩
        rw [hg]
        simp (disch := omega) only [mX5_run_L34, rd_A hV, z_0, z_1, z_2, z_3, z_4, z_5, z_6, z_7, z_8, z_9, z_12, z_20, z_120, z_121, z_880, z_900, z_999, z_1000, zI_neg, zI_add, zI_sub, zI_mul, zI_lt, zI_le, zI_eq, sob, bz_0, Classical.not_not]
        rw [if_neg (by omega), if_pos trivial, sob]
        simp (disch := omega) only [z_0, z_1, z_2, z_3, z_4, z_5, z_6, z_7, z_8, z_9, z_12, z_20, z_120, z_121, z_880, z_900, z_999, z_1000, zI_neg, zI_add, zI_sub, zI_mul, zI_lt, zI_le, zI_eq, sob, bz_0, Classical.not_not]
        rw [if_neg (by omega)]
        exact X5_run_L hR c.1 c.2.2 (r - l).toNat g l l (l - l + 1) (l + 1) (by omega) (by omega) (by omega) (by omega) (by omega) (fun i g1 g2 => by rw [show i = l by omega]) (Or.inl rfl) ⟨⟨by omega, by omega, by omega, fun i g1 g2 => by rw [show i = l by omega]⟩, fun b' e' g1 g2 g3 g4 => by omega⟩
      obtain ⟨b, m, e1, u1⟩ := h1
      obtain ⟨b2, m2, e2, u2⟩ := X6_run_L hv c.1 c.2.1 c.2.2 (r + 1 - l).toNat FU l 0 l (by rw [FU_e]; omega) (by omega) (by omega) (Or.inl ⟨rfl, rfl, rfl⟩)
      obtain ⟨rfl, rfl⟩ := rnB_uq u1 u2
      have q := u1.1
      rw [e1, e2, sob, sob, X5_spanTold_z hR (by omega) (by omega) d (by omega), sob, if_neg (show ¬ m = 0 by omega)]
      refine ⟨_, rfl, ?_⟩
      by_cases w0 : w = 0
      · subst w0; rfl
      · rw [if_pos w0]
        by_cases w1 : w = 1
        · subst w1
          simp (disch := omega) only [z_0, z_1, z_2, z_3, z_4, z_5, z_6, z_7, z_8, z_9, z_12, z_20, z_120, z_121, z_880, z_900, z_999, z_1000, zI_neg, zI_add, zI_sub, zI_mul, zI_lt, zI_le, zI_eq, sob, bz_0, Classical.not_not]
          rfl
        · have w2 : w = 2 := by omega
          subst w2
          rw [if_pos w1, rd_A hv.2.1 (by omega) (by omega) (by omega) (by omega), sob]
          rfl
    · rw [if_neg d]
      by_cases w0 : w < 0
      · rw [if_pos w0]; exact ⟨_, rfl, rfl⟩
      · rw [if_neg w0, if_neg (by omega)]; exact ⟨_, rfl, rfl⟩
  · simp only [c, not_true_eq_false, not_false_eq_true, and_self, and_true, true_and, reduceIte]
    exact ⟨_, rfl, rfl⟩
/-! reign: both loops side by side -/
/-- (b, m) of the class, b' of the reference -/
def rgR (b m b' : Int) : Prop := (0 ≤ b ∧ b ≤ 120) ∧ (0 ≤ m ∧ m ≤ 120) ∧ (m = 0 → b' = -2) ∧ (0 < m → b' = b)
theorem X56_reign_I {row : RowT} {value weight : Nat → Int32} {n : Int} {V G : Int → Int} (hR : Rw row n V G) (hv : Rv value weight n V G) {v l : Int} (hvv : 0 ≤ v ∧ v < 1000) (hl : 0 ≤ l) : ∀ (k f f' : Nat) (b m b' o p : Int), k < f → k < f' → l ≤ p → n = p + k → 0 ≤ o → o ≤ p → rgR b m b' → (0 < m → b + m ≤ n) →
    ∃ b2 m2 b2', mX5_reign_L47 row (zI v) (zI l) f (zI b) (zI m) (zI o) (zI p) = some (zI b2, zI m2) ∧ mX6_reign_L48 value (zI n) (zI v) (zI l) f' (zI b') (zI m) (zI o) (zI p) = some (zI b2', zI m2) ∧ rgR b2 m2 b2' ∧ (0 < m2 → b2 + m2 ≤ n) ∧ m ≤ m2 ∧ (n - l ≤ m → b2 = b ∧ m2 = m ∧ b2' = b')
  | k, 0, f', b, m, b', o, p, h, _, _, _, _, _, _, _ => absurd h (Nat.not_lt_zero k)
  | k, f + 1, 0, b, m, b', o, p, _, h, _, _, _, _, _, _ => absurd h (Nat.not_lt_zero k)
  | 0, f + 1, f' + 1, b, m, b', o, p, _, _, hp, hk, _, _, hg, hbm => by
    have hn := hR.1
    have hs := hR.2.1
    simp (disch := omega) only [mX5_reign_L47, mX6_reign_L48, hs, z_0, z_1, z_2, z_3, z_4, z_5, z_6, z_7, z_8, z_9, z_12, z_20, z_120, z_121, z_880, z_900, z_999, z_1000, zI_neg, zI_add, zI_sub, zI_mul, zI_lt, zI_le, zI_eq, sob, bz_0, Classical.not_not]
    rw [if_pos (by omega), if_pos (by omega)]
    exact ⟨b, m, b', rfl, rfl, hg, hbm, by omega, fun _ => ⟨rfl, rfl, rfl⟩⟩
  | k + 1, f + 1, f' + 1, b, m, b', o, p, h, h', hp, hk, ho, ho2, hg, hbm => by
    obtain ⟨hn2, hs, hV, hG, hB⟩ := id hR
    have hV6 := hv.2.1
    have hb := hB p (by omega) (by omega)
    obtain ⟨g1, g2, g3, g4⟩ := id hg
    simp (disch := omega) only [mX5_reign_L47, mX6_reign_L48, hs, rd_A hV, rd_A hV6, z_0, z_1, z_2, z_3, z_4, z_5, z_6, z_7, z_8, z_9, z_12, z_20, z_120, z_121, z_880, z_900, z_999, z_1000, zI_neg, zI_add, zI_sub, zI_mul, zI_lt, zI_le, zI_eq, sob, bz_0, Classical.not_not]
    rw [if_neg (show ¬ n ≤ p by omega), if_neg (show ¬ n ≤ p by omega)]
    have key : ∀ o2 : Int, 0 ≤ o2 → o2 ≤ p + 1 → ∃ b2 m2 b2', (if 2 * o2 ≤ p - l + 1 then mX5_reign_L47 row (zI v) (zI l) f (zI b) (zI m) (zI o2) (zI (p + 1)) else if p - l + 1 ≤ m then mX5_reign_L47 row (zI v) (zI l) f (zI b) (zI m) (zI o2) (zI (p + 1)) else mX5_reign_L47 row (zI v) (zI l) f (zI l) (zI (p - l + 1)) (zI o2) (zI (p + 1))) = some (zI b2, zI m2) ∧ (if 2 * o2 ≤ p - l + 1 then mX6_reign_L48 value (zI n) (zI v) (zI l) f' (zI b') (zI m) (zI o2) (zI (p + 1)) else if m < p - l + 1 then mX6_reign_L48 value (zI n) (zI v) (zI l) f' (zI l) (zI (p - l + 1)) (zI o2) (zI (p + 1)) else mX6_reign_L48 value (zI n) (zI v) (zI l) f' (zI b') (zI m) (zI o2) (zI (p + 1))) = some (zI b2', zI m2) ∧ rgR b2 m2 b2' ∧ (0 < m2 → b2 + m2 ≤ n) ∧ m ≤ m2 ∧ (n - l ≤ m → b2 = b ∧ m2 = m ∧ b2' = b') := by
      intro o2 q1 q2
      by_cases c : 2 * o2 ≤ p - l + 1
      · rw [if_pos c, if_pos c]
        exact X56_reign_I hR hv hvv hl k f f' b m b' o2 (p + 1) (by omega) (by omega) (by omega) (by omega) q1 (by omega) hg hbm
      · rw [if_neg c, if_neg c]
        by_cases d : p - l + 1 ≤ m
        · rw [if_pos d, if_neg (by omega)]
          exact X56_reign_I hR hv hvv hl k f f' b m b' o2 (p + 1) (by omega) (by omega) (by omega) (by omega) q1 (by omega) hg hbm
        · rw [if_neg d, if_pos (by omega)]
          obtain ⟨b2, m2, b2', e1, e2, e3, e4, e5, e6⟩ := X56_reign_I hR hv hvv hl k f f' l (p - l + 1) l o2 (p + 1) (by omega) (by omega) (by omega) (by omega) q1 (by omega) ⟨by omega, by omega, by omega, by omega⟩ (by omega)
          exact ⟨b2, m2, b2', e1, e2, e3, e4, by omega, by omega⟩
    by_cases e : V p = v
    · rw [if_neg (not_not_intro e), if_neg (not_not_intro e), sob, sob]
      simp (disch := omega) only [z_0, z_1, z_2, z_3, z_4, z_5, z_6, z_7, z_8, z_9, z_12, z_20, z_120, z_121, z_880, z_900, z_999, z_1000, zI_neg, zI_add, zI_sub, zI_mul, zI_lt, zI_le, zI_eq, sob, bz_0, Classical.not_not]
      exact key (o + 1) (by omega) (by omega)
    · rw [if_pos e, if_pos e, sob, sob]
      simp (disch := omega) only [Int.add_zero, z_0, z_1, z_2, z_3, z_4, z_5, z_6, z_7, z_8, z_9, z_12, z_20, z_120, z_121, z_880, z_900, z_999, z_1000, zI_neg, zI_add, zI_sub, zI_mul, zI_lt, zI_le, zI_eq, sob, bz_0, Classical.not_not]
      exact key o (by omega) (by omega)
theorem X56_reign_O {row : RowT} {value weight : Nat → Int32} {n : Int} {V G : Int → Int} (hR : Rw row n V G) (hv : Rv value weight n V G) {v : Int} (hvv : 0 ≤ v ∧ v < 1000) : ∀ (k f f' : Nat) (b m b' l : Int), k < f → k < f' → 0 ≤ l → n = l + k → rgR b m b' → (0 < m → b + m ≤ n) →
    ∃ b2 m2 b2', mX5_reign_L25 row (zI v) f (zI b) (zI m) (zI l) = some (zI b2, zI m2) ∧ mX6_reign_L32 value (zI n) (zI v) f' (zI b') (zI m) (zI l) = some (zI b2', zI m2) ∧ rgR b2 m2 b2' ∧ (0 < m2 → b2 + m2 ≤ n)
  | k, 0, f', b, m, b', l, h, _, _, _, _, _ => absurd h (Nat.not_lt_zero k)
  | k, f + 1, 0, b, m, b', l, _, h, _, _, _, _ => absurd h (Nat.not_lt_zero k)
  | 0, f + 1, f' + 1, b, m, b', l, _, _, hp, hk, hg, hbm => by
    have hn := hR.1
    have hs := hR.2.1
    have g2 := hg.2.1
    simp (disch := omega) only [mX5_reign_L25, mX6_reign_L32, hs, z_0, z_1, z_2, z_3, z_4, z_5, z_6, z_7, z_8, z_9, z_12, z_20, z_120, z_121, z_880, z_900, z_999, z_1000, zI_neg, zI_add, zI_sub, zI_mul, zI_lt, zI_le, zI_eq, sob, bz_0, Classical.not_not]
    rw [if_pos (show n - m ≤ l by omega), if_pos (show n ≤ l by omega)]
    exact ⟨b, m, b', rfl, rfl, hg, hbm⟩
  | k + 1, f + 1, f' + 1, b, m, b', l, h, h', hp, hk, hg, hbm => by
    have hn := hR.1
    have hs := hR.2.1
    have g2 := hg.2.1
    obtain ⟨b2, m2, b2', e1, e2, e3, e4, e5, e6⟩ := X56_reign_I hR hv hvv (l := l) hp (n - l).toNat FU FU b m b' 0 l (by rw [FU_e]; omega) (by rw [FU_e]; omega) (by omega) (by omega) (by omega) (by omega) hg hbm
    by_cases c : n - m ≤ l
    · -- the class stops: nothing comes of the rest
      obtain ⟨rfl, rfl, rfl⟩ := e6 (by omega)
      obtain ⟨b3, m3, b3', f1, f2, f3, f4⟩ := X56_reign_O hR hv hvv k (f + 1) f' b2 m2 b2' (l + 1) (by omega) (by omega) (by omega) (by omega) hg hbm
      simp (disch := omega) only [mX5_reign_L25, hs, z_0, z_1, z_2, z_3, z_4, z_5, z_6, z_7, z_8, z_9, z_12, z_20, z_120, z_121, z_880, z_900, z_999, z_1000, zI_neg, zI_add, zI_sub, zI_mul, zI_lt, zI_le, zI_eq, sob, bz_0, Classical.not_not] at f1 ⊢
      rw [if_pos (show n - m2 ≤ l + 1 by omega)] at f1
      rw [if_pos c]
      simp (disch := omega) only [mX6_reign_L32, zI_le]
      rw [if_neg (show ¬ n ≤ l by omega), show (0 : Int32) = zI 0 from rfl, e2, sob]
      simp (disch := omega) only [z_0, z_1, z_2, z_3, z_4, z_5, z_6, z_7, z_8, z_9, z_12, z_20, z_120, z_121, z_880, z_900, z_999, z_1000, zI_neg, zI_add, zI_sub, zI_mul, zI_lt, zI_le, zI_eq, sob, bz_0, Classical.not_not]
      exact ⟨b3, m3, b3', f1, f2, f3, f4⟩
    · obtain ⟨b3, m3, b3', f1, f2, f3, f4⟩ := X56_reign_O hR hv hvv k f f' b2 m2 b2' (l + 1) (by omega) (by omega) (by omega) (by omega) e3 e4
      simp (disch := omega) only [mX5_reign_L25, mX6_reign_L32, hs, z_0, z_1, z_2, z_3, z_4, z_5, z_6, z_7, z_8, z_9, z_12, z_20, z_120, z_121, z_880, z_900, z_999, z_1000, zI_neg, zI_add, zI_sub, zI_mul, zI_lt, zI_le, zI_eq, sob, bz_0, Classical.not_not]
      rw [if_neg c, if_neg (show ¬ n ≤ l by omega), e1, e2, sob, sob]
      simp (disch := omega) only [z_0, z_1, z_2, z_3, z_4, z_5, z_6, z_7, z_8, z_9, z_12, z_20, z_120, z_121, z_880, z_900, z_999, z_1000, zI_neg, zI_add, zI_sub, zI_mul, zI_lt, zI_le, zI_eq, sob, bz_0, Classical.not_not]
      exact ⟨b3, m3, b3', f1, f2, f3, f4⟩
theorem P_reign {row : RowT} {value weight : Nat → Int32} {n : Int} {V G : Int → Int} (hR : Rw row n V G) (hv : Rv value weight n V G) (th x1 x2 : Int32) :
    ∃ a, mX5_reign row x1 x2 = some a ∧ mX6_reign th value (zI n) x1 x2 = some (a, 0) := by
  obtain ⟨v, hvv, rfl⟩ := zI_ex x1
  obtain ⟨w, hw, rfl⟩ := zI_ex x2
  obtain ⟨hs, hn⟩ := hR.ok
  simp (disch := omega) only [mX5_reign, mX6_reign, X5_isValue_z hvv, X6_isValue_z hvv, X5_isBelow_z hw, z_0, z_1, z_2, z_3, z_4, z_5, z_6, z_7, z_8, z_9, z_12, z_20, z_120, z_121, z_880, z_900, z_999, z_1000, zI_neg, zI_add, zI_sub, zI_mul, zI_lt, zI_le, zI_eq, sob, bz_0, Classical.not_not]
  by_cases d : 0 ≤ v ∧ v < 1000
  · simp only [d, not_true_eq_false, not_false_eq_true, and_self, and_true, true_and, reduceIte]
    by_cases c : 0 ≤ w ∧ w < 2
    · rw [if_pos c, if_neg (show ¬ w < 0 by omega), if_pos (show w ≤ 1 by omega)]
      obtain ⟨b, m, b', e1, e2, e3, e4⟩ := X56_reign_O hR hv d n.toNat FU FU 0 0 (-2) 0 (by rw [FU_e]; omega) (by rw [FU_e]; omega) (by omega) (by omega) ⟨by omega, by omega, by omega, by omega⟩ (by omega)
      obtain ⟨g1, g2, g3, g4⟩ := e3
      rw [e1, e2, sob, sob, X5_spanTold_z hR (by omega) (by omega) (by omega) (by omega), sob]
      by_cases m0 : m = 0
      · rw [if_pos m0, g3 m0]
        exact ⟨_, rfl, rfl⟩
      · rw [g4 (by omega), if_neg m0, if_neg (show ¬ w = 2 by omega)]
        simp (disch := omega) only [z_0, z_1, z_2, z_3, z_4, z_5, z_6, z_7, z_8, z_9, z_12, z_20, z_120, z_121, z_880, z_900, z_999, z_1000, zI_neg, zI_add, zI_sub, zI_mul, zI_lt, zI_le, zI_eq, sob, bz_0, Classical.not_not]
        rw [if_neg (show ¬ b = -2 by omega)]
        by_cases w0 : w = 0
        · rw [if_pos w0, if_neg (show ¬ ¬ w = 0 by omega)]; exact ⟨_, rfl, rfl⟩
        · rw [if_neg w0, if_pos w0]; exact ⟨_, rfl, rfl⟩
    · rw [if_neg c]
      by_cases w0 : w < 0
      · rw [if_pos w0]; exact ⟨_, rfl, rfl⟩
      · rw [if_neg w0, if_neg (show ¬ w ≤ 1 by omega)]; exact ⟨_, rfl, rfl⟩
  · simp only [d, not_true_eq_false, not_false_eq_true, and_self, and_true, true_and, reduceIte]
    exact ⟨_, rfl, rfl⟩
/-! tightest -/
theorem X6_tight_I {value weight : Nat → Int32} {n x : Int} {V G : Int → Int} (hv : Rv value weight n V G) (hx : 0 ≤ x ∧ x < n) {c : Int} (hc2 : c < 2147483648) : ∀ (k f : Nat) (o p : Int), k + 1 < f → 0 ≤ p → n = p + k → 0 ≤ o → o < c → o ≤ p →
    ∃ o' p', mX6_tightest_L47 value (zI n) (zI c) (zI x) f (zI o) (zI p) = some (zI o', zI p') ∧ 0 ≤ o' ∧ o' ≤ c ∧ p ≤ p' ∧ p' ≤ n ∧ (nxT V (V x) (c - o) p k = -2 → o' < c) ∧ (nxT V (V x) (c - o) p k ≠ -2 → o' = c ∧ p' = nxT V (V x) (c - o) p k + 1)
  | k, 0, o, p, h, _, _, _, _, _ => absurd h (Nat.not_lt_zero _)
  | 0, f + 1, o, p, _, hp, hk, ho, hoc, hop => by
    have hn := hv.1
    simp (disch := omega) only [mX6_tightest_L47, z_0, z_1, z_2, z_3, z_4, z_5, z_6, z_7, z_8, z_9, z_12, z_20, z_120, z_121, z_880, z_900, z_999, z_1000, zI_neg, zI_add, zI_sub, zI_mul, zI_lt, zI_le, zI_eq, sob, bz_0, Classical.not_not]
    rw [if_pos (show n ≤ p by omega)]
    exact ⟨o, p, rfl, ho, by omega, by omega, by omega, fun _ => hoc, fun h => absurd rfl h⟩
  | k + 1, f + 1, o, p, h, hp, hk, ho, hoc, hop => by
    obtain ⟨hn2, hV, hG, hB⟩ := id hv
    have hb := hB p (by omega) (by omega)
    have hb2 := hB x hx.1 hx.2
    simp (disch := omega) only [mX6_tightest_L47, rd_A hV, z_0, z_1, z_2, z_3, z_4, z_5, z_6, z_7, z_8, z_9, z_12, z_20, z_120, z_121, z_880, z_900, z_999, z_1000, zI_neg, zI_add, zI_sub, zI_mul, zI_lt, zI_le, zI_eq, sob, bz_0, Classical.not_not]
    rw [if_neg (show ¬ n ≤ p by omega), if_neg (show ¬ c ≤ o by omega)]
    simp only [nxT, Int.add_zero]
    by_cases e : V p = V x
    · rw [if_neg (not_not_intro e), if_pos e]
      by_cases d : c - o = 1
      · rw [if_pos d]
        cases f with
        | zero => omega
        | succ f =>
          simp (disch := omega) only [mX6_tightest_L47, z_0, z_1, z_2, z_3, z_4, z_5, z_6, z_7, z_8, z_9, z_12, z_20, z_120, z_121, z_880, z_900, z_999, z_1000, zI_neg, zI_add, zI_sub, zI_mul, zI_lt, zI_le, zI_eq, sob, bz_0, Classical.not_not]
          have hfin : ∃ o' p', (some (zI (o + 1), zI (p + 1)) : Option (Int32 × Int32)) = some (zI o', zI p') ∧ 0 ≤ o' ∧ o' ≤ c ∧ p ≤ p' ∧ p' ≤ n ∧ (p = -2 → o' < c) ∧ (p ≠ -2 → o' = c ∧ p' = p + 1) := ⟨o + 1, p + 1, rfl, by omega, by omega, by omega, by omega, by omega, fun _ => by omega⟩
          by_cases z : n ≤ p + 1
          · rw [if_pos z]; exact hfin
          · rw [if_neg z, if_pos (show c ≤ o + 1 by omega)]; exact hfin
      · rw [if_neg d]
        obtain ⟨o', p', h1, h2, h3, h4, h5, h6⟩ := X6_tight_I hv hx hc2 k f (o + 1) (p + 1) (by omega) (by omega) (by omega) (by omega) (by omega) (by omega)
        rw [show c - o - 1 = c - (o + 1) by omega]
        exact ⟨o', p', h1, h2, h3, by omega, h5, h6⟩
    · rw [if_pos e, if_neg e]
      obtain ⟨o', p', h1, h2, h3, h4, h5, h6⟩ := X6_tight_I hv hx hc2 k f o (p + 1) (by omega) (by omega) (by omega) (by omega) (by omega) (by omega)
      exact ⟨o', p', h1, h2, h3, by omega, h5, h6⟩
/-- (b, m) of the class, (b', m') of the reference -/
def tgR (n b m b' m' : Int) : Prop := (0 ≤ b ∧ b ≤ 120) ∧ (0 ≤ m ∧ m ≤ 120) ∧ (m = 0 → b' = -2 ∧ m' = 121) ∧ (0 < m → b' = b ∧ m' = m ∧ b + m ≤ n)
theorem X56_tight_O {row : RowT} {value weight : Nat → Int32} {n : Int} {V G : Int → Int} (hR : Rw row n V G) (hv : Rv value weight n V G) {c : Int} (hc : 1 ≤ c ∧ c < 2147483648) : ∀ (k f f' : Nat) (b m b' m' l : Int), k < f → k < f' → 0 ≤ l → n = l + k → tgR n b m b' m' →
    ∃ b2 m2 b2' m2', mX5_tightest_L23 row (zI c) f (zI b) (zI m) (zI l) = some (zI b2, zI m2) ∧ mX6_tightest_L31 value (zI n) (zI c) f' (zI b') (zI m') (zI l) = some (zI b2', zI m2') ∧ tgR n b2 m2 b2' m2'
  | k, 0, f', b, m, b', m', l, h, _, _, _, _ => absurd h (Nat.not_lt_zero k)
  | k, f + 1, 0, b, m, b', m', l, _, h, _, _, _ => absurd h (Nat.not_lt_zero k)
  | 0, f + 1, f' + 1, b, m, b', m', l, _, _, hp, hk, hg => by
    have hn := hR.1
    have hs := hR.2.1
    simp (disch := omega) only [mX5_tightest_L23, mX6_tightest_L31, hs, z_0, z_1, z_2, z_3, z_4, z_5, z_6, z_7, z_8, z_9, z_12, z_20, z_120, z_121, z_880, z_900, z_999, z_1000, zI_neg, zI_add, zI_sub, zI_mul, zI_lt, zI_le, zI_eq, sob, bz_0, Classical.not_not]
    rw [if_pos (show n ≤ l by omega), if_pos (show n ≤ l by omega)]
    exact ⟨b, m, b', m', rfl, rfl, hg⟩
  | k + 1, f + 1, f' + 1, b, m, b', m', l, h, h', hp, hk, hg => by
    obtain ⟨hn2, hs, hV, hG, hB⟩ := id hR
    have hb := hB l (by omega) (by omega)
    obtain ⟨g1, g2, g3, g4⟩ := id hg
    have hgm : 0 ≤ m' ∧ m' ≤ 121 := by
      by_cases z : m = 0
      · have := (g3 z).2; omega
      · have := (g4 (by omega)).2.1; omega
    obtain ⟨o', p', h1, h2, h3, h4, h5, h6, h7⟩ := X6_tight_I hv (x := l) (by omega) hc.2 (n - l).toNat FU 0 l (by rw [FU_e]; omega) (by omega) (by omega) (by omega) (by omega) (by omega)
    rw [show c - 0 = c by omega] at h6 h7
    have hx := nxT_in V (V l) (n - l).toNat c l
    simp (disch := omega) only [mX5_tightest_L23, mX6_tightest_L31, hs, rd_A hV, X2_nth_z hR hb.1, h1, z_0, z_1, z_2, z_3, z_4, z_5, z_6, z_7, z_8, z_9, z_12, z_20, z_120, z_121, z_880, z_900, z_999, z_1000, zI_neg, zI_add, zI_sub, zI_mul, zI_lt, zI_le, zI_eq, sob, bz_0, Classical.not_not]
    rw [if_neg (show ¬ n ≤ l by omega), if_neg (show ¬ n ≤ l by omega)]
    by_cases e : nxT V (V l) c l (n - l).toNat = -2
    · rw [if_pos e, if_pos (h6 e)]
      exact X56_tight_O hR hv hc k f f' b m b' m' (l + 1) (by omega) (by omega) (by omega) (by omega) hg
    · obtain ⟨q1, q2⟩ := h7 e
      rw [if_neg e, if_neg (show ¬ o' < c by omega)]
      by_cases d : m = 0
      · obtain ⟨q3, q4⟩ := g3 d
        rw [if_pos d, if_pos (show p' - l < m' by omega), q2, show nxT V (V l) c l (n - l).toNat + 1 - l = nxT V (V l) c l (n - l).toNat - l + 1 by omega]
        exact X56_tight_O hR hv hc k f f' l _ l _ (l + 1) (by omega) (by omega) (by omega) (by omega) ⟨by omega, by omega, by omega, fun _ => ⟨rfl, rfl, by omega⟩⟩
      · obtain ⟨q3, q4, q5⟩ := g4 (by omega)
        rw [if_neg d]
        by_cases y : m ≤ nxT V (V l) c l (n - l).toNat - l + 1
        · rw [if_pos y, if_neg (show ¬ p' - l < m' by omega)]
          exact X56_tight_O hR hv hc k f f' b m b' m' (l + 1) (by omega) (by omega) (by omega) (by omega) hg
        · rw [if_neg y, if_pos (show p' - l < m' by omega), q2, show nxT V (V l) c l (n - l).toNat + 1 - l = nxT V (V l) c l (n - l).toNat - l + 1 by omega]
          exact X56_tight_O hR hv hc k f f' l _ l _ (l + 1) (by omega) (by omega) (by omega) (by omega) ⟨by omega, by omega, by omega, fun _ => ⟨rfl, rfl, by omega⟩⟩
theorem P_tightest {row : RowT} {value weight : Nat → Int32} {n : Int} {V G : Int → Int} (hR : Rw row n V G) (hv : Rv value weight n V G) (th x1 x2 : Int32) :
    ∃ a, mX5_tightest row x1 x2 = some a ∧ mX6_tightest th value (zI n) x1 x2 = some (a, 0) := by
  obtain ⟨c, hc, rfl⟩ := zI_ex x1
  obtain ⟨w, hw, rfl⟩ := zI_ex x2
  obtain ⟨hs, hn⟩ := hR.ok
  simp (disch := omega) only [mX5_tightest, mX6_tightest, X5_isBelow_z hw, z_0, z_1, z_2, z_3, z_4, z_5, z_6, z_7, z_8, z_9, z_12, z_20, z_120, z_121, z_880, z_900, z_999, z_1000, zI_neg, zI_add, zI_sub, zI_mul, zI_lt, zI_le, zI_eq, sob, bz_0, Classical.not_not]
  by_cases d : c < 1
  · rw [if_pos d, if_pos d]; exact ⟨_, rfl, rfl⟩
  · rw [if_neg d, if_neg d]
    by_cases e : 0 ≤ w ∧ w < 3
    · rw [if_pos e, if_neg (show ¬ w < 0 by omega), if_pos (show w ≤ 2 by omega)]
      obtain ⟨b, m, b', m', e1, e2, e3⟩ := X56_tight_O hR hv (c := c) (by omega) n.toNat FU FU 0 0 (-2) 121 0 (by rw [FU_e]; omega) (by rw [FU_e]; omega) (by omega) (by omega) ⟨by omega, by omega, fun _ => ⟨rfl, rfl⟩, by omega⟩
      obtain ⟨g1, g2, g3, g4⟩ := e3
      rw [e1, e2, sob, sob, X5_spanTold_z hR (by omega) (by omega) e (by omega), sob]
      by_cases m0 : m = 0
      · obtain ⟨q1, q2⟩ := g3 m0
        rw [if_pos m0, q1]
        exact ⟨_, rfl, rfl⟩
      · obtain ⟨q1, q2, q3⟩ := g4 (by omega)
        rw [q1, q2, if_neg m0]
        simp (disch := omega) only [z_0, z_1, z_2, z_3, z_4, z_5, z_6, z_7, z_8, z_9, z_12, z_20, z_120, z_121, z_880, z_900, z_999, z_1000, zI_neg, zI_add, zI_sub, zI_mul, zI_lt, zI_le, zI_eq, sob, bz_0, Classical.not_not]
        rw [if_neg (show ¬ b = -2 by omega)]
        by_cases w0 : w = 0
        · rw [if_neg (show ¬ w = 2 by omega), if_pos w0, if_neg (show ¬ ¬ w = 0 by omega)]; exact ⟨_, rfl, rfl⟩
        · rw [if_pos w0]
          by_cases w1 : w = 1
          · rw [if_neg (show ¬ w = 2 by omega), if_neg w0, if_neg (not_not_intro w1)]; exact ⟨_, rfl, rfl⟩
          · rw [if_pos (show w = 2 by omega), if_pos w1, rd_A hv.2.1 (by omega) (by omega) (by omega) (by omega), sob]; exact ⟨_, rfl, rfl⟩
    · rw [if_neg e]
      by_cases w0 : w < 0
      · rw [if_pos w0]; exact ⟨_, rfl, rfl⟩
      · rw [if_neg w0, if_neg (show ¬ w ≤ 2 by omega)]; exact ⟨_, rfl, rfl⟩

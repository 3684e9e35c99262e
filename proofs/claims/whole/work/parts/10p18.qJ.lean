/-! PURE ROWS. wide, pair, count -/
/-- a: how many places from l on some value needs to stand c times -/
def wiP (t : Int) (V : Int → Int) (n c l a : Int) : Prop := (1 ≤ a ∧ a ≤ 121) ∧ ∀ r, l ≤ r → r < n → (c ≤ mxS t V l r ↔ a ≤ r - l + 1)
theorem X5_width_L {row : RowT} {n : Int} {V G : Int → Int} (hR : Rw row n V G) {t c l : Int} (hc : 1 ≤ c ∧ c < 2147483648) (hl : 0 ≤ l) : ∀ (k f : Nat) (p : Int) (T : TalT), k < f → l ≤ p → n = p + k → TalH t (spT V l (p - 1)) T → (∀ r, l ≤ r → r < p → mxS t V l r < c) →
    ∃ a T', mX5_widthWith_L13 row (zI c) (zI l) f (zI p) T = some (zI a, T') ∧ TalC T' ∧ wiP t V n c l a
  | k, 0, p, T, h, _, _, _, _ => absurd h (Nat.not_lt_zero k)
  | 0, f + 1, p, T, _, hp, hk, hT, hm => by
    obtain ⟨hs, hn⟩ := hR.ok
    rw [mX5_widthWith_L13, hs, if_pos (show zI n ≤ zI p by rw [zI_le (by omega) (by omega) (by omega) (by omega)]; omega)]
    refine ⟨121, T, rfl, hT.clean, by omega, fun r h0 h1 => ?_⟩
    have := hm r h0 (by omega)
    omega
  | k + 1, f + 1, p, T, h, hp, hk, hT, hm => by
    obtain ⟨hn, hs, hV, hG, hB⟩ := id hR
    have hBv := hR.bv
    obtain ⟨T1, e1, h1⟩ := X3_more_z hR hl hp (by omega) hT
    have m1 := mxS_in (t := t) hBv hl (show l ≤ p + 1 by omega) (by omega) hn.2
    rw [mX5_widthWith_L13, hs, if_neg (show ¬ zI n ≤ zI p by rw [zI_le (by omega) (by omega) (by omega) (by omega)]; omega), rd_A hV (by omega) (by omega) (by omega) (by omega), sob, e1, sob, X3_most_mx h1, sob, show cnT (spT V l p) (bsT t (spT V l p)) = mxS t V l p from rfl]
    by_cases d : mxS t V l p < c
    · rw [if_pos (show zI (mxS t V l p) < zI c by rw [zI_lt (by omega) (by omega) (by omega) (by omega)]; exact d), zI_a1]
      exact X5_width_L hR hc hl k f (p + 1) T1 (by omega) (by omega) (by omega) (by rw [show p + 1 - 1 = p by omega]; exact h1) (fun r h0 h2 => by
        by_cases e : r = p
        · rw [e]; exact d
        · exact hm r h0 (by omega))
    · rw [if_neg (show ¬ zI (mxS t V l p) < zI c by rw [zI_lt (by omega) (by omega) (by omega) (by omega)]; exact d), zI_sub, zI_a1]
      refine ⟨p - l + 1, T1, rfl, h1.clean, by omega, fun r h0 h2 => ?_⟩
      rcases Int.lt_or_le r p with q | q
      · have := hm r h0 q; omega
      · have := mxS_mono (t := t) hBv hl hn.2 (r - p).toNat p (by omega) (by omega)
        rw [show p + ((r - p).toNat : Int) = r by omega] at this
        omega
theorem X5_wide_1 {row : RowT} {n : Int} {V G : Int → Int} (hR : Rw row n V G) {t c : Int} (ht : 0 ≤ t ∧ t ≤ 3) (hc : 1 ≤ c ∧ c < 2147483648) : ∀ (k f : Nat) (l : Int) (T : TalT) (ah : Nat → Int32), k < f → 0 ≤ l → n = l + k → TalC T → (∀ j, 0 ≤ j → j < l → ∃ a, ah j.toNat = zI a ∧ wiP t V n c j a) →
    ∃ T' ah', mX5_wide_L9 (zI t) row (zI c) f (zI l) T ah = some (T', ah') ∧ TalC T' ∧ ∀ j, 0 ≤ j → j < n → ∃ a, ah' j.toNat = zI a ∧ wiP t V n c j a
  | k, 0, l, T, ah, h, _, _, _, _ => absurd h (Nat.not_lt_zero k)
  | 0, f + 1, l, T, ah, _, hl, hk, hT, ha => by
    obtain ⟨hs, hn⟩ := hR.ok
    rw [mX5_wide_L9, hs, if_pos (show zI n ≤ zI l by rw [zI_le (by omega) (by omega) (by omega) (by omega)]; omega)]
    exact ⟨T, ah, rfl, hT, fun j h0 h1 => ha j h0 (by omega)⟩
  | k + 1, f + 1, l, T, ah, h, hl, hk, hT, ha => by
    obtain ⟨hs, hn⟩ := hR.ok
    obtain ⟨T1, e1, h1⟩ := X3_begin_z hT ht
    obtain ⟨a, T2, e2, h2, h3⟩ := X5_width_L hR hc hl (n - l).toNat FU l T1 (by rw [FU_e]; omega) (by omega) (by omega) (by rw [spT_nil (by omega)]; exact h1) (fun r h0 h1 => by omega)
    have e3 : mX5_widthWith (zI t) row T (zI c) (zI l) = some (zI a, T2) := by
      unfold mX5_widthWith
      rw [e1, sob, e2]
    rw [mX5_wide_L9, hs, if_neg (show ¬ zI n ≤ zI l by rw [zI_le (by omega) (by omega) (by omega) (by omega)]; omega), e3, sob, wr_in (by omega) (by omega) (by omega), sob, zI_a1]
    exact X5_wide_1 hR ht hc k f (l + 1) T2 _ (by omega) (by omega) (by omega) h2 (fun j h0 h4 => by
      rw [upd_at (by omega) (by omega)]
      by_cases e : j = l
      · rw [if_pos e, e]; exact ⟨a, rfl, h3⟩
      · rw [if_neg e]; exact ha j h0 (by omega))
def wiA (t : Int) (V : Int → Int) (c w j : Int) : Prop := c ≤ mxS t V j (j + w - 1)
theorem X5_wide_2 {row : RowT} {n : Int} {V G : Int → Int} (hR : Rw row n V G) {t c w : Int} {ah : Nat → Int32} (hw : 1 ≤ w ∧ w ≤ n) (ha : ∀ j, 0 ≤ j → j < n → ∃ a, ah j.toNat = zI a ∧ wiP t V n c j a) : ∀ (k f : Nat) (g : Int), k < f → 0 ≤ g → n - w + 1 = g + k → (∀ j, 0 ≤ j → j < g → wiA t V c w j) →
    ∃ z, mX5_wide_L53 row ah (zI w) f (zI g) = some (zI z) ∧ (0 ≤ z ∧ z ≤ n) ∧ ((n - w < z ∧ ∀ j, 0 ≤ j → j ≤ n - w → wiA t V c w j) ∨ (z ≤ n - w ∧ ¬ wiA t V c w z))
  | k, 0, g, h, _, _, _ => absurd h (Nat.not_lt_zero k)
  | 0, f + 1, g, _, hg, hk, hp => by
    obtain ⟨hs, hn⟩ := hR.ok
    rw [mX5_wide_L53, hs, if_pos (show zI n - zI w < zI g by rw [zI_sub, zI_lt (by omega) (by omega) (by omega) (by omega)]; omega)]
    exact ⟨g, rfl, by omega, Or.inl ⟨by omega, fun j h0 h1 => hp j h0 (by omega)⟩⟩
  | k + 1, f + 1, g, h, hg, hk, hp => by
    obtain ⟨hs, hn⟩ := hR.ok
    obtain ⟨a, e1, h1, h2⟩ := ha g hg (by omega)
    have h3 := h2 (g + w - 1) (by omega) (by omega)
    rw [mX5_wide_L53, hs, if_neg (show ¬ zI n - zI w < zI g by rw [zI_sub, zI_lt (by omega) (by omega) (by omega) (by omega)]; omega), rd_in (by omega) (by omega) (by omega), e1, sob]
    by_cases d : w < a
    · rw [if_pos (show zI w < zI a by rw [zI_lt (by omega) (by omega) (by omega) (by omega)]; exact d)]
      exact ⟨g, rfl, by omega, Or.inr ⟨by omega, fun q => by have := h3.mp q; omega⟩⟩
    · rw [if_neg (show ¬ zI w < zI a by rw [zI_lt (by omega) (by omega) (by omega) (by omega)]; exact d), zI_a1]
      exact X5_wide_2 hR hw ha k f (g + 1) (by omega) (by omega) (by omega) (fun j h0 h4 => by
        by_cases e : j = g
        · rw [e]; exact h3.mpr (by omega)
        · exact hp j h0 (by omega))
theorem X6_wide_1 {value weight : Nat → Int32} {n : Int} {V G : Int → Int} (hv : Rv value weight n V G) {t c w : Int} (ht : 0 ≤ t ∧ t ≤ 3) (hc : 1 ≤ c ∧ c < 2147483648) (hw : 1 ≤ w ∧ w ≤ n) : ∀ (k f : Nat) (g fl : Int) (o fo la un : Nat → Int32) (um : Int32), k < f → 0 ≤ g → n - w + 1 = g + k → ((fl = 1 ∧ ∀ j, 0 ≤ j → j < g → wiA t V c w j) ∨ (fl = 0 ∧ ∃ j, 0 ≤ j ∧ j ≤ n - w ∧ ¬ wiA t V c w j)) →
    ∃ (fl' : Int) (z : CuT), mX6_wide_L27 value (zI n) (zI t) (zI c) (zI w) f (zI fl) (zI g) o fo la un um = some (zI fl', z) ∧ ((fl' = 1 ∧ ∀ j, 0 ≤ j → j ≤ n - w → wiA t V c w j) ∨ (fl' = 0 ∧ ∃ j, 0 ≤ j ∧ j ≤ n - w ∧ ¬ wiA t V c w j))
  | k, 0, g, fl, o, fo, la, un, um, h, _, _, _ => absurd h (Nat.not_lt_zero k)
  | 0, f + 1, g, fl, o, fo, la, un, um, _, hg, hk, hi => by
    have hn := hv.1
    rw [mX6_wide_L27, if_pos (show zI n < zI g + zI w by rw [zI_add, zI_lt (by omega) (by omega) (by omega) (by omega)]; omega)]
    refine ⟨fl, (o, fo, la, un, um), rfl, ?_⟩
    rcases hi with ⟨h1, h2⟩ | h1
    · exact Or.inl ⟨h1, fun j h0 h3 => h2 j h0 (by omega)⟩
    · exact Or.inr h1
  | k + 1, f + 1, g, fl, o, fo, la, un, um, h, hg, hk, hi => by
    have hn := hv.1
    have hBv := hv.bv
    rw [mX6_wide_L27, if_neg (show ¬ zI n < zI g + zI w by rw [zI_add, zI_lt (by omega) (by omega) (by omega) (by omega)]; omega)]
    rcases hi with ⟨h1, h2⟩ | ⟨h1, h2⟩
    · subst h1
      obtain ⟨z, e1, h3⟩ := X6_modeOf_z hv ht hg (show g ≤ g + w - 1 + 1 by omega) (by omega) o fo la un um
      have b1 := bsT_nn (t := t) h3.ok (spT_ne (by omega))
      have m1 := mxS_in (t := t) hBv hg (show g ≤ g + w - 1 + 1 by omega) (by omega) hn.2
      rw [if_neg (show ¬ zI 1 = 0 by decide), show zI g + zI w - 1 = zI (g + w - 1) by rw [zI_add, zI_m1], e1, sob]
      simp only []
      rw [rd_A h3.num b1.1 b1.2 (by omega) (by omega), sob, zI_a1, show cnT (spT V g (g + w - 1)) (bsT t (spT V g (g + w - 1))) = mxS t V g (g + w - 1) from rfl]
      by_cases d : mxS t V g (g + w - 1) < c
      · rw [if_pos (show zI (mxS t V g (g + w - 1)) < zI c by rw [zI_lt (by omega) (by omega) (by omega) (by omega)]; exact d)]
        exact X6_wide_1 hv ht hc hw k f (g + 1) 0 z.1 z.2.1 z.2.2.1 z.2.2.2.1 z.2.2.2.2 (by omega) (by omega) (by omega) (Or.inr ⟨rfl, g, hg, by omega, fun q => by unfold wiA at q; omega⟩)
      · rw [if_neg (show ¬ zI (mxS t V g (g + w - 1)) < zI c by rw [zI_lt (by omega) (by omega) (by omega) (by omega)]; exact d)]
        exact X6_wide_1 hv ht hc hw k f (g + 1) 1 z.1 z.2.1 z.2.2.1 z.2.2.2.1 z.2.2.2.2 (by omega) (by omega) (by omega) (Or.inl ⟨rfl, fun j h0 h4 => by
          by_cases e : j = g
          · rw [e]; unfold wiA; omega
          · exact h2 j h0 (by omega)⟩)
    · subst h1
      rw [if_pos (show zI 0 = (0 : Int32) from rfl)]
      exact ⟨0, (o, fo, la, un, um), rfl, Or.inr ⟨rfl, h2⟩⟩
theorem X56_wide_O {row : RowT} {value weight : Nat → Int32} {n t c : Int} {V G : Int → Int} {T : TalT} {ah : Nat → Int32} {th : Int32} (hR : Rw row n V G) (hv : Rv value weight n V G) (ht : 0 ≤ t ∧ t ≤ 3) (hc : 1 ≤ c ∧ c < 2147483648) (ha : ∀ j, 0 ≤ j → j < n → ∃ a, ah j.toNat = zI a ∧ wiP t V n c j a) : ∀ (k f f' : Nat) (w : Int) (o fo la un : Nat → Int32) (um : Int32), k < f → k < f' → 1 ≤ w → n + 1 = w + k →
    ∃ (a : Int32) (z : CuT), mX5_wide_L40 row T ah f (zI w) = some (a, T, ah) ∧ mX6_wide_L14 th value (zI n) (zI t) (zI c) f' (zI w) o fo la un um = some (a, th, z)
  | k, 0, f', w, o, fo, la, un, um, h, _, _, _ => absurd h (Nat.not_lt_zero k)
  | k, f + 1, 0, w, o, fo, la, un, um, _, h, _, _ => absurd h (Nat.not_lt_zero k)
  | 0, f + 1, f' + 1, w, o, fo, la, un, um, _, _, hw, hk => by
    obtain ⟨hs, hn⟩ := hR.ok
    rw [mX5_wide_L40, hs, if_pos (show zI n < zI w by rw [zI_lt (by omega) (by omega) (by omega) (by omega)]; omega), mX6_wide_L14, if_pos (show zI n < zI w by rw [zI_lt (by omega) (by omega) (by omega) (by omega)]; omega)]
    exact ⟨_, (o, fo, la, un, um), rfl, rfl⟩
  | k + 1, f + 1, f' + 1, w, o, fo, la, un, um, h, h', hw, hk => by
    obtain ⟨hs, hn⟩ := hR.ok
    obtain ⟨z, e1, hz, h1⟩ := X5_wide_2 hR (t := t) (c := c) (w := w) (by omega) ha (n - w + 1).toNat FU 0 (by rw [FU_e]; omega) (by omega) (by omega) (fun j h0 h1 => by omega)
    obtain ⟨fl, z2, e2, h2⟩ := X6_wide_1 hv ht hc (w := w) (by omega) (n - w + 1).toNat FU 0 1 o fo la un um (by rw [FU_e]; omega) (by omega) (by omega) (Or.inl ⟨rfl, fun j h0 h1 => by omega⟩)
    rw [mX5_wide_L40, hs, if_neg (show ¬ zI n < zI w by rw [zI_lt (by omega) (by omega) (by omega) (by omega)]; omega), show (0 : Int32) = zI 0 from rfl, e1, sob, mX6_wide_L14, if_neg (show ¬ zI n < zI w by rw [zI_lt (by omega) (by omega) (by omega) (by omega)]; omega), show (1 : Int32) = zI 1 from rfl, show (0 : Int32) = zI 0 from rfl, e2, sob, zI_sub]
    simp (disch := omega) only [zI_le]
    rcases h1 with ⟨a1, a2⟩ | ⟨a1, a2⟩
    · rw [if_neg (show ¬ z ≤ n - w by omega)]
      rcases h2 with ⟨b1, b2⟩ | ⟨b1, j, b2, b3, b4⟩
      · rw [b1, if_neg (show ¬ zI 1 = zI 0 by decide)]
        exact ⟨_, z2, rfl, rfl⟩
      · exact absurd (a2 j b2 b3) b4
    · rw [if_pos a1]
      rcases h2 with ⟨b1, b2⟩ | ⟨b1, j, b2, b3, b4⟩
      · exact absurd (b2 z (by omega) a1) a2
      · rw [b1, if_pos rfl, zI_add]
        exact X56_wide_O hR hv ht hc ha k f f' (w + 1) z2.1 z2.2.1 z2.2.2.1 z2.2.2.2.1 z2.2.2.2.2 (by omega) (by omega) (by omega) (by omega)
theorem P_wide {row : RowT} {value weight : Nat → Int32} {n t : Int} {V G : Int → Int} {T : TalT} (hR : Rw row n V G) (hv : Rv value weight n V G) (ht : 0 ≤ t ∧ t ≤ 3) (hT : TalC T) (th : Int32) (ah : Nat → Int32) (o fo la un : Nat → Int32) (um x1 : Int32) :
    ∃ (a : Int32) (T' : TalT) (ah' : Nat → Int32) (z : CuT), mX5_wide (zI t) row T ah x1 = some (a, T', ah') ∧ TalC T' ∧ mX6_wide th value (zI n) (zI t) o fo la un um x1 = some (a, 0, z) := by
  obtain ⟨c, hc, rfl⟩ := zI_ex x1
  obtain ⟨hs, hn⟩ := hR.ok
  unfold mX5_wide mX6_wide
  by_cases d : 1 ≤ c
  · rw [if_pos (show 1 ≤ zI c by rw [z_1, zI_le (by omega) (by omega) (by omega) (by omega)]; exact d), if_pos (show 1 ≤ zI c by rw [z_1, zI_le (by omega) (by omega) (by omega) (by omega)]; exact d)]
    obtain ⟨T1, ah1, e1, h1, h2⟩ := X5_wide_1 hR ht (c := c) (by omega) n.toNat FU 0 T ah (by rw [FU_e]; omega) (by omega) (by omega) hT (fun j h0 h1 => by omega)
    obtain ⟨a, z, e2, e3⟩ := X56_wide_O (T := T1) (th := 0) hR hv ht (c := c) (by omega) h2 n.toNat FU FU 1 o fo la un um (by rw [FU_e]; omega) (by rw [FU_e]; omega) (by omega) (by omega)
    rw [show (0 : Int32) = zI 0 from rfl, e1, sob, show (1 : Int32) = zI 1 from rfl]
    simp only []
    rw [e2, show zI 0 = (0 : Int32) from rfl, e3]
    exact ⟨_, _, _, _, rfl, h1, rfl⟩
  · rw [if_neg (show ¬ 1 ≤ zI c by rw [z_1, zI_le (by omega) (by omega) (by omega) (by omega)]; exact d), if_neg (show ¬ 1 ≤ zI c by rw [z_1, zI_le (by omega) (by omega) (by omega) (by omega)]; exact d)]
    exact ⟨_, _, _, (o, fo, la, un, um), rfl, hT, rfl⟩
/-! blocks: b places each, N of them -/
def blN (n b : Int) : Int := (n + b - 1) / b
theorem blN_in {n b : Int} (hn : 0 ≤ n ∧ n ≤ 120) (hb : 2 ≤ b ∧ b ≤ 20) : (0 ≤ blN n b ∧ blN n b ≤ 120) ∧ blN n b * b ≤ n + b - 1 ∧ n ≤ blN n b * b := by
  unfold blN
  have h1 := Int.ediv_mul_le (n + b - 1) (show b ≠ 0 by omega)
  have h2 := Int.lt_ediv_add_one_mul_self (n + b - 1) (show 0 < b by omega)
  have h3 : 0 ≤ (n + b - 1) / b := Int.ediv_nonneg (by omega) (by omega)
  rw [Int.add_mul, Int.one_mul] at h2
  have h4 : (n + b - 1) / b * 2 ≤ (n + b - 1) / b * b := Int.mul_le_mul_of_nonneg_left hb.1 h3
  omega
theorem blN_lt {n b j : Int} (hn : 0 ≤ n ∧ n ≤ 120) (hb : 2 ≤ b ∧ b ≤ 20) (hj : 0 ≤ j) : j < blN n b ↔ j * b < n := by
  obtain ⟨h1, h2, h3⟩ := blN_in hn hb
  constructor
  · intro h
    have h4 : (j + 1) * b ≤ blN n b * b := Int.mul_le_mul_of_nonneg_right (by omega) (by omega)
    rw [Int.add_mul, Int.one_mul] at h4
    omega
  · intro h
    rcases Int.lt_or_le j (blN n b) with q | q
    · exact q
    · have h4 : blN n b * b ≤ j * b := Int.mul_le_mul_of_nonneg_right q (by omega)
      omega
theorem mul_in {j b : Int} (hj : 0 ≤ j ∧ j ≤ 121) (hb : 2 ≤ b ∧ b ≤ 20) : 0 ≤ j * b ∧ j * b ≤ 2420 ∧ j ≤ j * b := by
  have h1 : 0 ≤ j * b := Int.mul_nonneg hj.1 (by omega)
  have h2 : j * b ≤ j * 20 := Int.mul_le_mul_of_nonneg_left hb.2 hj.1
  have h3 : j * 2 ≤ j * b := Int.mul_le_mul_of_nonneg_left hb.1 hj.1
  omega
theorem X5_blocksOf_z {n b : Int} {row : RowT} (hs : row.2.2 = zI n) (hn : 0 ≤ n ∧ n ≤ 120) (hb : 2 ≤ b ∧ b ≤ 20) : mX5_blocksOf (zI b) row = some (zI (blN n b)) := by
  unfold mX5_blocksOf
  rw [hs, zI_add, zI_m1, idv_z (by omega) (by omega) (by omega) (by omega), sob]
  rfl
theorem X6_blocks_z {n b : Int} (hn : 0 ≤ n ∧ n ≤ 120) (hb : 2 ≤ b ∧ b ≤ 20) : mX6_blocks (zI n) (zI b) = some (zI (blN n b)) := by
  unfold mX6_blocks
  rw [zI_add, zI_m1, idv_z (by omega) (by omega) (by omega) (by omega), sob]
  rfl
/-- the end of a block: the place behind its last -/
def blE (n b j : Int) : Int := if (j + 1) * b < n then (j + 1) * b else n
theorem X5_blockEnd_z {n b j : Int} {row : RowT} (hs : row.2.2 = zI n) (hn : 0 ≤ n ∧ n ≤ 120) (hb : 2 ≤ b ∧ b ≤ 20) (hj : 0 ≤ j ∧ j ≤ 120) : mX5_blockEnd (zI b) row (zI j) = some (zI (blE n b j)) := by
  have h := mul_in (j := j + 1) (by omega) hb
  unfold mX5_blockEnd blE
  rw [hs, zI_a1, zI_mul]
  simp (disch := omega) only [zI_lt]
  by_cases c : (j + 1) * b < n
  · rw [if_pos c, if_pos c]
  · rw [if_neg c, if_neg c]
theorem X6_placesOf_z {n b j : Int} (hn : 0 ≤ n ∧ n ≤ 120) (hb : 2 ≤ b ∧ b ≤ 20) (hj : 0 ≤ j ∧ j ≤ 120) : mX6_placesOf (zI b) (zI j) (zI n) = some (zI (if n - b * j ≤ b then (if 0 ≤ n - b * j then n - b * j else 0) else b)) := by
  have h := mul_in (j := j) (by omega) hb
  rw [Int.mul_comm] at h
  unfold mX6_placesOf
  rw [zI_mul, zI_sub]
  simp (disch := omega) only [z_0, zI_le]
  by_cases c : n - b * j ≤ b
  · rw [if_pos c, if_pos c]
    by_cases d : 0 ≤ n - b * j
    · rw [if_pos d, if_pos d]
    · rw [if_neg d, if_neg d]
  · rw [if_neg c, if_neg c]
theorem X6_endOf_z {n b j : Int} (hn : 0 ≤ n ∧ n ≤ 120) (hb : 2 ≤ b ∧ b ≤ 20) (hj : 0 ≤ j ∧ j ≤ 120) (hjn : j * b ≤ n) : mX6_endOf (zI n) (zI b) (zI j) = some (zI (blE n b j - 1)) := by
  unfold mX6_endOf
  rw [X6_placesOf_z hn hb hj, sob, zI_mul, zI_add, zI_m1]
  congr 2
  unfold blE
  rw [Int.add_mul, Int.one_mul]
  have hc : b * j = j * b := Int.mul_comm b j
  by_cases c : n - b * j ≤ b
  · rw [if_pos c, if_pos (show 0 ≤ n - b * j by omega), if_neg (show ¬ j * b + b < n by omega)]; omega
  · rw [if_neg c, if_pos (show j * b + b < n by omega)]; omega
theorem P_pair {row : RowT} {value weight : Nat → Int32} {n t b : Int} {V G : Int → Int} {T : TalT} (hR : Rw row n V G) (hv : Rv value weight n V G) (ht : 0 ≤ t ∧ t ≤ 3) (hb : 2 ≤ b ∧ b ≤ 20) (hT : TalC T) (th : Int32) (o fo la un : Nat → Int32) (um x1 x2 x3 : Int32) :
    ∃ (a : Int32) (T' : TalT) (z : CuT), mX5_pair (zI b) (zI t) row T x1 x2 x3 = some (a, T') ∧ TalC T' ∧ mX6_pair th value (zI n) (zI b) (zI t) o fo la un um x1 x2 x3 = some (a, 0, z) := by
  obtain ⟨i, hi, rfl⟩ := zI_ex x1
  obtain ⟨j, hj, rfl⟩ := zI_ex x2
  obtain ⟨w, hw, rfl⟩ := zI_ex x3
  obtain ⟨hs, hn⟩ := hR.ok
  have hbl := blN_in hn hb
  simp (disch := omega) only [mX5_pair, mX6_pair, X5_blocksOf_z hs hn hb, X6_blocks_z hn hb, X5_isBelow_z hw, z_0, z_1, z_2, zI_neg, zI_lt, zI_le, sob]
  by_cases c1 : i < 0
  · rw [if_pos c1, if_pos c1]; exact ⟨_, _, (o, fo, la, un, um), rfl, hT, rfl⟩
  · rw [if_neg c1, if_neg c1]
    by_cases c2 : j < i
    · rw [if_pos c2, if_pos c2]; exact ⟨_, _, (o, fo, la, un, um), rfl, hT, rfl⟩
    · rw [if_neg c2, if_neg c2]
      by_cases c3 : blN n b ≤ j
      · rw [if_pos c3, if_pos c3]; exact ⟨_, _, (o, fo, la, un, um), rfl, hT, rfl⟩
      · rw [if_neg c3, if_neg c3]
        by_cases d : 0 ≤ w ∧ w < 2
        · have k1 := (blN_lt (j := j) hn hb (by omega)).mp (by omega)
          have k2 : i * b ≤ j * b := Int.mul_le_mul_of_nonneg_right (by omega) (by omega)
          have k3 := mul_in (j := i) (b := b) (by omega) hb
          have k4 : (j + 1) * b = j * b + b := by rw [Int.add_mul, Int.one_mul]
          have k5 : i * b ≤ blE n b j - 1 ∧ blE n b j ≤ n := by
            unfold blE
            by_cases q : (j + 1) * b < n
            · rw [if_pos q]; omega
            · rw [if_neg q]; omega
          obtain ⟨T', e1, h1⟩ := X5_tallySpan_z hR ht (l := i * b) (r := blE n b j - 1) (by omega) (by omega) (by omega) hT
          obtain ⟨z, e2, h2⟩ := X6_modeOf_z hv ht (l := i * b) (r := blE n b j - 1) (by omega) (by omega) (by omega) o fo la un um
          have hbm := bsT_mem (t := t) h1.ok (spT_ne k5.1)
          rw [bz_t d, if_pos (show ¬ (1 : Int32) = zI 0 from i1), if_neg (show ¬ w < 0 by omega), if_pos (show w ≤ 1 by omega), X5_blockEnd_z hs hn hb (by omega), sob, X6_endOf_z hn hb (by omega) (by omega), sob, zI_mul, zI_mul, Int.mul_comm b i, zI_sub, e1, sob, e2, sob, h1.best, X3_told_z (t := t) h1.1 hbm (by omega), sob]
          simp only []
          rw [X6_told_z h2 hbm (by omega), sob]
          refine ⟨_, _, z, rfl, h1.clean, ?_⟩
          unfold tdT
          by_cases w0 : w = 0
          · rw [if_pos w0, if_pos w0]
          · rw [if_neg w0, if_neg w0, if_pos (show w = 1 by omega), if_pos (show w = 1 by omega)]
        · rw [bz_f d, if_neg (show ¬ ¬ (0 : Int32) = zI 0 from i0n)]
          by_cases w0 : w < 0
          · rw [if_pos w0]; exact ⟨_, _, (o, fo, la, un, um), rfl, hT, rfl⟩
          · rw [if_neg w0, if_neg (show ¬ w ≤ 1 by omega)]; exact ⟨_, _, (o, fo, la, un, um), rfl, hT, rfl⟩

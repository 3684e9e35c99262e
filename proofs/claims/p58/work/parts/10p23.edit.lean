/-! PURE ROWS. An edit: tried, kept, made; both sides alike -/
theorem Ar_0 (f : Nat → Int32) (V : Int → Int) : Ar f 0 V := fun i h0 h1 => by omega
theorem Ar_ext {f : Nat → Int32} {p : Int} {V : Int → Int} (h : Ar f p V) (hp : 0 ≤ p) : Ar (upd f p.toNat (zI (V p))) (p + 1) V := (Ar_sn h hp).eq (fun i _ _ => by
  unfold pt
  by_cases e : i = p
  · rw [if_pos e, e]
  · rw [if_neg e])
theorem X2_take_L {o : RowT} {n : Int} {V G : Int → Int} (hR : Rw o n V G) : ∀ (k f : Nat) (p : Int) (t : RowT), k < f → 0 ≤ p → n = p + k → t.2.2 = zI n → Ar t.1 p V → Ar t.2.1 p G → ∃ t', mX2_take_L10 o f (zI p) t = some t' ∧ Rw t' n V G
  | k, 0, p, t, h, _, _, _, _, _ => absurd h (Nat.not_lt_zero k)
  | 0, f + 1, p, t, _, hp, hk, hs, h1, h2 => by
    have hn := hR.1
    rw [mX2_take_L10, hs, if_pos (show zI n ≤ zI p by rw [zI_le (by omega) (by omega) (by omega) (by omega)]; omega)]
    exact ⟨t, rfl, hn, hs, h1.sub (by omega), h2.sub (by omega), hR.2.2.2.2⟩
  | k + 1, f + 1, p, t, h, hp, hk, hs, h1, h2 => by
    obtain ⟨hn, hs2, hV, hG, hB⟩ := id hR
    rw [mX2_take_L10, if_neg (show ¬ t.2.2 ≤ zI p by rw [hs, zI_le (by omega) (by omega) (by omega) (by omega)]; omega), rd_A hV hp (by omega) (by omega) (by omega), sob, wr_in (by omega) (by omega) (by omega), sob, rd_A hG hp (by omega) (by omega) (by omega), sob, wr_in (by omega) (by omega) (by omega), sob, zI_a1]
    exact X2_take_L hR k f (p + 1) _ (by omega) (by omega) (by omega) hs (Ar_ext h1 hp) (Ar_ext h2 hp)
theorem X2_take_z {o : RowT} {n : Int} {V G : Int → Int} (hR : Rw o n V G) (t : RowT) : ∃ t', mX2_take t o = some t' ∧ Rw t' n V G := by
  have hn := hR.1
  obtain ⟨t', e, h⟩ := X2_take_L hR n.toNat FU 0 (t.1, t.2.1, o.2.2) (by rw [FU_e]; omega) (by omega) (by omega) hR.2.1 (Ar_0 _ _) (Ar_0 _ _)
  refine ⟨t', ?_, h⟩
  unfold mX2_take
  rw [show (0 : Int32) = zI 0 from rfl, e, sob]
theorem X6_begins_z {value weight : Nat → Int32} {n : Int} {V G : Int → Int} (hv : Rv value weight n V G) (tv tw : Nat → Int32) (tm : Int32) : ∃ tv' tw', mX6_begins value weight (zI n) tv tw tm = some (tv', tw', zI n) ∧ Rt tv' tw' n V G := by
  have hn := hv.1
  have L : ∀ (k f : Nat) (p : Int) (tv tw : Nat → Int32), k < f → 0 ≤ p → n = p + k → Ar tv p V → Ar tw p G → ∃ tv' tw', mX6_begins_L10 value weight (zI n) f (zI p) tv tw = some (tv', tw') ∧ Ar tv' n V ∧ Ar tw' n G := by
    intro k
    induction k with
    | zero =>
      intro f p tv tw hf hp hk h1 h2
      cases f with
      | zero => omega
      | succ f =>
        rw [mX6_begins_L10, if_pos (show zI n ≤ zI p by rw [zI_le (by omega) (by omega) (by omega) (by omega)]; omega)]
        exact ⟨tv, tw, rfl, h1.sub (by omega), h2.sub (by omega)⟩
    | succ k ih =>
      intro f p tv tw hf hp hk h1 h2
      cases f with
      | zero => omega
      | succ f =>
        rw [mX6_begins_L10, if_neg (show ¬ zI n ≤ zI p by rw [zI_le (by omega) (by omega) (by omega) (by omega)]; omega), rd_A hv.2.1 hp (by omega) (by omega) (by omega), sob, wr_in (by omega) (by omega) (by omega), sob, rd_A hv.2.2.1 hp (by omega) (by omega) (by omega), sob, wr_in (by omega) (by omega) (by omega), sob, zI_a1]
        exact ih f (p + 1) _ _ (by omega) (by omega) (by omega) (Ar_ext h1 hp) (Ar_ext h2 hp)
  obtain ⟨tv', tw', e, h1, h2⟩ := L n.toNat FU 0 tv tw (by rw [FU_e]; omega) (by omega) (by omega) (Ar_0 _ _) (Ar_0 _ _)
  refine ⟨tv', tw', ?_, hn, h1, h2, hv.2.2.2⟩
  unfold mX6_begins
  rw [show (0 : Int32) = zI 0 from rfl, e, sob]
theorem X6_becomes_z {value weight tv tw : Nat → Int32} {n n2 b : Int} {V G V2 G2 : Int → Int} {fr : Int32} (hv : Rv value weight n V G) (hN : Rt tv tw n2 V2 G2) (hb : 2 ≤ b ∧ b ≤ 20) : ∃ va we, mX6_becomes value weight (zI n) (zI b) fr tv tw (zI n2) = some (va, we, zI n2, zI (ouF (tcT b n V n2 V2) 0 (blN n2 b).toNat)) ∧ Rv va we n2 V2 G2 := by
  have hn2 := hN.1
  have L : ∀ (k f : Nat) (p : Int) (va we : Nat → Int32), k < f → 0 ≤ p → n2 = p + k → Ar va p V2 → Ar we p G2 → ∃ va' we', mX6_becomes_L18 (zI n2) tv tw f (zI p) va we = some (va', we') ∧ Ar va' n2 V2 ∧ Ar we' n2 G2 := by
    intro k
    induction k with
    | zero =>
      intro f p tv tw hf hp hk h1 h2
      cases f with
      | zero => omega
      | succ f =>
        rw [mX6_becomes_L18, if_pos (show zI n2 ≤ zI p by rw [zI_le (by omega) (by omega) (by omega) (by omega)]; omega)]
        exact ⟨tv, tw, rfl, h1.sub (by omega), h2.sub (by omega)⟩
    | succ k ih =>
      intro f p tv tw hf hp hk h1 h2
      cases f with
      | zero => omega
      | succ f =>
        rw [mX6_becomes_L18, if_neg (show ¬ zI n2 ≤ zI p by rw [zI_le (by omega) (by omega) (by omega) (by omega)]; omega), rd_A hN.2.1 hp (by omega) (by omega) (by omega), sob, wr_in (by omega) (by omega) (by omega), sob, rd_A hN.2.2.1 hp (by omega) (by omega) (by omega), sob, wr_in (by omega) (by omega) (by omega), sob, zI_a1]
        exact ih f (p + 1) _ _ (by omega) (by omega) (by omega) (Ar_ext h1 hp) (Ar_ext h2 hp)
  obtain ⟨va, we, e, h1, h2⟩ := L n2.toNat FU 0 value weight (by rw [FU_e]; omega) (by omega) (by omega) (Ar_0 _ _) (Ar_0 _ _)
  refine ⟨va, we, ?_, hn2, h1, h2, hN.2.2.2⟩
  unfold mX6_becomes
  rw [X6_freshPairs_z hv hN hb, sob, show (0 : Int32) = zI 0 from rfl, e, sob]
/-! alike -/
def smP (V G V2 G2 : Int → Int) (p : Int) (k : Nat) : Prop := ∀ i, p ≤ i → i < p + k → V2 i = V i ∧ G2 i = G i
theorem smP_s {V G V2 G2 : Int → Int} {p : Int} {k : Nat} : smP V G V2 G2 p (k + 1) ↔ (V2 p = V p ∧ G2 p = G p) ∧ smP V G V2 G2 (p + 1) k := by
  constructor
  · intro h
    exact ⟨h p (by omega) (by omega), fun i h0 h1 => h i (by omega) (by omega)⟩
  · rintro ⟨h1, h2⟩ i h3 h4
    by_cases e : i = p
    · rw [e]; exact h1
    · exact h2 i (by omega) (by omega)
theorem X2_isLike_L {nx row : RowT} {n : Int} {V G V2 G2 : Int → Int} (hR : Rw row n V G) (hN : Rw nx n V2 G2) : ∀ (k f : Nat) (p : Int), k < f → 0 ≤ p → n = p + k → (mX2_isLike_L15 nx row f (zI p) = some 1 ∧ smP V G V2 G2 p k) ∨ (mX2_isLike_L15 nx row f (zI p) = some 0 ∧ ¬ smP V G V2 G2 p k)
  | k, 0, p, h, _, _ => absurd h (Nat.not_lt_zero k)
  | 0, f + 1, p, _, hp, hk => by
    have hn := hR.1
    rw [mX2_isLike_L15, hN.2.1, if_pos (show zI n ≤ zI p by rw [zI_le (by omega) (by omega) (by omega) (by omega)]; omega)]
    exact Or.inl ⟨rfl, fun i h0 h1 => by omega⟩
  | k + 1, f + 1, p, h, hp, hk => by
    obtain ⟨hn, hs, hV, hG, hB⟩ := id hR
    obtain ⟨hn2, hs2, hV2, hG2, hB2⟩ := id hN
    have b1 := hB p hp (by omega)
    have b2 := hB2 p hp (by omega)
    rw [mX2_isLike_L15, hs2, if_neg (show ¬ zI n ≤ zI p by rw [zI_le (by omega) (by omega) (by omega) (by omega)]; omega), rd_A hV2 hp (by omega) (by omega) (by omega), sob, rd_A hV hp (by omega) (by omega) (by omega), sob, rd_A hG2 hp (by omega) (by omega) (by omega), sob, rd_A hG hp (by omega) (by omega) (by omega), sob, zI_a1]
    simp (disch := omega) only [zI_eq]
    rw [smP_s]
    by_cases e : V2 p = V p
    · rw [if_neg (not_not_intro e)]
      by_cases g : G2 p = G p
      · rw [if_pos g]
        rcases X2_isLike_L hR hN k f (p + 1) (by omega) (by omega) (by omega) with ⟨q1, q2⟩ | ⟨q1, q2⟩
        · exact Or.inl ⟨q1, ⟨e, g⟩, q2⟩
        · exact Or.inr ⟨q1, fun q => q2 q.2⟩
      · rw [if_neg g]; exact Or.inr ⟨rfl, fun q => g q.1.2⟩
    · rw [if_pos e]; exact Or.inr ⟨rfl, fun q => e q.1.1⟩
theorem X2_isLike_z {nx row : RowT} {n n2 : Int} {V G V2 G2 : Int → Int} (hR : Rw row n V G) (hN : Rw nx n2 V2 G2) : (mX2_isLike nx row = some 1 ∧ n2 = n ∧ smP V G V2 G2 0 n.toNat) ∨ (mX2_isLike nx row = some 0 ∧ ¬ (n2 = n ∧ smP V G V2 G2 0 n.toNat)) := by
  have hn := hR.1
  have hn2 := hN.1
  unfold mX2_isLike
  rw [hR.2.1, hN.2.1]
  by_cases e : n2 = n
  · subst e
    rw [if_pos rfl]
    rcases X2_isLike_L hR hN n2.toNat FU 0 (by rw [FU_e]; omega) (by omega) (by omega) with ⟨q1, q2⟩ | ⟨q1, q2⟩
    · exact Or.inl ⟨q1, rfl, q2⟩
    · exact Or.inr ⟨q1, fun q => q2 q.2⟩
  · rw [if_neg (by rw [zI_eq (by omega) (by omega) (by omega) (by omega)]; exact e)]
    exact Or.inr ⟨rfl, fun q => e q.1⟩
theorem X6_isOther_L {value weight tv tw : Nat → Int32} {n : Int} {V G V2 G2 : Int → Int} (hv : Rv value weight n V G) (hN : Rt tv tw n V2 G2) : ∀ (k f : Nat) (p : Int), k < f → 0 ≤ p → n = p + k → (mX6_isOther_L15 value weight (zI n) tv tw f (zI p) = some 0 ∧ smP V G V2 G2 p k) ∨ (mX6_isOther_L15 value weight (zI n) tv tw f (zI p) = some 1 ∧ ¬ smP V G V2 G2 p k)
  | k, 0, p, h, _, _ => absurd h (Nat.not_lt_zero k)
  | 0, f + 1, p, _, hp, hk => by
    have hn := hv.1
    rw [mX6_isOther_L15, if_pos (show zI n ≤ zI p by rw [zI_le (by omega) (by omega) (by omega) (by omega)]; omega)]
    exact Or.inl ⟨rfl, fun i h0 h1 => by omega⟩
  | k + 1, f + 1, p, h, hp, hk => by
    obtain ⟨hn, hV, hG, hB⟩ := id hv
    obtain ⟨hn2, hV2, hG2, hB2⟩ := id hN
    have b1 := hB p hp (by omega)
    have b2 := hB2 p hp (by omega)
    rw [mX6_isOther_L15, if_neg (show ¬ zI n ≤ zI p by rw [zI_le (by omega) (by omega) (by omega) (by omega)]; omega), rd_A hV2 hp (by omega) (by omega) (by omega), sob, rd_A hV hp (by omega) (by omega) (by omega), sob, rd_A hG2 hp (by omega) (by omega) (by omega), sob, rd_A hG hp (by omega) (by omega) (by omega), sob, zI_a1]
    simp (disch := omega) only [zI_eq]
    rw [smP_s]
    by_cases e : V2 p = V p
    · rw [if_neg (not_not_intro e)]
      by_cases g : G2 p = G p
      · rw [if_pos g]
        rcases X6_isOther_L hv hN k f (p + 1) (by omega) (by omega) (by omega) with ⟨q1, q2⟩ | ⟨q1, q2⟩
        · exact Or.inl ⟨q1, ⟨e, g⟩, q2⟩
        · exact Or.inr ⟨q1, fun q => q2 q.2⟩
      · rw [if_neg g]; exact Or.inr ⟨rfl, fun q => g q.1.2⟩
    · rw [if_pos e]; exact Or.inr ⟨rfl, fun q => e q.1.1⟩
theorem X6_isOther_z {value weight tv tw : Nat → Int32} {n n2 : Int} {V G V2 G2 : Int → Int} (hv : Rv value weight n V G) (hN : Rt tv tw n2 V2 G2) : (mX6_isOther value weight (zI n) tv tw (zI n2) = some 0 ∧ n2 = n ∧ smP V G V2 G2 0 n.toNat) ∨ (mX6_isOther value weight (zI n) tv tw (zI n2) = some 1 ∧ ¬ (n2 = n ∧ smP V G V2 G2 0 n.toNat)) := by
  have hn := hv.1
  have hn2 := hN.1
  unfold mX6_isOther
  by_cases e : n2 = n
  · subst e
    rw [if_pos rfl]
    rcases X6_isOther_L hv hN n2.toNat FU 0 (by rw [FU_e]; omega) (by omega) (by omega) with ⟨q1, q2⟩ | ⟨q1, q2⟩
    · exact Or.inl ⟨q1, rfl, q2⟩
    · exact Or.inr ⟨q1, fun q => q2 q.2⟩
  · rw [if_neg (by rw [zI_eq (by omega) (by omega) (by omega) (by omega)]; exact e)]
    exact Or.inr ⟨rfl, fun q => e q.1⟩
/-! how many places have another value -/
def otT (n : Int) (V V2 : Int → Int) : Int → Nat → Int
  | _, 0 => 0
  | p, k + 1 => (if (decide (n ≤ p) || !decide (V2 p = V p)) = true then 1 else 0) + otT n V V2 (p + 1) k
theorem X5_settle_L {nx row : RowT} {n n2 : Int} {V G V2 G2 : Int → Int} (hR : Rw row n V G) (hN : Rw nx n2 V2 G2) : ∀ (k f : Nat) (a p : Int), k < f → 0 ≤ p → n2 = p + k → mX5_settle_L20 row nx f (zI a) (zI p) = some (zI (a + otT n V V2 p k))
  | k, 0, a, p, h, _, _ => absurd h (Nat.not_lt_zero k)
  | 0, f + 1, a, p, _, hp, hk => by
    have hn2 := hN.1
    rw [mX5_settle_L20, hN.2.1, if_pos (show zI n2 ≤ zI p by rw [zI_le (by omega) (by omega) (by omega) (by omega)]; omega)]
    simp only [otT, Int.add_zero]
  | k + 1, f + 1, a, p, h, hp, hk => by
    have hn2 := hN.1
    rw [mX5_settle_L20, hN.2.1, if_neg (show ¬ zI n2 ≤ zI p by rw [zI_le (by omega) (by omega) (by omega) (by omega)]; omega), X2_isOtherThan_z hR hN (by omega), sob]
    simp only [zI_a1, otT]
    by_cases c : (decide (n ≤ p) || !decide (V2 p = V p)) = true
    · rw [bz_t c, if_neg i1, if_pos c, X5_settle_L hR hN k f _ (p + 1) (by omega) (by omega) (by omega), Int.add_assoc]
    · rw [bz_f c, if_pos rfl, if_neg c, X5_settle_L hR hN k f _ (p + 1) (by omega) (by omega) (by omega), Int.zero_add]
theorem X6_others_L {value weight tv tw : Nat → Int32} {n : Int} {V G V2 G2 : Int → Int} (hv : Rv value weight n V G) (hN : Rt tv tw n V2 G2) : ∀ (k f : Nat) (a p : Int), k < f → 0 ≤ p → n = p + k → mX6_others_L4 value (zI n) tv f (zI a) (zI p) = some (zI (a + otT n V V2 p k))
  | k, 0, a, p, h, _, _ => absurd h (Nat.not_lt_zero k)
  | 0, f + 1, a, p, _, hp, hk => by
    have hn := hv.1
    rw [mX6_others_L4, if_pos (show zI n ≤ zI p by rw [zI_le (by omega) (by omega) (by omega) (by omega)]; omega)]
    simp only [otT, Int.add_zero]
  | k + 1, f + 1, a, p, h, hp, hk => by
    obtain ⟨hn, hV, hG, hB⟩ := id hv
    obtain ⟨hn2, hV2, hG2, hB2⟩ := id hN
    have b1 := hB p hp (by omega)
    have b2 := hB2 p hp (by omega)
    rw [mX6_others_L4, if_neg (show ¬ zI n ≤ zI p by rw [zI_le (by omega) (by omega) (by omega) (by omega)]; omega), rd_A hV2 hp (by omega) (by omega) (by omega), sob, rd_A hV hp (by omega) (by omega) (by omega), sob]
    simp (disch := omega) only [zI_eq, zI_a1, zI_a0, otT]
    have hd : ¬ n ≤ p := by omega
    by_cases e : V2 p = V p
    · rw [if_neg (not_not_intro e), if_neg (show ¬ (decide (n ≤ p) || !decide (V2 p = V p)) = true by simp [hd, e]), X6_others_L hv hN k f _ (p + 1) (by omega) (by omega) (by omega), Int.zero_add]
    · rw [if_pos e, if_pos (show (decide (n ≤ p) || !decide (V2 p = V p)) = true by simp [e]), X6_others_L hv hN k f _ (p + 1) (by omega) (by omega) (by omega), Int.add_assoc]
theorem X6_others_z {value weight tv tw : Nat → Int32} {n : Int} {V G V2 G2 : Int → Int} (hv : Rv value weight n V G) (hN : Rt tv tw n V2 G2) : mX6_others value (zI n) tv = some (zI (otT n V V2 0 n.toNat)) := by
  have hn := hv.1
  unfold mX6_others
  rw [show (0 : Int32) = zI 0 from rfl, X6_others_L hv hN n.toNat FU 0 0 (by rw [FU_e]; omega) (by omega) (by omega), sob, Int.zero_add]
theorem otT_sm {n : Int} {V G V2 G2 : Int → Int} : ∀ (k : Nat) (p : Int), p + k ≤ n → smP V G V2 G2 p k → otT n V V2 p k = 0
  | 0, p, _, _ => rfl
  | k + 1, p, hk, h => by
    obtain ⟨h1, h2⟩ := smP_s.mp h
    have hd : ¬ n ≤ p := by omega
    simp only [otT]
    rw [if_neg (show ¬ (decide (n ≤ p) || !decide (V2 p = V p)) = true by simp [hd, h1.1]), otT_sm k (p + 1) (by omega) h2]
    rfl
/-! what was, one more -/
def psN (P : PsT) (n : Int) (V G : Int → Int) : PsT := fun k => if k = 1 then (n, V, G) else P (k - 1)
theorem X0_keep_z {past : PasT} {row : RowT} {n h : Int} {V G : Int → Int} {P : PsT} (hR : Rw row n V G) (hp : PasC past h P) : ∃ past', mX0_keep past row = some past' ∧ PasC past' (if h < 12 then h + 1 else 12) (psN P n V G) := by
  obtain ⟨hh, hph, la, hla, hpl, hP⟩ := hp
  obtain ⟨t', e1, h1⟩ := X2_take_z hR (past.1 ((la + 1) % 12).toNat)
  refine ⟨(va_up past.1 ((la + 1) % 12).toNat t', zI (if h < 12 then h + 1 else 12), zI ((la + 1) % 12)), ?_, ?_, rfl, (la + 1) % 12, by omega, rfl, fun k hk1 hk2 => ?_⟩
  · unfold mX0_keep
    rw [hpl, zI_a1, show (12 : Int32) = zI 12 from rfl, irm_z (by omega) (by omega) (by omega) (by omega), sob, rx_in (by omega) (by omega) (by omega), sob, e1, sob, hph, zI_a1]
    by_cases c : h < 12
    · rw [if_pos c, if_neg (show ¬ zI 12 < zI (h + 1) by rw [zI_lt (by omega) (by omega) (by omega) (by omega)]; omega)]
    · rw [if_neg c, if_pos (show zI 12 < zI (h + 1) by rw [zI_lt (by omega) (by omega) (by omega) (by omega)]; omega)]
  · by_cases c : h < 12
    · rw [if_pos c]; omega
    · rw [if_neg c]; omega
  · have hk3 : k ≤ 12 ∧ k ≤ h + 1 := by
      by_cases c : h < 12
      · rw [if_pos c] at hk2; omega
      · rw [if_neg c] at hk2; omega
    show Rw (va_up past.1 ((la + 1) % 12).toNat t' (((la + 1) % 12 - (k - 1)) % 12).toNat) _ _ _
    unfold psN
    by_cases e : k = 1
    · subst e
      rw [if_pos rfl, show (((la + 1) % 12 - (1 - 1)) % 12).toNat = ((la + 1) % 12).toNat by omega, va_up_self]
      exact h1
    · rw [if_neg e, va_up_ne _ _ (by omega)]
      have := hP (k - 1) (by omega) (by omega)
      rw [show ((la - (k - 1 - 1)) % 12).toNat = (((la + 1) % 12 - (k - 1)) % 12).toNat by omega] at this
      exact this
theorem X5_settle_z {nx row : RowT} {past : PasT} {n n2 b h : Int} {V G V2 G2 : Int → Int} {P : PsT} {fr : Int32} (hR : Rw row n V G) (hN : Rw nx n2 V2 G2) (hb : 2 ≤ b ∧ b ≤ 20) (hp : PasC past h P) :
    (mX5_settle (zI b) fr row nx past = some (0, fr, row, past) ∧ n2 = n ∧ smP V G V2 G2 0 n.toNat) ∨ (∃ row' past', mX5_settle (zI b) fr row nx past = some (zI (otT n V V2 0 n2.toNat), zI (ouF (tcT b n V n2 V2) 0 (blN n2 b).toNat), row', past') ∧ Rw row' n2 V2 G2 ∧ PasC past' (if h < 12 then h + 1 else 12) (psN P n V G) ∧ ¬ (n2 = n ∧ smP V G V2 G2 0 n.toNat)) := by
  have hn2 := hN.1
  unfold mX5_settle
  rcases X2_isLike_z hR hN with ⟨q1, q2⟩ | ⟨q1, q2⟩
  · rw [q1, sob, if_neg i1]
    exact Or.inl ⟨rfl, q2⟩
  · obtain ⟨past', e1, h1⟩ := X0_keep_z hR hp
    obtain ⟨row', e2, h2⟩ := X2_take_z hN row
    rw [q1, sob, if_pos rfl, show (0 : Int32) = zI 0 from rfl, X5_settle_L hR hN n2.toNat FU 0 0 (by rw [FU_e]; omega) (by omega) (by omega), sob, e1, sob, X5_pairsTouched_z hR hN hb, sob, e2, sob, Int.zero_add]
    exact Or.inr ⟨row', past', rfl, h2, h1, q2⟩

/-! PURE ROWS. The reference keeps what was; both edits together -/
theorem X6_copies_L {a : Int} (ha : 0 ≤ a ∧ a ≤ 10) {pv0 pw0 : Nat → Int32} : ∀ (k f : Nat) (p : Int) (pv pw : Nat → Int32), k < f → 0 ≤ p → 120 = p + k → (∀ j : Int, 0 ≤ j → pv j.toNat = (if 120 * a ≤ j ∧ j < 120 * a + p then pv0 (j + 120).toNat else pv0 j.toNat) ∧ pw j.toNat = (if 120 * a ≤ j ∧ j < 120 * a + p then pw0 (j + 120).toNat else pw0 j.toNat)) →
    ∃ pv' pw', mX6_copies_L2 (zI (a + 1)) (zI a) f (zI p) pv pw = some (pv', pw') ∧ ∀ j : Int, 0 ≤ j → pv' j.toNat = (if 120 * a ≤ j ∧ j < 120 * a + 120 then pv0 (j + 120).toNat else pv0 j.toNat) ∧ pw' j.toNat = (if 120 * a ≤ j ∧ j < 120 * a + 120 then pw0 (j + 120).toNat else pw0 j.toNat)
  | k, 0, p, pv, pw, h, _, _, _ => absurd h (Nat.not_lt_zero k)
  | 0, f + 1, p, pv, pw, _, hp, hk, hi => by
    rw [mX6_copies_L2, if_pos (show (120 : Int32) ≤ zI p by rw [z_120, zI_le (by omega) (by omega) (by omega) (by omega)]; omega)]
    have : p = 120 := by omega
    subst this
    exact ⟨pv, pw, rfl, hi⟩
  | k + 1, f + 1, p, pv, pw, h, hp, hk, hi => by
    rw [mX6_copies_L2, if_neg (show ¬ (120 : Int32) ≤ zI p by rw [z_120, zI_le (by omega) (by omega) (by omega) (by omega)]; omega), show (120 : Int32) = zI 120 from rfl, zI_mul, zI_mul, zI_add, zI_add, rd_in (by omega) (by omega) (by omega), sob, wr_in (by omega) (by omega) (by omega), sob, rd_in (by omega) (by omega) (by omega), sob, wr_in (by omega) (by omega) (by omega), sob, zI_a1]
    refine X6_copies_L ha k f (p + 1) _ _ (by omega) (by omega) (by omega) (fun j hj => ?_)
    obtain ⟨h1, h2⟩ := hi j hj
    obtain ⟨h3, h4⟩ := hi (120 * (a + 1) + p) (by omega)
    rw [if_neg (by omega)] at h3 h4
    rw [upd_at (by omega) hj, upd_at (by omega) hj]
    by_cases e : j = 120 * a + p
    · rw [if_pos e, if_pos e, if_pos (show 120 * a ≤ j ∧ j < 120 * a + (p + 1) by omega), if_pos (show 120 * a ≤ j ∧ j < 120 * a + (p + 1) by omega), h3, h4, show 120 * (a + 1) + p = j + 120 by omega]
      exact ⟨rfl, rfl⟩
    · rw [if_neg e, if_neg e, h1, h2]
      by_cases c : 120 * a ≤ j ∧ j < 120 * a + p
      · rw [if_pos c, if_pos c, if_pos (show 120 * a ≤ j ∧ j < 120 * a + (p + 1) by omega), if_pos (show 120 * a ≤ j ∧ j < 120 * a + (p + 1) by omega)]
        exact ⟨rfl, rfl⟩
      · rw [if_neg c, if_neg c, if_neg (show ¬ (120 * a ≤ j ∧ j < 120 * a + (p + 1)) by omega), if_neg (show ¬ (120 * a ≤ j ∧ j < 120 * a + (p + 1)) by omega)]
        exact ⟨rfl, rfl⟩
theorem X6_shift_L {pv0 pw0 pm0 : Nat → Int32} : ∀ (k f : Nat) (a : Int) (pv pw pm : Nat → Int32), k < f → 0 ≤ a → 11 = a + k → (∀ j : Int, 0 ≤ j → pv j.toNat = (if j < 120 * a then pv0 (j + 120).toNat else pv0 j.toNat) ∧ pw j.toNat = (if j < 120 * a then pw0 (j + 120).toNat else pw0 j.toNat)) → (∀ j : Int, 0 ≤ j → pm j.toNat = (if j < a then pm0 (j + 1).toNat else pm0 j.toNat)) →
    ∃ pv' pw' pm', mX6_edits_L19 f (zI (a + 1)) pv pw pm = some (pv', pw', pm') ∧ (∀ j : Int, 0 ≤ j → pv' j.toNat = (if j < 120 * 11 then pv0 (j + 120).toNat else pv0 j.toNat) ∧ pw' j.toNat = (if j < 120 * 11 then pw0 (j + 120).toNat else pw0 j.toNat)) ∧ (∀ j : Int, 0 ≤ j → pm' j.toNat = (if j < 11 then pm0 (j + 1).toNat else pm0 j.toNat))
  | k, 0, a, pv, pw, pm, h, _, _, _, _ => absurd h (Nat.not_lt_zero k)
  | 0, f + 1, a, pv, pw, pm, _, ha, hk, hi, hm => by
    rw [mX6_edits_L19, if_pos (show (12 : Int32) ≤ zI (a + 1) by rw [z_12, zI_le (by omega) (by omega) (by omega) (by omega)]; omega)]
    have : a = 11 := by omega
    subst this
    exact ⟨pv, pw, pm, rfl, hi, hm⟩
  | k + 1, f + 1, a, pv, pw, pm, h, ha, hk, hi, hm => by
    obtain ⟨pv1, pw1, e1, h1⟩ := X6_copies_L (a := a) (by omega) (pv0 := pv) (pw0 := pw) 120 FU 0 pv pw (by rw [FU_e]; omega) (by omega) (by omega) (fun j hj => by rw [if_neg (by omega), if_neg (by omega)]; exact ⟨rfl, rfl⟩)
    have e2 : mX6_copies pv pw pm (zI (a + 1)) (zI a) = some (pv1, pw1, upd pm a.toNat (pm (a + 1).toNat)) := by
      unfold mX6_copies
      rw [show (0 : Int32) = zI 0 from rfl, e1, sob, rd_in (by omega) (by omega) (by omega), sob, wr_in (by omega) (by omega) (by omega), sob]
    rw [mX6_edits_L19, if_neg (show ¬ (12 : Int32) ≤ zI (a + 1) by rw [z_12, zI_le (by omega) (by omega) (by omega) (by omega)]; omega), show zI (a + 1) - 1 = zI a by rw [zI_m1, Int.add_sub_cancel], e2, sob, zI_a1]
    refine X6_shift_L k f (a + 1) pv1 pw1 _ (by omega) (by omega) (by omega) (fun j hj => ?_) (fun j hj => ?_)
    · obtain ⟨q1, q2⟩ := h1 j hj
      obtain ⟨q3, q4⟩ := hi j hj
      obtain ⟨q5, q6⟩ := hi (j + 120) (by omega)
      rw [q1, q2]
      by_cases c : 120 * a ≤ j ∧ j < 120 * a + 120
      · rw [if_neg (by omega)] at q5 q6
        rw [if_pos c, if_pos c, q5, q6, if_pos (by omega), if_pos (by omega)]
        exact ⟨rfl, rfl⟩
      · rw [if_neg c, if_neg c, q3, q4]
        by_cases d : j < 120 * a
        · rw [if_pos d, if_pos d, if_pos (by omega), if_pos (by omega)]; exact ⟨rfl, rfl⟩
        · rw [if_neg d, if_neg d, if_neg (by omega), if_neg (by omega)]; exact ⟨rfl, rfl⟩
    · have q1 := hm j hj
      have q2 := hm (a + 1) (by omega)
      rw [if_neg (by omega)] at q2
      show upd pm a.toNat (pm (a + 1).toNat) j.toNat = _
      rw [upd_at ha hj]
      by_cases e : j = a
      · rw [if_pos e, q2, if_pos (by omega), e]
      · rw [if_neg e, q1]
        by_cases d : j < a
        · rw [if_pos d, if_pos (by omega)]
        · rw [if_neg d, if_neg (by omega)]
/-- a row kept at u -/
theorem X6_keep_L {value weight : Nat → Int32} {n u : Int} {V G : Int → Int} (hv : Rv value weight n V G) (hu : 0 ≤ u ∧ u ≤ 11) {pv0 pw0 : Nat → Int32} : ∀ (k f : Nat) (p : Int) (pv pw : Nat → Int32), k < f → 0 ≤ p → n = p + k → (∀ i, 0 ≤ i → i < p → pv (120 * u + i).toNat = zI (V i) ∧ pw (120 * u + i).toNat = zI (G i)) → (∀ j : Int, 0 ≤ j → j < 120 * u ∨ 120 * u + 120 ≤ j → pv j.toNat = pv0 j.toNat ∧ pw j.toNat = pw0 j.toNat) →
    ∃ pv' pw', mX6_edits_L51 value weight (zI n) (zI u) f (zI p) pv pw = some (pv', pw') ∧ (∀ i, 0 ≤ i → i < n → pv' (120 * u + i).toNat = zI (V i) ∧ pw' (120 * u + i).toNat = zI (G i)) ∧ (∀ j : Int, 0 ≤ j → j < 120 * u ∨ 120 * u + 120 ≤ j → pv' j.toNat = pv0 j.toNat ∧ pw' j.toNat = pw0 j.toNat)
  | k, 0, p, pv, pw, h, _, _, _, _ => absurd h (Nat.not_lt_zero k)
  | 0, f + 1, p, pv, pw, _, hp, hk, hi, ho => by
    have hn := hv.1
    rw [mX6_edits_L51, if_pos (show zI n ≤ zI p by rw [zI_le (by omega) (by omega) (by omega) (by omega)]; omega)]
    exact ⟨pv, pw, rfl, fun i h0 h1 => hi i h0 (by omega), ho⟩
  | k + 1, f + 1, p, pv, pw, h, hp, hk, hi, ho => by
    obtain ⟨hn, hV, hG, hB⟩ := id hv
    rw [mX6_edits_L51, if_neg (show ¬ zI n ≤ zI p by rw [zI_le (by omega) (by omega) (by omega) (by omega)]; omega), rd_A hV hp (by omega) (by omega) (by omega), sob, show (120 : Int32) = zI 120 from rfl, zI_mul, zI_add, wr_in (by omega) (by omega) (by omega), sob, rd_A hG hp (by omega) (by omega) (by omega), sob, wr_in (by omega) (by omega) (by omega), sob, zI_a1]
    refine X6_keep_L hv hu k f (p + 1) _ _ (by omega) (by omega) (by omega) (fun i h0 h1 => ?_) (fun j hj hc => ?_)
    · rw [upd_at (by omega) (by omega), upd_at (by omega) (by omega)]
      by_cases e : i = p
      · rw [if_pos (by omega), if_pos (by omega), e]; exact ⟨rfl, rfl⟩
      · rw [if_neg (by omega), if_neg (by omega)]; exact hi i h0 (by omega)
    · rw [upd_at (by omega) hj, upd_at (by omega) hj, if_neg (by omega), if_neg (by omega)]
      exact ho j hj hc
theorem X6_edits_z {value weight tv tw pv pw pm : Nat → Int32} {n n2 b h : Int} {V G V2 G2 : Int → Int} {P : PsT} {fr : Int32} (hv : Rv value weight n V G) (hN : Rt tv tw n2 V2 G2) (hb : 2 ≤ b ∧ b ≤ 20) (hq : PasR pv pw pm h P) :
    (mX6_edits value weight (zI n) (zI b) pv pw pm (zI h) fr tv tw (zI n2) = some (value, weight, zI n, pv, pw, pm, zI h, fr) ∧ n2 = n ∧ smP V G V2 G2 0 n.toNat) ∨ (∃ va we pv' pw' pm', mX6_edits value weight (zI n) (zI b) pv pw pm (zI h) fr tv tw (zI n2) = some (va, we, zI n2, pv', pw', pm', zI (if h < 12 then h + 1 else 12), zI (ouF (tcT b n V n2 V2) 0 (blN n2 b).toNat)) ∧ Rv va we n2 V2 G2 ∧ PasR pv' pw' pm' (if h < 12 then h + 1 else 12) (psN P n V G) ∧ ¬ (n2 = n ∧ smP V G V2 G2 0 n.toNat)) := by
  have hn := hv.1
  obtain ⟨hh, hP⟩ := hq
  unfold mX6_edits
  rcases X6_isOther_z hv hN with ⟨q1, q2⟩ | ⟨q1, q2⟩
  · rw [q1, sob, if_neg i0n]
    exact Or.inl ⟨rfl, q2⟩
  · obtain ⟨va, we, e3, h3⟩ := X6_becomes_z (fr := fr) hv hN hb
    rw [q1, sob, if_pos i1]
    refine Or.inr ?_
    by_cases c : h < 12
    · rw [if_pos (show ¬ zI h = 12 by rw [z_12, zI_eq (by omega) (by omega) (by omega) (by omega)]; omega)]
      obtain ⟨pv1, pw1, e1, h1, h2⟩ := X6_keep_L hv (u := h) (by omega) (pv0 := pv) (pw0 := pw) n.toNat FU 0 pv pw (by rw [FU_e]; omega) (by omega) (by omega) (fun i g0 g1 => by omega) (fun j _ _ => ⟨rfl, rfl⟩)
      rw [show (0 : Int32) = zI 0 from rfl, e1, sob, wr_in (by omega) (by omega) (by omega), sob, e3, sob, if_pos c, zI_a1]
      refine ⟨va, we, pv1, pw1, _, rfl, h3, ⟨by omega, fun k hk1 hk2 => ?_⟩, q2⟩
      unfold psN
      rw [upd_at (by omega) (by omega)]
      by_cases e : k = 1
      · subst e
        rw [if_pos rfl, if_pos (by omega)]
        refine ⟨hn, rfl, fun i g0 g1 => ?_⟩
        rw [show 120 * (h + 1 - 1) + i = 120 * h + i by omega]
        exact h1 i g0 g1
      · obtain ⟨y1, y2, y3⟩ := hP (k - 1) (by omega) (by omega)
        rw [if_neg e, if_neg (by omega), show h + 1 - k = h - (k - 1) by omega]
        refine ⟨y1, y2, fun i g0 g1 => ?_⟩
        obtain ⟨z1, z2⟩ := h2 (120 * (h - (k - 1)) + i) (by omega) (by omega)
        rw [z1, z2]
        exact y3 i g0 g1
    · have h12 : h = 12 := by omega
      subst h12
      rw [if_neg (show ¬ ¬ zI 12 = 12 from not_not_intro rfl)]
      obtain ⟨pv0, pw0, pm0, e0, s1, s2⟩ := X6_shift_L (pv0 := pv) (pw0 := pw) (pm0 := pm) 11 FU 0 pv pw pm (by rw [FU_e]; omega) (by omega) (by omega) (fun j hj => by rw [if_neg (by omega), if_neg (by omega)]; exact ⟨rfl, rfl⟩) (fun j hj => by rw [if_neg (by omega)])
      obtain ⟨pv1, pw1, e1, h1, h2⟩ := X6_keep_L hv (u := 11) (by omega) (pv0 := pv0) (pw0 := pw0) n.toNat FU 0 pv0 pw0 (by rw [FU_e]; omega) (by omega) (by omega) (fun i g0 g1 => by omega) (fun j _ _ => ⟨rfl, rfl⟩)
      have e0' : mX6_edits_L19 FU 1 pv pw pm = some (pv0, pw0, pm0) := e0
      rw [e0', sob, show zI 12 - 1 = zI 11 from rfl]
      simp only []
      rw [show (0 : Int32) = zI 0 from rfl, e1, sob, wr_in (by omega) (by omega) (by omega), sob, e3, sob, if_neg c, zI_a1]
      refine ⟨va, we, pv1, pw1, _, rfl, h3, ⟨by omega, fun k hk1 hk2 => ?_⟩, q2⟩
      unfold psN
      rw [upd_at (by omega) (by omega)]
      by_cases e : k = 1
      · subst e
        rw [if_pos rfl, if_pos (by omega)]
        refine ⟨hn, rfl, fun i g0 g1 => ?_⟩
        rw [show 120 * (12 - 1) + i = 120 * 11 + i by omega]
        exact h1 i g0 g1
      · obtain ⟨y1, y2, y3⟩ := hP (k - 1) (by omega) (by omega)
        have sm := s2 (12 - k) (by omega)
        rw [if_pos (by omega)] at sm
        rw [if_neg e, if_neg (by omega), sm, show 12 - k + 1 = 12 - (k - 1) by omega]
        refine ⟨y1, y2, fun i g0 g1 => ?_⟩
        obtain ⟨z1, z2⟩ := h2 (120 * (12 - k) + i) (by omega) (by omega)
        obtain ⟨w1, w2⟩ := s1 (120 * (12 - k) + i) (by omega)
        rw [if_pos (by omega)] at w1 w2
        rw [z1, z2, w1, w2, show 120 * (12 - k) + i + 120 = 120 * (12 - (k - 1)) + i by omega]
        exact y3 i g0 g1
/-! both edits: what is alike ahead is alike behind -/
def Bst (row : RowT) (past : PasT) (value weight pv pw pm : Nat → Int32) (n h : Int) (V G : Int → Int) (P : PsT) : Prop := Rw row n V G ∧ Rv value weight n V G ∧ PasC past h P ∧ PasR pv pw pm h P
theorem E_both {row nx : RowT} {past : PasT} {value weight pv pw pm tv tw : Nat → Int32} {n n2 b h : Int} {V G V2 G2 : Int → Int} {P : PsT} {fr : Int32} (hB : Bst row past value weight pv pw pm n h V G P) (hN : Rw nx n2 V2 G2) (hT : Rt tv tw n2 V2 G2) (hb : 2 ≤ b ∧ b ≤ 20) :
    ∃ (a : Int) (fr' : Int32) (row' : RowT) (past' : PasT) (va we pv' pw' pm' : Nat → Int32) (h' : Int) (V' G' : Int → Int) (P' : PsT), mX5_settle (zI b) fr row nx past = some (zI a, fr', row', past') ∧ mX6_edits value weight (zI n) (zI b) pv pw pm (zI h) fr tv tw (zI n2) = some (va, we, zI n2, pv', pw', pm', zI h', fr') ∧ Bst row' past' va we pv' pw' pm' n2 h' V' G' P' ∧ (n2 = n → a = otT n V V2 0 n.toNat) := by
  obtain ⟨hR, hv, hp, hq⟩ := hB
  have hn := hR.1
  rcases X5_settle_z (fr := fr) hR hN hb hp with ⟨e1, a1, a2⟩ | ⟨row', past', e1, a1, a2, a3⟩
  · rcases X6_edits_z (fr := fr) hv hT hb hq with ⟨e2, b1, b2⟩ | ⟨va, we, pv', pw', pm', e2, b1, b2, b3⟩
    · subst a1
      exact ⟨0, fr, row, past, value, weight, pv, pw, pm, h, V, G, P, e1, e2, ⟨hR, hv, hp, hq⟩, fun _ => (otT_sm n2.toNat 0 (by omega) a2).symm⟩
    · exact absurd ⟨a1, a2⟩ b3
  · rcases X6_edits_z (fr := fr) hv hT hb hq with ⟨e2, b1, b2⟩ | ⟨va, we, pv', pw', pm', e2, b1, b2, b3⟩
    · exact absurd ⟨b1, b2⟩ a3
    · exact ⟨_, _, row', past', va, we, pv', pw', pm', _, V2, G2, _, e1, e2, ⟨a1, b1, a2, b2⟩, fun q => by subst q; rfl⟩

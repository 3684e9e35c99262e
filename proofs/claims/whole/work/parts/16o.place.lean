/-! PURE ROWS. place: 0 a value, 1 no such place, 2 no such what; both ways -/
def mX5_place (block : Int32) (row : RowT) (x1 x2 : Int32) : Option (Int32 × Int32) :=
  (mX2_has row x1).bind fun q =>
  if ¬ q = 0 then
    (rd row.1 120 x1).bind fun v =>
    if x2 = 0 then
      some (0, v)
    else if x2 = 1 then
      (rd row.2.1 120 x1).bind fun w => some (0, w)
    else if x2 = 2 then
      (idv x1 block).bind fun w => some (0, w)
    else if x2 = 3 then
      (mX2_howOften row v 0 (x1 - 1)).bind fun w => some (0, w)
    else if x2 = 4 then
      (mX2_from row v (x1 + 1)).bind fun w => some (0, w)
    else if x2 = 5 then
      (mX2_upTo row v (x1 - 1)).bind fun w => some (0, w)
    else
      some (2, 0)
  else
    some (1, 0)
theorem P_place {row : RowT} {value weight : Nat → Int32} {n b : Int} {V G : Int → Int} (hR : Rw row n V G) (hv : Rv value weight n V G) (hb : 2 ≤ b ∧ b ≤ 20) (th x1 x2 : Int32) :
    ∃ k a a', mX5_place (zI b) row x1 x2 = some (k, a) ∧ mX6_place th value weight (zI n) (zI b) x1 x2 = some (a', k) ∧ (k = 0 → a' = a) ∧ (k = 0 ∨ k = 1 ∨ k = 2) := by
  obtain ⟨p, hp, rfl⟩ := zI_ex x1
  obtain ⟨hs, hn⟩ := hR.ok
  unfold mX5_place mX6_place
  rw [X2_has_z hs hn hp, X6_isPlace_z hn hp, sob, sob]
  by_cases c : 0 ≤ p ∧ p < n
  · have hB := hR.2.2.2.2 p c.1 c.2
    have a3 : mX2_howOften row (zI (V p)) 0 (zI p - 1) = some (zI (ocT V (V p) 0 (p - 1 + 1 - 0).toNat)) := by rw [z_0, zI_m1, X2_howOften_z hR hB.1 (by omega) (by omega) (by omega)]
    have b3 : mX6_timesIn value 0 (zI p - 1) (zI (V p)) = some (zI (ocT V (V p) 0 (p - 1 + 1 - 0).toNat)) := by rw [z_0, zI_m1, X6_timesIn_z hv hB.1 (by omega) (by omega) (by omega)]
    have a4 : mX2_from row (zI (V p)) (zI p + 1) = some (zI (nxT V (V p) 1 (p + 1) (n - (p + 1)).toNat)) := by rw [zI_a1, X2_from_z hR hB.1 (by omega) (by omega)]
    have a5 : mX2_upTo row (zI (V p)) (zI p - 1) = some (zI (pvT V (V p) (p - 1) (p - 1 + 1).toNat)) := by rw [zI_m1, X2_upTo_z hR hB.1 (by omega) (by omega)]
    rw [bz_t c, if_pos i1, if_pos i1, rd_A hR.2.2.1 c.1 c.2 (by omega) (by omega), sob, rd_A hv.2.1 c.1 c.2 (by omega) (by omega), sob, sob]
    by_cases c0 : x2 = 0
    · rw [if_pos c0, if_pos c0]; exact ⟨_, _, _, rfl, rfl, fun _ => rfl, Or.inl rfl⟩
    · rw [if_neg c0, if_neg c0]
      by_cases c1 : x2 = 1
      · rw [if_pos c1, if_pos c1, rd_A hR.2.2.2.1 c.1 c.2 (by omega) (by omega), rd_A hv.2.2.1 c.1 c.2 (by omega) (by omega), sob, sob]; exact ⟨_, _, _, rfl, rfl, fun _ => rfl, Or.inl rfl⟩
      · rw [if_neg c1, if_neg c1]
        by_cases c2 : x2 = 2
        · rw [if_pos c2, if_pos c2, idv_z (by omega) (by omega) (by omega) (by omega), sob, sob]; exact ⟨_, _, _, rfl, rfl, fun _ => rfl, Or.inl rfl⟩
        · rw [if_neg c2, if_neg c2]
          by_cases c3 : x2 = 3
          · rw [if_pos c3, if_pos c3, a3, b3, sob, sob]; exact ⟨_, _, _, rfl, rfl, fun _ => rfl, Or.inl rfl⟩
          · rw [if_neg c3, if_neg c3]
            by_cases c4 : x2 = 4
            · rw [if_pos c4, if_pos c4, a4, X6_nextTo_up hv c, sob, sob]; exact ⟨_, _, _, rfl, rfl, fun _ => rfl, Or.inl rfl⟩
            · rw [if_neg c4, if_neg c4]
              by_cases c5 : x2 = 5
              · rw [if_pos c5, if_pos c5, a5, X6_nextTo_dn hv c, sob, sob]; exact ⟨_, _, _, rfl, rfl, fun _ => rfl, Or.inl rfl⟩
              · rw [if_neg c5, if_neg c5]; exact ⟨2, 0, 0, rfl, rfl, fun h => absurd h i2, Or.inr (Or.inr rfl)⟩
  · rw [bz_f c, if_neg i0n, if_neg i0n]
    exact ⟨1, 0, 0, rfl, rfl, fun h => absurd h i1, Or.inr (Or.inl rfl)⟩

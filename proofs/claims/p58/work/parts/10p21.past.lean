/-! PURE ROWS. What was: the class' ring, the reference's stack; was, since, count, fault -/
abbrev PsT : Type := Int → Int × (Int → Int) × (Int → Int)
def PasC (past : PasT) (h : Int) (P : PsT) : Prop := (0 ≤ h ∧ h ≤ 12) ∧ past.2.1 = zI h ∧ ∃ la : Int, (0 ≤ la ∧ la < 12) ∧ past.2.2 = zI la ∧ ∀ k, 1 ≤ k → k ≤ h → Rw (past.1 ((la - (k - 1)) % 12).toNat) (P k).1 (P k).2.1 (P k).2.2
def PasR (pv pw pm : Nat → Int32) (h : Int) (P : PsT) : Prop := (0 ≤ h ∧ h ≤ 12) ∧ ∀ k, 1 ≤ k → k ≤ h → (0 ≤ (P k).1 ∧ (P k).1 ≤ 120) ∧ pm (h - k).toNat = zI (P k).1 ∧ ∀ i, 0 ≤ i → i < (P k).1 → pv (120 * (h - k) + i).toNat = zI ((P k).2.1 i) ∧ pw (120 * (h - k) + i).toNat = zI ((P k).2.2 i)
theorem fm_all : ∀ k : Nat, k < 23 → mJ9_floorMod_7cf53 (zI ((k : Int) - 11)) 12 = some (zI (((k : Int) - 11) % 12)) := by decide +kernel
theorem fm_z {x : Int} (h : -11 ≤ x ∧ x ≤ 11) : mJ9_floorMod_7cf53 (zI x) 12 = some (zI (x % 12)) := by
  have := fm_all (x + 11).toNat (by omega)
  rw [show ((x + 11).toNat : Int) - 11 = x by omega] at this
  exact this
theorem X0_ago_z {past : PasT} {la k : Int} (hla : 0 ≤ la ∧ la < 12) (hl : past.2.2 = zI la) (hk : 1 ≤ k ∧ k ≤ 12) : mX0_ago past (zI k) = some ((la - (k - 1)) % 12).toNat := by
  unfold mX0_ago
  rw [hl, zI_m1, zI_sub, fm_z (by omega), sob, rx_in (by omega) (by omega) (by omega), sob]
theorem P_was {row : RowT} {value weight : Nat → Int32} {n h : Int} {V G : Int → Int} {past : PasT} {pv pw pm : Nat → Int32} {P : PsT} (hR : Rw row n V G) (hv : Rv value weight n V G) (hp : PasC past h P) (hq : PasR pv pw pm h P) (th x1 x2 : Int32) :
    ∃ a, mX5_was row past x1 x2 = some a ∧ mX6_was th value (zI n) pv pm (zI h) x1 x2 = some (a, 0) := by
  obtain ⟨k, hk, rfl⟩ := zI_ex x1
  obtain ⟨p, hpp, rfl⟩ := zI_ex x2
  obtain ⟨hs, hn⟩ := hR.ok
  obtain ⟨hh, hph, la, hla, hpl, hP⟩ := hp
  simp (disch := omega) only [mX5_was, mX6_was, hph, z_0, z_1, z_2, z_3, z_4, z_5, z_6, z_7, z_8, z_9, z_12, z_20, z_120, z_121, z_880, z_900, z_999, z_1000, zI_neg, zI_add, zI_sub, zI_mul, zI_lt, zI_le, zI_eq, sob, bz_0, Classical.not_not]
  by_cases c1 : k < 0
  · rw [if_pos c1, if_pos c1]; exact ⟨_, rfl, rfl⟩
  · rw [if_neg c1, if_neg c1]
    by_cases c2 : h < k
    · rw [if_pos c2, if_pos c2]; exact ⟨_, rfl, rfl⟩
    · rw [if_neg c2, if_neg c2]
      by_cases c3 : 0 ≤ p
      · rw [if_pos c3, if_pos c3]
        by_cases c4 : k = 0
        · rw [if_neg (not_not_intro c4), if_neg (not_not_intro c4), X2_has_z hs hn hpp, sob]
          by_cases c5 : p < n
          · rw [bz_t ⟨c3, c5⟩, if_neg (show ¬ (1 : Int32) = zI 0 from i1), rd_A hR.2.2.1 c3 c5 (by omega) (by omega), sob, if_neg (show ¬ n ≤ p by omega), rd_A hv.2.1 c3 c5 (by omega) (by omega), sob]
            exact ⟨_, rfl, rfl⟩
          · rw [bz_f (by omega), if_pos (show (0 : Int32) = zI 0 from rfl), if_pos (show n ≤ p by omega)]
            exact ⟨_, rfl, rfl⟩
        · have hr := hP k (by omega) (by omega)
          obtain ⟨q1, q2, q3⟩ := hq.2 k (by omega) (by omega)
          have hpm : rd pm 12 (zI (h - k)) = some (zI (P k).1) := by rw [rd_in (by omega) (by omega) (by omega), q2]
          rw [if_pos c4, if_pos c4, X0_ago_z hla hpl (by omega), sob, X2_has_z hr.2.1 hr.1 hpp, sob, hpm, sob]
          simp (disch := omega) only [zI_le]
          by_cases c5 : p < (P k).1
          · obtain ⟨q4, q5⟩ := q3 p c3 c5
            rw [bz_t ⟨c3, c5⟩, if_neg (show ¬ (1 : Int32) = zI 0 from i1), rd_A hr.2.2.1 c3 c5 (by omega) (by omega), sob, if_neg (show ¬ (P k).1 ≤ p by omega), rd_in (by omega) (by omega) (by omega), q4, sob]
            exact ⟨_, rfl, rfl⟩
          · rw [bz_f (by omega), if_pos (show (0 : Int32) = zI 0 from rfl), if_pos (show (P k).1 ≤ p by omega)]
            exact ⟨_, rfl, rfl⟩
      · rw [if_neg c3, if_neg c3]; exact ⟨_, rfl, rfl⟩
theorem X56_since_L {row : RowT} {value weight : Nat → Int32} {n h p : Int} {V G : Int → Int} {past : PasT} {pv pw pm : Nat → Int32} {P : PsT} {th : Int32} (hR : Rw row n V G) (hv : Rv value weight n V G) (hp : PasC past h P) (hq : PasR pv pw pm h P) (hpp : 0 ≤ p ∧ p < n) : ∀ (m f f' : Nat) (k : Int), m < f → m < f' → 0 ≤ k → h = k + m →
    ∃ a, mX5_since_L15 row past (zI p) f (zI k) = some a ∧ mX6_since_L17 th value pv pm (zI h) (zI p) f' (zI (k + 1)) = some (a, th)
  | m, 0, f', k, h, _, _, _ => absurd h (Nat.not_lt_zero m)
  | m, f + 1, 0, k, _, h, _, _ => absurd h (Nat.not_lt_zero m)
  | 0, f + 1, f' + 1, k, _, _, hk, hm => by
    obtain ⟨hh, hph, la, hla, hpl, hP⟩ := hp
    rw [mX5_since_L15, hph, if_pos (show zI h ≤ zI k by rw [zI_le (by omega) (by omega) (by omega) (by omega)]; omega), mX6_since_L17, if_pos (show zI h < zI (k + 1) by rw [zI_lt (by omega) (by omega) (by omega) (by omega)]; omega)]
    exact ⟨_, rfl, rfl⟩
  | m + 1, f + 1, f' + 1, k, hf, hf', hk, hm => by
    obtain ⟨hs, hn⟩ := hR.ok
    obtain ⟨hh, hph, la, hla, hpl, hP⟩ := id hp
    have hr := hP (k + 1) (by omega) (by omega)
    obtain ⟨q1, q2, q3⟩ := hq.2 (k + 1) (by omega) (by omega)
    rw [mX5_since_L15, hph, if_neg (show ¬ zI h ≤ zI k by rw [zI_le (by omega) (by omega) (by omega) (by omega)]; omega), zI_a1, X0_ago_z hla hpl (by omega), sob, X2_has_z hr.2.1 hr.1 (by omega), sob]
    have hpm : rd pm 12 (zI (h - (k + 1))) = some (zI (P (k + 1)).1) := by rw [rd_in (by omega) (by omega) (by omega), q2]
    rw [mX6_since_L17, if_neg (show ¬ zI h < zI (k + 1) by rw [zI_lt (by omega) (by omega) (by omega) (by omega)]; omega), zI_sub, hpm, sob, show zI (k + 1) - 1 = zI k by rw [zI_m1, Int.add_sub_cancel]]
    by_cases c5 : p < (P (k + 1)).1
    · obtain ⟨q4, q5⟩ := q3 p hpp.1 c5
      have b1 := hR.bv p hpp.1 hpp.2
      have b2 := hr.bv p hpp.1 c5
      rw [bz_t ⟨hpp.1, c5⟩, if_neg i1, rd_A hr.2.2.1 hpp.1 c5 (by omega) (by omega), sob, rd_A hR.2.2.1 hpp.1 hpp.2 (by omega) (by omega), sob, if_neg (show ¬ zI (P (k + 1)).1 ≤ zI p by rw [zI_le (by omega) (by omega) (by omega) (by omega)]; omega), show (120 : Int32) = zI 120 from rfl, zI_mul, zI_add, rd_in (by omega) (by omega) (by omega), q4, sob, rd_A hv.2.1 hpp.1 hpp.2 (by omega) (by omega), sob]
      simp (disch := omega) only [zI_eq, zI_a1]
      by_cases e : (P (k + 1)).2.1 p = V p
      · rw [if_pos e, if_pos e]
        exact X56_since_L hR hv hp hq hpp m f f' (k + 1) (by omega) (by omega) (by omega) (by omega)
      · rw [if_neg e, if_neg e]; exact ⟨_, rfl, rfl⟩
    · rw [bz_f (by omega), if_pos rfl, if_pos (show zI (P (k + 1)).1 ≤ zI p by rw [zI_le (by omega) (by omega) (by omega) (by omega)]; omega)]
      exact ⟨_, rfl, rfl⟩
theorem P_since {row : RowT} {value weight : Nat → Int32} {n h : Int} {V G : Int → Int} {past : PasT} {pv pw pm : Nat → Int32} {P : PsT} (hR : Rw row n V G) (hv : Rv value weight n V G) (hp : PasC past h P) (hq : PasR pv pw pm h P) (th x1 : Int32) :
    ∃ a, mX5_since row past x1 = some a ∧ mX6_since th value (zI n) pv pm (zI h) x1 = some (a, 0) := by
  obtain ⟨p, hpp, rfl⟩ := zI_ex x1
  obtain ⟨hs, hn⟩ := hR.ok
  have hh := hp.1
  unfold mX5_since mX6_since
  rw [X2_has_z hs hn hpp, X6_isPlace_z hn hpp, sob, sob]
  by_cases c : 0 ≤ p ∧ p < n
  · rw [bz_t c, if_pos i1, if_pos i1]
    obtain ⟨a, e1, e2⟩ := X56_since_L (th := 0) hR hv hp hq c h.toNat FU FU 0 (by rw [FU_e]; omega) (by rw [FU_e]; omega) (by omega) (by omega)
    exact ⟨a, e1, e2⟩
  · rw [bz_f c, if_neg i0n, if_neg i0n]; exact ⟨_, rfl, rfl⟩
theorem P_count {row : RowT} {value weight : Nat → Int32} {n t b li h fe : Int} {V G : Int → Int} {T : TalT} {past : PasT} {tape : TapT} (hR : Rw row n V G) (hv : Rv value weight n V G) (ht : 0 ≤ t ∧ t ≤ 3) (hb : 2 ≤ b ∧ b ≤ 20) (hT : TalC T) (hp : past.2.1 = zI h) (htp : tape.2.1 = zI fe) (th : Int32) (o fo la un : Nat → Int32) (um x1 : Int32) :
    ∃ (a : Int32) (T' : TalT) (z : CuT), mX5_count (zI b) (zI t) (zI li) tape row past T x1 = some (a, T') ∧ TalC T' ∧ mX6_count th (zI fe) value weight (zI n) (zI b) (zI t) (zI li) (zI h) o fo la un um x1 = some (a, 0, z) := by
  obtain ⟨hs, hn⟩ := hR.ok
  unfold mX5_count mX6_count
  by_cases c0 : x1 = 0
  · rw [if_pos c0, if_pos c0, hs]; exact ⟨_, _, (o, fo, la, un, um), rfl, hT, rfl⟩
  · rw [if_neg c0, if_neg c0]
    by_cases c1 : x1 = 1
    · rw [if_pos c1, if_pos c1]; exact ⟨_, _, (o, fo, la, un, um), rfl, hT, rfl⟩
    · rw [if_neg c1, if_neg c1]
      by_cases c2 : x1 = 2
      · rw [if_pos c2, if_pos c2, X5_blocksOf_z hs hn hb, X6_blocks_z hn hb, sob, sob]; exact ⟨_, _, (o, fo, la, un, um), rfl, hT, rfl⟩
      · rw [if_neg c2, if_neg c2]
        by_cases c3 : x1 = 3
        · rw [if_pos c3, if_pos c3]; exact ⟨_, _, (o, fo, la, un, um), rfl, hT, rfl⟩
        · rw [if_neg c3, if_neg c3]
          by_cases c4 : x1 = 4
          · rw [if_pos c4, if_pos c4]; exact ⟨_, _, (o, fo, la, un, um), rfl, hT, rfl⟩
          · rw [if_neg c4, if_neg c4]
            by_cases c5 : x1 = 5
            · rw [if_pos c5, if_pos c5]
              obtain ⟨T', e1, h1⟩ := X5_tallySpan_z hR ht (l := 0) (r := n - 1) (by omega) (by omega) (by omega) hT
              obtain ⟨z, e2, h2⟩ := X6_counts_z hv (l := 0) (r := n - 1) (by omega) (by omega) (by omega) o fo la un um
              have e3 : mX6_unlikeOf value (zI n) o fo la un um = some (zI (dsT (spT V 0 (n - 1))).length, z) := by
                unfold mX6_unlikeOf
                rw [zI_m1, show (0 : Int32) = zI 0 from rfl, e2, sob, h2.2.2]
                refine congrArg some ?_
                rw [← h2.2.2]
              rw [hs, zI_m1, show (0 : Int32) = zI 0 from rfl, e1, sob, e3, sob, h1.kinds]
              exact ⟨_, _, _, rfl, h1.clean, rfl⟩
            · rw [if_neg c5, if_neg c5]
              by_cases c6 : x1 = 6
              · rw [if_pos c6, if_pos c6, hp]; exact ⟨_, _, (o, fo, la, un, um), rfl, hT, rfl⟩
              · rw [if_neg c6, if_neg c6]
                by_cases c7 : x1 = 7
                · rw [if_pos c7, if_pos c7, X2_allWeights_z hR, X6_weightsIn_z hv, sob, sob]; exact ⟨_, _, (o, fo, la, un, um), rfl, hT, rfl⟩
                · rw [if_neg c7, if_neg c7]
                  by_cases c8 : x1 = 8
                  · rw [if_pos c8, if_pos c8, htp]; exact ⟨_, _, (o, fo, la, un, um), rfl, hT, rfl⟩
                  · rw [if_neg c8, if_neg c8]; exact ⟨_, _, (o, fo, la, un, um), rfl, hT, rfl⟩
theorem P_fault {rdr : RdrT} {fa fp : Int32} (h1 : rdr.2.2.2.1 = fa) (h2 : rdr.2.2.2.2.1 = fp) (th x1 : Int32) : ∃ a, mX5_fault rdr x1 = some a ∧ mX6_fault th fa fp x1 = some (a, 0) := by
  unfold mX5_fault mX6_fault
  by_cases c : x1 = 0
  · rw [if_neg (not_not_intro c), if_neg (not_not_intro c), h1]; exact ⟨_, rfl, rfl⟩
  · rw [if_pos c, if_pos c]
    by_cases d : x1 = 1
    · rw [if_neg (not_not_intro d), if_neg (not_not_intro d), h2]; exact ⟨_, rfl, rfl⟩
    · rw [if_pos d, if_pos d]; exact ⟨_, rfl, rfl⟩

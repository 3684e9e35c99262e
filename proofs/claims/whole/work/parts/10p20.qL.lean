/-! PURE ROWS. part, count -/
def maj (t : Int) (V : Int → Int) (l r : Int) : Prop := r - l + 1 < 2 * mxS t V l r
theorem maj_1 {t : Int} {V : Int → Int} {n l : Int} (hB : ∀ i, 0 ≤ i → i < n → 0 ≤ V i ∧ V i < 1000) (hl : 0 ≤ l ∧ l < n) (hn : n ≤ 120) : maj t V l l := by
  have := mxS_in (t := t) hB hl.1 (show l ≤ l + 1 by omega) hl.2 hn
  unfold maj
  have := this.2.2 (Int.le_refl l)
  omega
/-- F: the fewest parts from each place on -/
def paI (t : Int) (V : Int → Int) (n l : Int) (F : Int → Int) : Prop := ∀ j, l ≤ j → j ≤ n → (0 ≤ F j ∧ F j ≤ n - j) ∧ (F j = 0 ↔ j = n) ∧ (j < n → ∃ r, j ≤ r ∧ r < n ∧ maj t V j r ∧ F (r + 1) + 1 = F j)
theorem X56_part_I {row : RowT} {value weight : Nat → Int32} {n t l : Int} {V G : Int → Int} {F : Int → Int} (hR : Rw row n V G) (hv : Rv value weight n V G) (ht : 0 ≤ t ∧ t ≤ 3) (hl : 0 ≤ l ∧ l < n) (hF : paI t V n (l + 1) F) : ∀ (k f f' : Nat) (a a' p : Int) (T : TalT) (ah : Nat → Int32) (o fo la un : Nat → Int32) (um : Int32) (fe : Nat → Int32), k < f → k < f' → l ≤ p → n = p + k → TalH t (spT V l (p - 1)) T → (∀ j, l < j → j ≤ n → ah j.toNat = zI (F j) ∧ fe j.toNat = zI (F j)) → ah l.toNat = zI a → fe l.toNat = zI a' → ((p = l ∧ a = 120 ∧ a' = 121) ∨ (l < p ∧ a = a' ∧ 1 ≤ a ∧ a ≤ n - l ∧ ∃ r, l ≤ r ∧ r < n ∧ maj t V l r ∧ F (r + 1) + 1 = a)) →
    ∃ (T' : TalT) (ah' : Nat → Int32) (o' fo' la' un' : Nat → Int32) (um' : Int32) (fe' : Nat → Int32) (x : Int), mX5_fewestParts_L48 row (zI l) f (zI p) T ah = some (T', ah') ∧ TalC T' ∧ mX6_part_L43 value (zI n) (zI t) (zI l) f' (zI p) o fo la un um fe = some (o', fo', la', un', um', fe') ∧ (∀ j, l < j → j ≤ n → ah' j.toNat = zI (F j) ∧ fe' j.toNat = zI (F j)) ∧ ah' l.toNat = zI x ∧ fe' l.toNat = zI x ∧ (0 < k ∨ l < p → 1 ≤ x ∧ x ≤ n - l ∧ ∃ r, l ≤ r ∧ r < n ∧ maj t V l r ∧ F (r + 1) + 1 = x)
  | k, 0, f', a, a', p, T, ah, o, fo, la, un, um, fe, h, _, _, _, _, _, _, _, _ => absurd h (Nat.not_lt_zero k)
  | k, f + 1, 0, a, a', p, T, ah, o, fo, la, un, um, fe, _, h, _, _, _, _, _, _, _ => absurd h (Nat.not_lt_zero k)
  | 0, f + 1, f' + 1, a, a', p, T, ah, o, fo, la, un, um, fe, _, _, hp, hk, hT, hs1, ha, hfe, hi => by
    obtain ⟨hs, hn⟩ := hR.ok
    rw [mX5_fewestParts_L48, hs, if_pos (show zI n ≤ zI p by rw [zI_le (by omega) (by omega) (by omega) (by omega)]; omega), mX6_part_L43, if_pos (show zI n ≤ zI p by rw [zI_le (by omega) (by omega) (by omega) (by omega)]; omega)]
    rcases hi with ⟨h1, _⟩ | ⟨h1, h2, h3, h4, h5⟩
    · omega
    · exact ⟨T, ah, o, fo, la, un, um, fe, a, rfl, hT.clean, rfl, hs1, ha, by rw [hfe, h2], fun _ => ⟨h3, h4, h5⟩⟩
  | k + 1, f + 1, f' + 1, a, a', p, T, ah, o, fo, la, un, um, fe, hf, hf', hp, hk, hT, hs1, ha, hfe, hi => by
    obtain ⟨hn, hs, hV, hG, hB⟩ := id hR
    have hBv := hR.bv
    obtain ⟨T1, e1, h1⟩ := X3_more_z hR hl.1 hp (by omega) hT
    obtain ⟨z, e2, h2⟩ := X6_majorityOf_z hv ht hl.1 hp (show p < n by omega) o fo la un um
    have hlen := spT_len (V := V) (l := l) (r := p) (by omega)
    have hbn := bsT_nn (t := t) h1.ok (spT_ne hp)
    have hmj : ((spT V l p).length : Int) < 2 * cnT (spT V l p) (bsT t (spT V l p)) ↔ maj t V l p := by
      unfold maj mxS; omega
    have hFp := hF (p + 1) (by omega) (by omega)
    obtain ⟨a1, a2⟩ := hs1 (p + 1) (by omega) (by omega)
    have h1' : TalH t (spT V l (p + 1 - 1)) T1 := by rw [show p + 1 - 1 = p by omega]; exact h1
    have hab : 0 ≤ a ∧ a ≤ 121 ∧ 0 ≤ a' ∧ a' ≤ 121 := by
      rcases hi with hi | hi
      · omega
      · omega
    rw [mX5_fewestParts_L48, hs, if_neg (show ¬ zI n ≤ zI p by rw [zI_le (by omega) (by omega) (by omega) (by omega)]; omega), rd_A hV (by omega) (by omega) (by omega) (by omega), sob, e1, sob, X3_hasMajority_z h1 (spT_ne hp), sob]
    rw [mX6_part_L43, if_neg (show ¬ zI n ≤ zI p by rw [zI_le (by omega) (by omega) (by omega) (by omega)]; omega)]
    simp only [zI_a1]
    have ra1 : rd ah 121 (zI (p + 1)) = some (zI (F (p + 1))) := by rw [rd_in (by omega) (by omega) (by omega), a1]
    have ra2 : rd ah 121 (zI l) = some (zI a) := by rw [rd_in (by omega) (by omega) (by omega), ha]
    have rf1 : rd fe 121 (zI (p + 1)) = some (zI (F (p + 1))) := by rw [rd_in (by omega) (by omega) (by omega), a2]
    have rf2 : rd fe 121 (zI l) = some (zI a') := by rw [rd_in (by omega) (by omega) (by omega), hfe]
    have wa : ∀ x, wr ah 121 (zI l) x = some (upd ah l.toNat x) := fun x => wr_in (by omega) (by omega) (by omega)
    have wf : ∀ x, wr fe 121 (zI l) x = some (upd fe l.toNat x) := fun x => wr_in (by omega) (by omega) (by omega)
    simp only [ra1, ra2, rf1, rf2, wa, wf, e2, sob, zI_a1]
    -- what follows
    have keep := fun (z2 : CuT) (hi2 : l < p + 1 ∧ a = a' ∧ 1 ≤ a ∧ a ≤ n - l ∧ ∃ r, l ≤ r ∧ r < n ∧ maj t V l r ∧ F (r + 1) + 1 = a) => X56_part_I hR hv ht hl hF k f f' a a' (p + 1) T1 ah z2.1 z2.2.1 z2.2.2.1 z2.2.2.2.1 z2.2.2.2.2 fe (by omega) (by omega) (by omega) (by omega) h1' hs1 ha hfe (Or.inr hi2)
    have new := fun (hm : maj t V l p) => X56_part_I hR hv ht hl hF k f f' (F (p + 1) + 1) (F (p + 1) + 1) (p + 1) T1 (upd ah l.toNat (zI (F (p + 1) + 1))) z.1 z.2.1 z.2.2.1 z.2.2.2.1 z.2.2.2.2 (upd fe l.toNat (zI (F (p + 1) + 1))) (by omega) (by omega) (by omega) (by omega) h1' (fun j h0 h3 => by
      rw [upd_at hl.1 (by omega), if_neg (by omega), upd_at hl.1 (by omega), if_neg (by omega)]
      exact hs1 j h0 h3) (by rw [upd_at hl.1 hl.1, if_pos rfl]) (by rw [upd_at hl.1 hl.1, if_pos rfl]) (Or.inr ⟨by omega, rfl, by omega, by omega, p, hp, by omega, hm, rfl⟩)
    by_cases m : maj t V l p
    · rw [bz_t (hmj.mpr m), if_neg i1, if_pos (hmj.mpr m)]
      rcases hi with ⟨i2, i3, i4⟩ | hi
      · subst i3 i4
        have q1 : (if zI (F (p + 1) + 1) < zI 120 then zI (F (p + 1) + 1) else zI 120) = zI (F (p + 1) + 1) := by
          by_cases q : F (p + 1) + 1 < 120
          · rw [if_pos (show zI (F (p + 1) + 1) < zI 120 by rw [zI_lt (by omega) (by omega) (by omega) (by omega)]; exact q)]
          · rw [if_neg (show ¬ zI (F (p + 1) + 1) < zI 120 by rw [zI_lt (by omega) (by omega) (by omega) (by omega)]; exact q), show F (p + 1) + 1 = 120 by omega]
        rw [q1, if_neg (show ¬ zI 121 ≤ zI (F (p + 1) + 1) by rw [zI_le (by omega) (by omega) (by omega) (by omega)]; omega), if_neg (show ¬ zI (bsT t (spT V l p)) = -1 by rw [z_m1, zI_eq (by omega) (by omega) (by omega) (by omega)]; omega)]
        obtain ⟨T', ah', o', fo', la', un', um', fe', x, r1, r2, r3, r4, r5, r6, r7⟩ := new m
        exact ⟨T', ah', o', fo', la', un', um', fe', x, r1, r2, r3, r4, r5, r6, fun _ => r7 (by omega)⟩
      · obtain ⟨i2, i3, i4, i5, i6⟩ := hi
        subst i3
        by_cases q : F (p + 1) + 1 < a
        · rw [if_pos (show zI (F (p + 1) + 1) < zI a by rw [zI_lt (by omega) (by omega) (by omega) (by omega)]; exact q), if_neg (show ¬ zI a ≤ zI (F (p + 1) + 1) by rw [zI_le (by omega) (by omega) (by omega) (by omega)]; omega), if_neg (show ¬ zI (bsT t (spT V l p)) = -1 by rw [z_m1, zI_eq (by omega) (by omega) (by omega) (by omega)]; omega)]
          obtain ⟨T', ah', o', fo', la', un', um', fe', x, r1, r2, r3, r4, r5, r6, r7⟩ := new m
          exact ⟨T', ah', o', fo', la', un', um', fe', x, r1, r2, r3, r4, r5, r6, fun _ => r7 (by omega)⟩
        · rw [if_neg (show ¬ zI (F (p + 1) + 1) < zI a by rw [zI_lt (by omega) (by omega) (by omega) (by omega)]; exact q), if_pos (show zI a ≤ zI (F (p + 1) + 1) by rw [zI_le (by omega) (by omega) (by omega) (by omega)]; omega)]
          have hup : ∀ j, l ≤ j → j ≤ n → upd ah l.toNat (zI a) j.toNat = ah j.toNat := fun j h0 h3 => by
            rw [upd_at hl.1 (by omega)]
            by_cases e : j = l
            · rw [if_pos e, e, ha]
            · rw [if_neg e]
          obtain ⟨T', ah', o', fo', la', un', um', fe', x, r1, r2, r3, r4, r5, r6, r7⟩ := X56_part_I hR hv ht hl hF k f f' a a (p + 1) T1 (upd ah l.toNat (zI a)) o fo la un um fe (by omega) (by omega) (by omega) (by omega) h1' (fun j h0 h3 => by rw [hup j (by omega) h3]; exact hs1 j h0 h3) (by rw [hup l (by omega) (by omega)]; exact ha) hfe (Or.inr ⟨by omega, rfl, i4, i5, i6⟩)
          exact ⟨T', ah', o', fo', la', un', um', fe', x, r1, r2, r3, r4, r5, r6, fun _ => r7 (by omega)⟩
    · rcases hi with ⟨i2, _⟩ | hi
      · exact absurd (by rw [i2]; exact maj_1 hBv hl hn.2) m
      · obtain ⟨i2, i3, i4, i5, i6⟩ := hi
        rw [bz_f (fun q => m (hmj.mp q)), if_pos rfl, if_neg (fun q => m (hmj.mp q))]
        by_cases q : zI a' ≤ zI (F (p + 1) + 1)
        · rw [if_pos q]
          obtain ⟨T', ah', o', fo', la', un', um', fe', x, r1, r2, r3, r4, r5, r6, r7⟩ := keep (o, fo, la, un, um) ⟨by omega, i3, i4, i5, i6⟩
          exact ⟨T', ah', o', fo', la', un', um', fe', x, r1, r2, r3, r4, r5, r6, fun _ => r7 (by omega)⟩
        · rw [if_neg q, if_pos (show zI (-1) = -1 from rfl)]
          obtain ⟨T', ah', o', fo', la', un', um', fe', x, r1, r2, r3, r4, r5, r6, r7⟩ := keep z ⟨by omega, i3, i4, i5, i6⟩
          exact ⟨T', ah', o', fo', la', un', um', fe', x, r1, r2, r3, r4, r5, r6, fun _ => r7 (by omega)⟩
theorem X56_part_O {row : RowT} {value weight : Nat → Int32} {n t : Int} {V G : Int → Int} (hR : Rw row n V G) (hv : Rv value weight n V G) (ht : 0 ≤ t ∧ t ≤ 3) : ∀ (k f f' : Nat) (l : Int) (F : Int → Int) (T : TalT) (ah : Nat → Int32) (o fo la un : Nat → Int32) (um : Int32) (fe : Nat → Int32), k < f → k < f' → l + 1 = k → l < n → TalC T → paI t V n (l + 1) F → (∀ j, l < j → j ≤ n → ah j.toNat = zI (F j) ∧ fe j.toNat = zI (F j)) →
    ∃ (T' : TalT) (ah' : Nat → Int32) (o' fo' la' un' : Nat → Int32) (um' : Int32) (fe' : Nat → Int32) (F' : Int → Int), mX5_fewestParts_L23 (zI t) row f (zI l) T ah = some (T', ah') ∧ TalC T' ∧ mX6_part_L29 value (zI n) (zI t) f' (zI l) o fo la un um fe = some (o', fo', la', un', um', fe') ∧ paI t V n 0 F' ∧ (∀ j, 0 ≤ j → j ≤ n → ah' j.toNat = zI (F' j) ∧ fe' j.toNat = zI (F' j))
  | k, 0, f', l, F, T, ah, o, fo, la, un, um, fe, h, _, _, _, _, _, _ => absurd h (Nat.not_lt_zero k)
  | k, f + 1, 0, l, F, T, ah, o, fo, la, un, um, fe, _, h, _, _, _, _, _ => absurd h (Nat.not_lt_zero k)
  | 0, f + 1, f' + 1, l, F, T, ah, o, fo, la, un, um, fe, _, _, hk, hln, hT, hF, hs1 => by
    have hn := hR.1
    rw [mX5_fewestParts_L23, if_pos (show zI l < 0 by rw [z_0, zI_lt (by omega) (by omega) (by omega) (by omega)]; omega), mX6_part_L29, if_pos (show zI l < 0 by rw [z_0, zI_lt (by omega) (by omega) (by omega) (by omega)]; omega)]
    exact ⟨T, ah, o, fo, la, un, um, fe, F, rfl, hT, rfl, fun j h0 h1 => hF j (by omega) h1, fun j h0 h1 => hs1 j (by omega) h1⟩
  | k + 1, f + 1, f' + 1, l, F, T, ah, o, fo, la, un, um, fe, hf, hf', hk, hln, hT, hF, hs1 => by
    have hn := hR.1
    obtain ⟨T1, e1, h1⟩ := X3_begin_z hT ht
    rw [mX5_fewestParts_L23, if_neg (show ¬ zI l < 0 by rw [z_0, zI_lt (by omega) (by omega) (by omega) (by omega)]; omega), wr_in (by omega) (by omega) (by omega), sob, e1, sob, mX6_part_L29, if_neg (show ¬ zI l < 0 by rw [z_0, zI_lt (by omega) (by omega) (by omega) (by omega)]; omega), wr_in (by omega) (by omega) (by omega), sob]
    obtain ⟨T2, ah2, o2, fo2, la2, un2, um2, fe2, x, r1, r2, r3, r4, r5, r6, r7⟩ := X56_part_I hR hv ht (l := l) (by omega) hF (n - l).toNat FU FU 120 121 l T1 (upd ah l.toNat 120) o fo la un um (upd fe l.toNat 121) (by rw [FU_e]; omega) (by rw [FU_e]; omega) (by omega) (by omega) (by rw [spT_nil (by omega)]; exact h1) (fun j h0 h3 => by
      rw [upd_at (by omega) (by omega), if_neg (by omega), upd_at (by omega) (by omega), if_neg (by omega)]
      exact hs1 j h0 h3) (by rw [upd_at (by omega) (by omega), if_pos rfl]; rfl) (by rw [upd_at (by omega) (by omega), if_pos rfl]; rfl) (Or.inl ⟨rfl, rfl, rfl⟩)
    obtain ⟨x1, x2, x3⟩ := r7 (Or.inl (by omega))
    rw [r1, sob, r3, sob, zI_d1]
    refine X56_part_O hR hv ht k f f' (l - 1) (pt F l x) T2 ah2 o2 fo2 la2 un2 um2 fe2 (by omega) (by omega) (by omega) (by omega) r2 (fun j h0 h3 => ?_) (fun j h0 h3 => ?_)
    · by_cases e : j = l
      · subst e
        rw [pt_same]
        refine ⟨by omega, by omega, fun _ => ?_⟩
        obtain ⟨r, y1, y2, y3, y4⟩ := x3
        exact ⟨r, y1, y2, y3, by rw [pt_ne F x (show r + 1 ≠ j by omega)]; exact y4⟩
      · rw [pt_ne F x e]
        obtain ⟨q1, q2, q3⟩ := hF j (by omega) h3
        refine ⟨q1, q2, fun q4 => ?_⟩
        obtain ⟨r, y1, y2, y3, y4⟩ := q3 q4
        exact ⟨r, y1, y2, y3, by rw [pt_ne F x (show r + 1 ≠ l by omega)]; exact y4⟩
    · by_cases e : j = l
      · subst e
        rw [pt_same]; exact ⟨r5, r6⟩
      · rw [pt_ne F x e]; exact r4 j (by omega) h3
/-- the next part: both find the first place that does -/
theorem X56_part_B {row : RowT} {value weight : Nat → Int32} {n t l : Int} {V G : Int → Int} {F : Int → Int} {ah fe : Nat → Int32} (hR : Rw row n V G) (hv : Rv value weight n V G) (ht : 0 ≤ t ∧ t ≤ 3) (hl : 0 ≤ l ∧ l < n) (hF : paI t V n 0 F) (hs1 : ∀ j, 0 ≤ j → j ≤ n → ah j.toNat = zI (F j) ∧ fe j.toNat = zI (F j)) : ∀ (k f f' : Nat) (p : Int) (T : TalT) (o fo la un : Nat → Int32) (um : Int32), k < f → k < f' → l ≤ p → n = p + k → TalH t (spT V l (p - 1)) T → (∃ r, p ≤ r ∧ r < n ∧ maj t V l r ∧ F (r + 1) + 1 = F l) →
    ∃ (r : Int) (T' : TalT) (z : CuT), mX5_behindPart_L13 row ah (zI l) f (zI p) T = some (zI (r + 1), T') ∧ TalC T' ∧ mX6_part_L140 value (zI t) fe (zI l) f' (zI p) o fo la un um = some (zI r, z) ∧ p ≤ r ∧ r < n ∧ F (r + 1) + 1 = F l
  | k, 0, f', p, T, o, fo, la, un, um, h, _, _, _, _, _ => absurd h (Nat.not_lt_zero k)
  | k, f + 1, 0, p, T, o, fo, la, un, um, _, h, _, _, _, _ => absurd h (Nat.not_lt_zero k)
  | 0, f + 1, f' + 1, p, T, o, fo, la, un, um, _, _, hp, hk, hT, ⟨r, h1, h2, _, _⟩ => by omega
  | k + 1, f + 1, f' + 1, p, T, o, fo, la, un, um, hf, hf', hp, hk, hT, hex => by
    obtain ⟨hn, hs, hV, hG, hB⟩ := id hR
    have hBv := hR.bv
    obtain ⟨T1, e1, h1⟩ := X3_more_z hR hl.1 hp (by omega) hT
    obtain ⟨z, e2, h2⟩ := X6_majorityOf_z hv ht hl.1 hp (show p < n by omega) o fo la un um
    have hlen := spT_len (V := V) (l := l) (r := p) (by omega)
    have hbn := bsT_nn (t := t) h1.ok (spT_ne hp)
    have hmj : ((spT V l p).length : Int) < 2 * cnT (spT V l p) (bsT t (spT V l p)) ↔ maj t V l p := by
      unfold maj mxS; omega
    have hFp := (hF (p + 1) (by omega) (by omega)).1
    have hFl := (hF l (by omega) (by omega)).1
    obtain ⟨a1, a2⟩ := hs1 (p + 1) (by omega) (by omega)
    obtain ⟨a3, a4⟩ := hs1 l (by omega) (by omega)
    have h1' : TalH t (spT V l (p + 1 - 1)) T1 := by rw [show p + 1 - 1 = p by omega]; exact h1
    have next := fun (z2 : CuT) (hno : ¬ (maj t V l p ∧ F (p + 1) + 1 = F l)) => X56_part_B hR hv ht hl hF hs1 k f f' (p + 1) T1 z2.1 z2.2.1 z2.2.2.1 z2.2.2.2.1 z2.2.2.2.2 (by omega) (by omega) (by omega) (by omega) h1' (by
      obtain ⟨r, y1, y2, y3, y4⟩ := hex
      refine ⟨r, ?_, y2, y3, y4⟩
      rcases Int.lt_or_eq_of_le y1 with q | q
      · omega
      · rw [← q] at y3 y4; exact absurd ⟨y3, y4⟩ hno)
    have go : ∀ z2 : CuT, ¬ (maj t V l p ∧ F (p + 1) + 1 = F l) → ∃ (r : Int) (T' : TalT) (z : CuT), mX5_behindPart_L13 row ah (zI l) f (zI (p + 1)) T1 = some (zI (r + 1), T') ∧ TalC T' ∧ mX6_part_L140 value (zI t) fe (zI l) f' (zI (p + 1)) z2.1 z2.2.1 z2.2.2.1 z2.2.2.2.1 z2.2.2.2.2 = some (zI r, z) ∧ p ≤ r ∧ r < n ∧ F (r + 1) + 1 = F l := by
      intro z2 hno
      obtain ⟨r, T', z', r1, r2, r3, r4, r5, r6⟩ := next z2 hno
      exact ⟨r, T', z', r1, r2, r3, by omega, r5, r6⟩
    rw [mX5_behindPart_L13, hs, if_neg (show ¬ zI n ≤ zI p by rw [zI_le (by omega) (by omega) (by omega) (by omega)]; omega), rd_A hV (by omega) (by omega) (by omega) (by omega), sob, e1, sob, X3_hasMajority_z h1 (spT_ne hp), sob, mX6_part_L140]
    simp only [zI_a1]
    have ra1 : rd ah 121 (zI (p + 1)) = some (zI (F (p + 1))) := by rw [rd_in (by omega) (by omega) (by omega), a1]
    have ra2 : rd ah 121 (zI l) = some (zI (F l)) := by rw [rd_in (by omega) (by omega) (by omega), a3]
    have rf1 : rd fe 121 (zI (p + 1)) = some (zI (F (p + 1))) := by rw [rd_in (by omega) (by omega) (by omega), a2]
    have rf2 : rd fe 121 (zI l) = some (zI (F l)) := by rw [rd_in (by omega) (by omega) (by omega), a4]
    simp only [ra1, ra2, rf1, rf2, e2, sob, zI_a1]
    simp (disch := omega) only [zI_eq]
    by_cases m : maj t V l p
    · rw [bz_t (hmj.mpr m), if_neg i1, if_pos (hmj.mpr m)]
      by_cases q : F (p + 1) + 1 = F l
      · rw [if_neg (not_not_intro q), if_neg (not_not_intro q), if_pos (show ¬ zI (bsT t (spT V l p)) = -1 by rw [z_m1, zI_eq (by omega) (by omega) (by omega) (by omega)]; omega)]
        exact ⟨p, T1, z, rfl, h1.clean, rfl, by omega, by omega, q⟩
      · rw [if_pos q, if_pos q]
        exact go (o, fo, la, un, um) (fun y => q y.2)
    · rw [bz_f (fun q => m (hmj.mp q)), if_pos rfl, if_neg (fun q => m (hmj.mp q))]
      by_cases q : F (p + 1) + 1 = F l
      · rw [if_neg (not_not_intro q), if_neg (show ¬ ¬ zI (-1) = -1 from not_not_intro rfl)]
        exact go z (fun y => m y.1)
      · rw [if_pos q]
        exact go (o, fo, la, un, um) (fun y => q y.2)
/-- the class goes on for k parts -/
theorem X5_part_W {row : RowT} {value weight : Nat → Int32} {n t : Int} {V G : Int → Int} {F : Int → Int} {ah fe : Nat → Int32} (hR : Rw row n V G) (hv : Rv value weight n V G) (ht : 0 ≤ t ∧ t ≤ 3) (hF : paI t V n 0 F) (hs1 : ∀ j, 0 ≤ j → j ≤ n → ah j.toNat = zI (F j) ∧ fe j.toNat = zI (F j)) {c : Int} (hc : 0 ≤ c ∧ c < 2147483648) : ∀ (m f f' : Nat) (i l : Int) (T : TalT) (o fo la un : Nat → Int32) (um : Int32), m < f → m < f' → 0 ≤ i → 0 ≤ l → l ≤ n → TalC T → c = i + m → m < F l →
    ∃ (l' : Int) (T' : TalT) (z : CuT), mX5_part_L38 (zI t) row ah (zI c) f (zI l) (zI i) T = some (zI l', T') ∧ TalC T' ∧ mX6_part_L124 value (zI n) (zI t) fe (zI c) f' (zI l) (zI i) o fo la un um = some (zI l', z) ∧ 0 ≤ l' ∧ l' < n
  | m, 0, f', i, l, T, o, fo, la, un, um, h, _, _, _, _, _, _, _ => absurd h (Nat.not_lt_zero m)
  | m, f + 1, 0, i, l, T, o, fo, la, un, um, _, h, _, _, _, _, _, _ => absurd h (Nat.not_lt_zero m)
  | 0, f + 1, f' + 1, i, l, T, o, fo, la, un, um, _, _, hi, hl, hln, hT, hcm, hFm => by
    have hn := hR.1
    have := hF l hl hln
    have hlt : l < n := by
      rcases Int.lt_or_eq_of_le hln with q | q
      · exact q
      · have := this.2.1.mpr q; omega
    rw [mX5_part_L38, if_pos (show zI c ≤ zI i by rw [zI_le (by omega) (by omega) (by omega) (by omega)]; omega), mX6_part_L124, if_pos (show zI c ≤ zI i by rw [zI_le (by omega) (by omega) (by omega) (by omega)]; omega)]
    exact ⟨l, T, (o, fo, la, un, um), rfl, hT, rfl, hl, hlt⟩
  | m + 1, f + 1, f' + 1, i, l, T, o, fo, la, un, um, hf, hf', hi, hl, hln, hT, hcm, hFm => by
    have hn := hR.1
    obtain ⟨p1, p2, p3⟩ := hF l hl hln
    have hlt : l < n := by
      rcases Int.lt_or_eq_of_le hln with q | q
      · exact q
      · have := p2.mpr q; omega
    obtain ⟨T1, e1, h1⟩ := X3_begin_z hT ht
    obtain ⟨r, T2, z, r1, r2, r3, r4, r5, r6⟩ := X56_part_B hR hv ht (l := l) ⟨hl, hlt⟩ hF hs1 (n - l).toNat FU FU l T1 o fo la un um (by rw [FU_e]; omega) (by rw [FU_e]; omega) (by omega) (by omega) (by rw [spT_nil (by omega)]; exact h1) (p3 hlt)
    have e2 : mX5_behindPart (zI t) row T ah (zI l) = some (zI (r + 1), T2) := by
      unfold mX5_behindPart
      rw [e1, sob, r1]
    rw [mX5_part_L38, if_neg (show ¬ zI c ≤ zI i by rw [zI_le (by omega) (by omega) (by omega) (by omega)]; omega), e2, sob, mX6_part_L124, if_neg (show ¬ zI c ≤ zI i by rw [zI_le (by omega) (by omega) (by omega) (by omega)]; omega), if_neg (show ¬ zI n ≤ zI l by rw [zI_le (by omega) (by omega) (by omega) (by omega)]; omega), r3, sob]
    simp only [zI_a1]
    exact X5_part_W hR hv ht hF hs1 hc m f f' (i + 1) (r + 1) T2 z.1 z.2.1 z.2.2.1 z.2.2.2.1 z.2.2.2.2 (by omega) (by omega) (by omega) (by omega) (by omega) r2 (by omega) (by omega)
/-- more parts asked for than there are: the reference comes to the end -/
theorem X6_part_W {row : RowT} {value weight : Nat → Int32} {n t : Int} {V G : Int → Int} {F : Int → Int} {ah fe : Nat → Int32} (hR : Rw row n V G) (hv : Rv value weight n V G) (ht : 0 ≤ t ∧ t ≤ 3) (hF : paI t V n 0 F) (hs1 : ∀ j, 0 ≤ j → j ≤ n → ah j.toNat = zI (F j) ∧ fe j.toNat = zI (F j)) {c : Int} (hc : 0 ≤ c ∧ c < 2147483648) : ∀ (m f' : Nat) (i l : Int) (T : TalT) (o fo la un : Nat → Int32) (um : Int32), m < f' → 0 ≤ i → 0 ≤ l → l ≤ n → TalC T → (m : Int) = F l → i + m ≤ c →
    ∃ (z : CuT), mX6_part_L124 value (zI n) (zI t) fe (zI c) f' (zI l) (zI i) o fo la un um = some (zI n, z)
  | m, 0, i, l, T, o, fo, la, un, um, h, _, _, _, _, _, _ => absurd h (Nat.not_lt_zero m)
  | 0, f' + 1, i, l, T, o, fo, la, un, um, _, hi, hl, hln, hT, hFm, hcm => by
    have hn := hR.1
    have hle : l = n := (hF l hl hln).2.1.mp (by omega)
    subst hle
    rw [mX6_part_L124]
    by_cases q : zI c ≤ zI i
    · rw [if_pos q]; exact ⟨(o, fo, la, un, um), rfl⟩
    · rw [if_neg q, if_pos (show zI l ≤ zI l by rw [zI_le (by omega) (by omega) (by omega) (by omega)]; omega)]; exact ⟨(o, fo, la, un, um), rfl⟩
  | m + 1, f' + 1, i, l, T, o, fo, la, un, um, hf', hi, hl, hln, hT, hFm, hcm => by
    have hn := hR.1
    obtain ⟨p1, p2, p3⟩ := hF l hl hln
    have hlt : l < n := by
      rcases Int.lt_or_eq_of_le hln with q | q
      · exact q
      · have := p2.mpr q; omega
    obtain ⟨T1, e1, h1⟩ := X3_begin_z hT ht
    obtain ⟨r, T2, z, r1, r2, r3, r4, r5, r6⟩ := X56_part_B hR hv ht (l := l) ⟨hl, hlt⟩ hF hs1 (n - l).toNat FU FU l T1 o fo la un um (by rw [FU_e]; omega) (by rw [FU_e]; omega) (by omega) (by omega) (by rw [spT_nil (by omega)]; exact h1) (p3 hlt)
    rw [mX6_part_L124, if_neg (show ¬ zI c ≤ zI i by rw [zI_le (by omega) (by omega) (by omega) (by omega)]; omega), if_neg (show ¬ zI n ≤ zI l by rw [zI_le (by omega) (by omega) (by omega) (by omega)]; omega), r3, sob]
    simp only [zI_a1]
    exact X6_part_W hR hv ht hF hs1 hc m f' (i + 1) (r + 1) T2 z.1 z.2.1 z.2.2.1 z.2.2.2.1 z.2.2.2.2 (by omega) (by omega) (by omega) (by omega) r2 (by omega) (by omega)
theorem P_part {row : RowT} {value weight : Nat → Int32} {n t : Int} {V G : Int → Int} {T : TalT} (hR : Rw row n V G) (hv : Rv value weight n V G) (ht : 0 ≤ t ∧ t ≤ 3) (hT : TalC T) (th : Int32) (ah : Nat → Int32) (o fo la un : Nat → Int32) (um : Int32) (fe : Nat → Int32) (x1 : Int32) :
    ∃ (a : Int32) (T' : TalT) (ah' : Nat → Int32) (o' fo' la' un' : Nat → Int32) (um' : Int32) (fe' : Nat → Int32), mX5_part (zI t) row T ah x1 = some (a, T', ah') ∧ TalC T' ∧ mX6_part th value (zI n) (zI t) o fo la un um fe x1 = some (a, 0, o', fo', la', un', um', fe') := by
  obtain ⟨c, hc, rfl⟩ := zI_ex x1
  obtain ⟨hs, hn⟩ := hR.ok
  unfold mX5_part mX6_part
  by_cases c1 : -1 ≤ c
  · rw [if_pos (show -1 ≤ zI c by rw [z_m1, zI_le (by omega) (by omega) (by omega) (by omega)]; exact c1), if_pos (show -1 ≤ zI c by rw [z_m1, zI_le (by omega) (by omega) (by omega) (by omega)]; exact c1)]
    have hup : ∀ (g : Nat → Int32), upd g n.toNat 0 n.toNat = zI 0 := fun g => by rw [upd_at (by omega) (by omega), if_pos rfl]; rfl
    obtain ⟨T1, ah1, o1, fo1, la1, un1, um1, fe1, F, r1, r2, r3, r4, r5⟩ := X56_part_O hR hv ht n.toNat FU FU (n - 1) (fun _ => 0) T (upd ah n.toNat 0) o fo la un um (upd fe n.toNat 0) (by rw [FU_e]; omega) (by rw [FU_e]; omega) (by omega) (by omega) hT (fun j h0 h1 => by
      have : j = n := by omega
      subst this
      exact ⟨by show (0 : Int) ≤ 0 ∧ 0 ≤ j - j; omega, by simp, fun q => by omega⟩) (fun j h0 h1 => by
      have : j = n := by omega
      subst this
      exact ⟨hup ah, hup fe⟩)
    have e1 : mX5_fewestParts (zI t) row T ah = some (T1, ah1) := by
      unfold mX5_fewestParts
      rw [hs, wr_in (by omega) (by omega) (by omega), sob, zI_m1, r1, sob]
    obtain ⟨f1, f2⟩ := r5 0 (by omega) (by omega)
    have hF0 := (r4 0 (by omega) (by omega)).1
    rw [e1, sob, wr_in (by omega) (by omega) (by omega), sob, zI_m1, r3, sob]
    simp only []
    rw [show (0 : Int32) = zI 0 from rfl, rd_in (by omega) (by omega) (by omega), f1, rd_in (by omega) (by omega) (by omega), f2, sob, sob]
    by_cases d : c = -1
    · subst d
      rw [if_neg (show ¬ ¬ zI (-1) = (-1 : Int32) from not_not_intro rfl), if_neg (show ¬ ¬ zI (-1) = (-1 : Int32) from not_not_intro rfl)]
      exact ⟨_, _, _, _, _, _, _, _, _, rfl, r2, rfl⟩
    · rw [if_pos (show ¬ zI c = -1 by rw [z_m1, zI_eq (by omega) (by omega) (by omega) (by omega)]; exact d), if_pos (show ¬ zI c = -1 by rw [z_m1, zI_eq (by omega) (by omega) (by omega) (by omega)]; exact d)]
      by_cases g : c < F 0
      · rw [if_pos (show zI c < zI (F 0) by rw [zI_lt (by omega) (by omega) (by omega) (by omega)]; exact g)]
        obtain ⟨l', T2, z, q1, q2, q3, q4, q5⟩ := X5_part_W hR hv ht r4 r5 (c := c) (by omega) c.toNat FU FU 0 0 T1 o1 fo1 la1 un1 um1 (by rw [FU_e]; omega) (by rw [FU_e]; omega) (by omega) (by omega) (by omega) r2 (by omega) (by omega)
        rw [q1, sob, q3, sob, if_neg (show ¬ zI n ≤ (zI l', z).1 by show ¬ zI n ≤ zI l'; rw [zI_le (by omega) (by omega) (by omega) (by omega)]; omega)]
        exact ⟨_, _, _, _, _, _, _, _, _, rfl, q2, rfl⟩
      · rw [if_neg (show ¬ zI c < zI (F 0) by rw [zI_lt (by omega) (by omega) (by omega) (by omega)]; exact g)]
        obtain ⟨z, q3⟩ := X6_part_W hR hv ht r4 r5 (c := c) (by omega) (F 0).toNat FU 0 0 T1 o1 fo1 la1 un1 um1 (by rw [FU_e]; omega) (by omega) (by omega) (by omega) r2 (by omega) (by omega)
        rw [q3, sob, if_pos (show zI n ≤ (zI n, z).1 by show zI n ≤ zI n; rw [zI_le (by omega) (by omega) (by omega) (by omega)]; omega)]
        exact ⟨_, _, _, _, _, _, _, _, _, rfl, r2, rfl⟩
  · rw [if_neg (show ¬ -1 ≤ zI c by rw [z_m1, zI_le (by omega) (by omega) (by omega) (by omega)]; exact c1), if_neg (show ¬ -1 ≤ zI c by rw [z_m1, zI_le (by omega) (by omega) (by omega) (by omega)]; exact c1)]
    exact ⟨_, _, _, _, _, _, _, _, _, rfl, hT, rfl⟩

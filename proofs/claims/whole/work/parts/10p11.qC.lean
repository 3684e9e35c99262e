/-! PURE ROWS. Questions that push otherwise: ifSet, ifOut, together, common, pair -/
theorem okT_cons {x : Int} {R : List Int} (hx : 0 ≤ x ∧ x < 1000) (ok : okT R) (hl : R.length + 1 ≤ 120) : okT (x :: R) := ⟨by rw [List.length_cons]; exact hl, fun v hv => by
  rcases List.mem_cons.mp hv with e | e
  · rw [e]; exact hx
  · exact ok.2 v e⟩
theorem X5_ifSet_L {row : RowT} {n : Int} {V G : Int → Int} (hR : Rw row n V G) {t r s v : Int} (hs : 0 ≤ s ∧ s < n) (hvv : 0 ≤ v ∧ v < 1000) (hr : r < n) : ∀ (k f : Nat) (p : Int) (R : List Int) (T : TalT), k < f → 0 ≤ p → r + 1 = p + k → R.length + k ≤ 120 → TalH t R T →
    ∃ T', mX5_ifSet_L47 row (zI s) (zI v) (zI r) f (zI p) T = some T' ∧ TalH t (spA (pt V s v) p k R) T'
  | k, 0, p, R, T, h, _, _, _, _ => absurd h (Nat.not_lt_zero k)
  | 0, f + 1, p, R, T, _, hp, hk, _, hT => by
    have hn := hR.1
    simp (disch := omega) only [mX5_ifSet_L47, z_0, z_1, z_2, z_3, z_4, z_5, z_6, z_7, z_8, z_9, z_12, z_20, z_120, z_121, z_880, z_900, z_999, z_1000, zI_neg, zI_add, zI_sub, zI_mul, zI_lt, zI_le, zI_eq, sob, bz_0, Classical.not_not]
    rw [if_pos (show r < p by omega)]
    exact ⟨T, rfl, hT⟩
  | k + 1, f + 1, p, R, T, h, hp, hk, hl, hT => by
    obtain ⟨hn2, hs2, hV, hG, hB⟩ := id hR
    have hb := (hB p (by omega) (by omega)).1
    simp (disch := omega) only [mX5_ifSet_L47, rd_A hV, z_0, z_1, z_2, z_3, z_4, z_5, z_6, z_7, z_8, z_9, z_12, z_20, z_120, z_121, z_880, z_900, z_999, z_1000, zI_neg, zI_add, zI_sub, zI_mul, zI_lt, zI_le, zI_eq, sob, bz_0, Classical.not_not]
    rw [if_neg (show ¬ r < p by omega)]
    simp only [spA]
    by_cases e : p = s
    · subst e
      obtain ⟨T1, e1, hT1⟩ := X3_push_z hT (x := v) (okT_cons hvv hT.ok (by omega))
      rw [if_neg (not_not_intro rfl), e1, sob, pt_same]
      exact X5_ifSet_L hR hs hvv hr k f (p + 1) _ T1 (by omega) (by omega) (by omega) (by rw [List.length_cons]; omega) hT1
    · obtain ⟨T1, e1, hT1⟩ := X3_push_z hT (x := V p) (okT_cons hb hT.ok (by omega))
      rw [if_pos e, e1, sob, pt_ne V v e]
      exact X5_ifSet_L hR hs hvv hr k f (p + 1) _ T1 (by omega) (by omega) (by omega) (by rw [List.length_cons]; omega) hT1
theorem P_ifSet {row : RowT} {value weight : Nat → Int32} {n t : Int} {V G : Int → Int} {T : TalT} (hR : Rw row n V G) (hv : Rv value weight n V G) (ht : 0 ≤ t ∧ t ≤ 3) (hT : TalC T) (th : Int32) (o fo la un : Nat → Int32) (um x1 x2 x3 x4 : Int32) :
    ∃ (a : Int32) (T' : TalT) (va : Nat → Int32) (z : CuT), mX5_ifSet (zI t) row T x1 x2 x3 x4 = some (a, T') ∧ TalC T' ∧ mX6_ifSet th value (zI n) (zI t) o fo la un um x1 x2 x3 x4 = some (a, 0, va, z) ∧ Rv va weight n V G := by
  obtain ⟨s, hss, rfl⟩ := zI_ex x1
  obtain ⟨v, hvv, rfl⟩ := zI_ex x2
  obtain ⟨l, hl, rfl⟩ := zI_ex x3
  obtain ⟨r, hr, rfl⟩ := zI_ex x4
  obtain ⟨hs, hn⟩ := hR.ok
  unfold mX5_ifSet mX6_ifSet
  rw [X2_has_z hs hn hss, X6_isPlace_z hn hss, sob, sob]
  by_cases c : 0 ≤ s ∧ s < n
  · rw [bz_t c, if_neg i1, if_neg i1, X5_isValue_z hvv, X6_isValue_z hvv, sob, sob]
    by_cases d : 0 ≤ v ∧ v < 1000
    · rw [bz_t d, if_neg i1, if_neg i1, X2_hasSpan_z hs hn hl hr, X6_isSpan_z hn hl hr, sob, sob]
      by_cases e : 0 ≤ l ∧ l ≤ r ∧ r < n
      · rw [bz_t e, if_pos i1, if_pos i1]
        obtain ⟨T1, e1, h1⟩ := X3_begin_z hT ht
        obtain ⟨T2, e2, h2⟩ := X5_ifSet_L hR c d e.2.2 (r + 1 - l).toNat FU l [] T1 (by rw [FU_e]; omega) e.1 (by omega) (by simp only [List.length_nil]; omega) h1
        obtain ⟨hn2, hV, hG, hB⟩ := id hv
        have hv2 : Rv (upd value s.toNat (zI v)) weight n (pt V s v) G := ⟨hn2, Ar_wr hV c.1, hG, fun i h0 h1 => by
          have := hB i h0 h1
          by_cases q : i = s
          · rw [q, pt_same]; exact ⟨d, by rw [q] at this; exact this.2⟩
          · rw [pt_ne V v q]; exact this⟩
        obtain ⟨z, e3, h3⟩ := X6_modeOf_z hv2 ht e.1 (by omega) e.2.2 o fo la un um
        rw [e1, sob, e2, sob, rd_A hV c.1 c.2 (by omega) (by omega), sob, wr_in c.1 (by omega) (by omega), sob, e3, sob, wr_in c.1 (by omega) (by omega), sob, h2.best]
        refine ⟨_, _, _, _, rfl, h2.clean, rfl, hn2, fun i h0 h1 => ?_, hG, hB⟩
        rw [upd_at c.1 h0]
        by_cases q : i = s
        · rw [if_pos q, q]
        · rw [if_neg q, upd_at c.1 h0, if_neg q]; exact hV i h0 h1
      · rw [bz_f e, if_neg i0n, if_neg i0n]
        exact ⟨_, _, _, (o, fo, la, un, um), rfl, hT, rfl, hv⟩
    · rw [bz_f d, if_pos rfl, if_pos rfl]
      exact ⟨_, _, _, (o, fo, la, un, um), rfl, hT, rfl, hv⟩
  · rw [bz_f c, if_pos rfl, if_pos rfl]
    exact ⟨_, _, _, (o, fo, la, un, um), rfl, hT, rfl, hv⟩
/-! ifOut -/
theorem X5_ifOut_L1 {row : RowT} {n : Int} {V G : Int → Int} (hR : Rw row n V G) {t r b : Int} (hb : 0 ≤ b ∧ b < 1000) (hr : r < n) : ∀ (k f : Nat) (p : Int) (R : List Int) (T : TalT), k < f → 0 ≤ p → b < p → r + 1 = p + k → R.length + k ≤ 120 → TalH t R T →
    ∃ T', mX5_ifOut_L46 row (zI b) (zI r) f (zI p) T = some T' ∧ TalH t (spA V p k R) T'
  | k, 0, p, R, T, h, _, _, _, _, _ => absurd h (Nat.not_lt_zero k)
  | 0, f + 1, p, R, T, _, hp, _, hk, _, hT => by
    have hn := hR.1
    simp (disch := omega) only [mX5_ifOut_L46, z_0, z_1, z_2, z_3, z_4, z_5, z_6, z_7, z_8, z_9, z_12, z_20, z_120, z_121, z_880, z_900, z_999, z_1000, zI_neg, zI_add, zI_sub, zI_mul, zI_lt, zI_le, zI_eq, sob, bz_0, Classical.not_not]
    rw [if_pos (show r < p by omega)]
    exact ⟨T, rfl, hT⟩
  | k + 1, f + 1, p, R, T, h, hp, hbp, hk, hl, hT => by
    obtain ⟨hn2, hs2, hV, hG, hB⟩ := id hR
    have hb2 := (hB p (by omega) (by omega)).1
    obtain ⟨T1, e1, hT1⟩ := X3_push_z hT (x := V p) (okT_cons hb2 hT.ok (by omega))
    simp (disch := omega) only [mX5_ifOut_L46, rd_A hV, e1, z_0, z_1, z_2, z_3, z_4, z_5, z_6, z_7, z_8, z_9, z_12, z_20, z_120, z_121, z_880, z_900, z_999, z_1000, zI_neg, zI_add, zI_sub, zI_mul, zI_lt, zI_le, zI_eq, sob, bz_0, Classical.not_not]
    rw [if_neg (show ¬ r < p by omega), if_neg (show ¬ p = b by omega)]
    exact X5_ifOut_L1 hR hb hr k f (p + 1) _ T1 (by omega) (by omega) (by omega) (by omega) (by rw [List.length_cons]; omega) hT1
theorem X5_ifOut_L2 {row : RowT} {n : Int} {V G : Int → Int} (hR : Rw row n V G) {t r b : Int} (hb : 0 ≤ b ∧ b ≤ r) (hr : r < n) : ∀ (k f : Nat) (p : Int) (R : List Int) (T : TalT), k + (r - b).toNat + 1 < f → 0 ≤ p → b = p + k → R.length + k + (r - b) ≤ 120 → TalH t R T →
    ∃ T', mX5_ifOut_L46 row (zI b) (zI r) f (zI p) T = some T' ∧ TalH t (spA V (b + 1) (r - b).toNat (spA V p k R)) T'
  | k, 0, p, R, T, h, _, _, _, _ => absurd h (Nat.not_lt_zero _)
  | 0, f + 1, p, R, T, hf, hp, hk, hl, hT => by
    have hn := hR.1
    simp (disch := omega) only [mX5_ifOut_L46, z_0, z_1, z_2, z_3, z_4, z_5, z_6, z_7, z_8, z_9, z_12, z_20, z_120, z_121, z_880, z_900, z_999, z_1000, zI_neg, zI_add, zI_sub, zI_mul, zI_lt, zI_le, zI_eq, sob, bz_0, Classical.not_not]
    rw [if_neg (show ¬ r < p by omega), if_pos (show p = b by omega), show p + 1 = b + 1 by omega]
    exact X5_ifOut_L1 hR (by omega) hr (r - b).toNat f (b + 1) R T (by omega) (by omega) (by omega) (by omega) (by omega) hT
  | k + 1, f + 1, p, R, T, h, hp, hk, hl, hT => by
    obtain ⟨hn2, hs2, hV, hG, hB⟩ := id hR
    have hb2 := (hB p (by omega) (by omega)).1
    obtain ⟨T1, e1, hT1⟩ := X3_push_z hT (x := V p) (okT_cons hb2 hT.ok (by omega))
    simp (disch := omega) only [mX5_ifOut_L46, rd_A hV, e1, z_0, z_1, z_2, z_3, z_4, z_5, z_6, z_7, z_8, z_9, z_12, z_20, z_120, z_121, z_880, z_900, z_999, z_1000, zI_neg, zI_add, zI_sub, zI_mul, zI_lt, zI_le, zI_eq, sob, bz_0, Classical.not_not]
    rw [if_neg (show ¬ r < p by omega), if_neg (show ¬ p = b by omega)]
    exact X5_ifOut_L2 hR hb hr k f (p + 1) _ T1 (by omega) (by omega) (by omega) (by rw [List.length_cons]; omega) hT1
theorem X6_counts_B {value weight : Nat → Int32} {n : Int} {V G : Int → Int} (hv : Rv value weight n V G) {pos : Int → Int} {r b : Int} (hr : r < n) (hb : 0 ≤ b ∧ b ≤ r) : ∀ (k f : Nat) (p : Int) (R : List Int) (o fo la un : Nat → Int32) (um : Int32), k + (r - b).toNat + 1 < f → 0 ≤ p → b = p + k → R.length + k + (r - b) ≤ 120 → (∀ i : Int, R.length ≤ i → i < R.length + k → pos i = p + (i - R.length)) → (∀ i : Int, R.length + k ≤ i → i < R.length + k + (r - b) → pos i = p + 1 + (i - R.length)) → CuH pos R (o, fo, la, un, um) →
    ∃ z : CuT, mX6_counts_L33 value (zI r) (zI b) f (zI p) o fo la un um = some z ∧ CuH pos (spA V (b + 1) (r - b).toNat (spA V p k R)) z
  | k, 0, p, R, o, fo, la, un, um, h, _, _, _, _, _, _ => absurd h (Nat.not_lt_zero _)
  | 0, f + 1, p, R, o, fo, la, un, um, hf, hp, hk, hl, _, hpos, hC => by
    have hn := hv.1
    simp (disch := omega) only [mX6_counts_L33, zI_lt, zI_eq, zI_a1]
    rw [if_neg (show ¬ r < p by omega), if_neg (show ¬ ¬ p = b by omega), show p + 1 = b + 1 by omega]
    exact X6_counts_L hv hr (by omega) (r - b).toNat f (b + 1) R o fo la un um (by omega) (by omega) (by omega) (by omega) (Or.inl (by omega)) (fun i g1 g2 => by rw [hpos i (by omega) (by omega)]; omega) hC
  | k + 1, f + 1, p, R, o, fo, la, un, um, h, hp, hk, hl, hpos1, hpos2, hC => by
    obtain ⟨hn2, hV, hG, hB⟩ := id hv
    have hbv := (hB p (by omega) (by omega)).1
    obtain ⟨z, e1, h1⟩ := X6_push_z hC (x := V p) (q := p) (okT_cons hbv hC.ok (by omega)) (by rw [hpos1 R.length (by omega) (by omega)]; omega)
    rw [X6_counts_eq _ _ _ _ _ _ _ _ _ _ (by rw [zI_lt (by omega) (by omega) (by omega) (by omega)]; omega) (by rw [zI_eq (by omega) (by omega) (by omega) (by omega)]; omega), rd_A hV hp (by omega) (by omega) (by omega), sob, e1, sob, zI_a1]
    exact X6_counts_B hv hr hb k f (p + 1) (V p :: R) z.1 z.2.1 z.2.2.1 z.2.2.2.1 z.2.2.2.2 (by omega) (by omega) (by omega) (by rw [List.length_cons]; omega) (fun i g1 g2 => by
        rw [List.length_cons] at g1 g2 ⊢
        rw [hpos1 i (by omega) (by omega)]; omega) (fun i g1 g2 => by
        rw [List.length_cons] at g1 g2 ⊢
        rw [hpos2 i (by omega) (by omega)]; omega) h1
theorem P_ifOut {row : RowT} {value weight : Nat → Int32} {n t : Int} {V G : Int → Int} {T : TalT} (hR : Rw row n V G) (hv : Rv value weight n V G) (ht : 0 ≤ t ∧ t ≤ 3) (hT : TalC T) (th : Int32) (o fo la un : Nat → Int32) (um x1 x2 x3 : Int32) :
    ∃ (a : Int32) (T' : TalT) (z : CuT), mX5_ifOut (zI t) row T x1 x2 x3 = some (a, T') ∧ TalC T' ∧ mX6_ifOut th value (zI n) (zI t) o fo la un um x1 x2 x3 = some (a, 0, z) := by
  obtain ⟨b, hb, rfl⟩ := zI_ex x1
  obtain ⟨l, hl, rfl⟩ := zI_ex x2
  obtain ⟨r, hr, rfl⟩ := zI_ex x3
  obtain ⟨hs, hn⟩ := hR.ok
  unfold mX5_ifOut mX6_ifOut
  rw [X2_hasSpan_z hs hn hl hr, X6_isSpan_z hn hl hr, sob, sob]
  simp (disch := omega) only [zI_lt, zI_le, zI_eq]
  by_cases c : 0 ≤ l ∧ l ≤ r ∧ r < n
  · rw [bz_t c, if_neg i1, if_neg i1]
    by_cases d : b < l
    · rw [if_pos d, if_pos d]; exact ⟨_, _, (o, fo, la, un, um), rfl, hT, rfl⟩
    · rw [if_neg d, if_neg d]
      by_cases e : b ≤ r
      · rw [if_pos e, if_pos e]
        have hz := X6_zero_L 1000 FU 0 o (by rw [FU_e]; omega) (by omega) (by omega) (fun i h0 h1 => by omega)
        obtain ⟨o', z1, z2⟩ := hz
        have hmo : moT (fun i => if l + i < b then l + i else l + i + 1) := by
          intro i j h0 h1 h2
          simp only []
          by_cases q1 : l + i < b
          · rw [if_pos q1]
            by_cases q2 : l + j < b
            · rw [if_pos q2]; omega
            · rw [if_neg q2]; omega
          · rw [if_neg q1, if_neg (show ¬ l + j < b by omega)]; omega
        obtain ⟨z, e3, h3⟩ := X6_counts_B hv (pos := fun i => if l + i < b then l + i else l + i + 1) c.2.2 (b := b) (by omega) (b - l).toNat FU l [] o' fo la un 0 (by rw [FU_e]; omega) c.1 (by omega) (by simp only [List.length_nil]; omega) (fun i g1 g2 => by
          simp only [List.length_nil] at g1 g2 ⊢
          rw [if_pos (by omega)]; omega) (fun i g1 g2 => by
          simp only [List.length_nil] at g1 g2 ⊢
          rw [if_neg (by omega)]; omega) ⟨cuA_nil hmo z2, Lr_nil _, rfl⟩
        have e4 : mX6_counts value o fo la un um (zI l) (zI r) (zI b) = some z := by
          unfold mX6_counts
          rw [show (0 : Int32) = zI 0 from rfl, z1, sob, show zI 0 = (0 : Int32) from rfl, e3, sob]
        rw [e4, sob, X6_modeBy_z h3 ht, sob]
        by_cases g : l = r
        · subst g
          rw [if_neg (not_not_intro rfl)]
          have hnil : spA V (b + 1) (l - b).toNat (spA V l (b - l).toNat []) = [] := by
            rw [show (b - l).toNat = 0 by omega, show (l - b).toNat = 0 by omega]; rfl
          rw [hnil, bsT_nil, if_neg (show ¬ ¬ zI (-1) = (-1 : Int32) from not_not_intro rfl)]
          exact ⟨_, _, _, rfl, hT, rfl⟩
        · rw [if_pos g]
          obtain ⟨T1, e1, h1⟩ := X3_begin_z hT ht
          obtain ⟨T2, e2, h2⟩ := X5_ifOut_L2 hR (b := b) (by omega) c.2.2 (b - l).toNat FU l [] T1 (by rw [FU_e]; omega) c.1 (by omega) (by simp only [List.length_nil]; omega) h1
          have hlen : (spA V (b + 1) (r - b).toNat (spA V l (b - l).toNat [])) ≠ [] := by
            intro q
            have := congrArg List.length q
            rw [spA_len, spA_len] at this
            simp only [List.length_nil] at this
            omega
          have hbn := bsT_nn (t := t) h2.ok hlen
          rw [e1, sob, e2, sob, h2.best, if_pos (by rw [z_m1, zI_eq (by omega) (by omega) (by omega) (by omega)]; omega)]
          exact ⟨_, _, _, rfl, h2.clean, rfl⟩
      · rw [if_neg e, if_neg e]; exact ⟨_, _, (o, fo, la, un, um), rfl, hT, rfl⟩
  · rw [bz_f c, if_pos rfl, if_pos rfl]
    exact ⟨_, _, (o, fo, la, un, um), rfl, hT, rfl⟩

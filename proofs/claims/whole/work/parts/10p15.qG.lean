/-! PURE ROWS. beginnings; lead, rarest, peeled, needed -/
def bgI (p c s q g5 g6 w : Int) : Prop := (0 ≤ c ∧ c ≤ p) ∧ (0 ≤ s ∧ s ≤ p) ∧ (c = 0 → q = -2 ∧ s = 0) ∧ (0 < c → q = s) ∧ (p = 0 → g5 = -2 ∧ g6 = -1 ∧ w = 0) ∧ (0 < p → g5 = g6 ∧ 0 ≤ g5 ∧ g5 ≤ p ∧ w = p - 1 - s)
theorem X56_begin_L {row : RowT} {value weight : Nat → Int32} {n t : Int} {V G : Int → Int} (hR : Rw row n V G) (hv : Rv value weight n V G) (ht : 0 ≤ t ∧ t ≤ 3) : ∀ (k f f' : Nat) (c s q g5 g6 w b p : Int) (T A : TalT) (S : List Int) (o fo la un : Nat → Int32) (um : Int32) (md : Nat → Int32), k < f → k < f' → 0 ≤ p → n = p + k → TalH t (spT V 0 (p - 1)) T → (p = 0 ∨ CuH (fun i => 0 + i) (spT V 0 (p - 1)) (o, fo, la, un, um)) → TalH 2 S A → Ar md 1000 (cnT S) → (S.length : Int) = p → -1 ≤ b ∧ b < 1000 → bgI p c s q g5 g6 w →
    ∃ (c' s' q' g5' g6' : Int) (T' A' : TalT) (S' : List Int) (o' fo' la' un' : Nat → Int32) (um' : Int32) (md' : Nat → Int32), mX5_beginnings_L43 row f (zI c) (zI s) (zI g5) (zI b) (zI p) T A = some (zI c', zI s', zI g5', T', A') ∧ TalC T' ∧ TalH 2 S' A' ∧ mX6_beginnings_L58 value (zI n) (zI t) f' (zI c) (zI q) (zI (dsT S).length) (zI w) (zI g6) (zI b) (zI p) o fo la un um md = some (zI c', zI q', zI (dsT S').length, zI g6', o', fo', la', un', um', md') ∧ (0 ≤ c' ∧ c' ≤ n) ∧ (c' = 0 → q' = -2) ∧ (0 < c' → q' = s') ∧ (n = 0 → g5' = -2) ∧ (0 < n → g5' = g6')
  | k, 0, f', c, s, q, g5, g6, w, b, p, T, A, S, o, fo, la, un, um, md, h, _, _, _, _, _, _, _, _, _, _ => absurd h (Nat.not_lt_zero k)
  | k, f + 1, 0, c, s, q, g5, g6, w, b, p, T, A, S, o, fo, la, un, um, md, _, h, _, _, _, _, _, _, _, _, _ => absurd h (Nat.not_lt_zero k)
  | 0, f + 1, f' + 1, c, s, q, g5, g6, w, b, p, T, A, S, o, fo, la, un, um, md, _, _, hp, hk, hT, hC, hA, hM, hS, hb, hI => by
    obtain ⟨hs, hn⟩ := hR.ok
    obtain ⟨j1, j2, j3, j4, j5, j6⟩ := hI
    simp (disch := omega) only [mX5_beginnings_L43, mX6_beginnings_L58, hs, zI_le]
    rw [if_pos (show n ≤ p by omega), if_pos (show n ≤ p by omega)]
    exact ⟨c, s, q, g5, g6, T, A, S, o, fo, la, un, um, md, rfl, hT.clean, hA, rfl, by omega, fun z => (j3 z).1, j4, fun z => (j5 (by omega)).1, fun z => (j6 (by omega)).1⟩
  | k + 1, f + 1, f' + 1, c, s, q, g5, g6, w, b, p, T, A, S, o, fo, la, un, um, md, h, h', hp, hk, hT, hC, hA, hM, hS, hb, hI => by
    obtain ⟨hn, hs, hV, hG, hB⟩ := id hR
    obtain ⟨j1, j2, j3, j4, j5, j6⟩ := hI
    obtain ⟨T1, e1, h1⟩ := X3_more_z hR (l := 0) (by omega) hp (by omega) hT
    obtain ⟨z, e2, h2⟩ := X6_longer_z hv ht (l := 0) (by omega) hp (by omega) o fo la un um hC
    have hbn := bsT_nn (t := t) h1.ok (spT_ne hp)
    have hbe := h1.best
    have h1' : TalH t (spT V 0 (p + 1 - 1)) T1 := by rw [show p + 1 - 1 = p by omega]; exact h1
    have h2' : CuH (fun i => 0 + i) (spT V 0 (p + 1 - 1)) (z.1, z.2.1, z.2.2.1, z.2.2.2.1, z.2.2.2.2) := by rw [show p + 1 - 1 = p by omega]; exact h2
    generalize bsT t (spT V 0 p) = x at e2 hbn hbe
    obtain ⟨A1, e3, h3⟩ := X3_push_z hA (x := x) (okT_cons hbn hA.ok (by omega))
    have cx := cnT_nn S x
    have c0 := cnT_0 S x
    have okS := hA.ok.1
    have hrp : -100 ≤ g6 ∧ g6 ≤ 200 ∧ -100 ≤ g5 ∧ g5 ≤ 200 ∧ -1 ≤ w ∧ w ≤ 200 := by
      by_cases p0 : p = 0
      · have := j5 p0; omega
      · have := j6 (by omega); omega
    have hu : (if ¬ zI (cnT S x) = 0 then some (0 : Int32) else some 1).bind (fun z17 => some (zI (dsT S).length + z17)) = some (zI ((dsT (x :: S)).length)) := by
      rw [dsT_push_len]
      by_cases m : x ∈ S
      · have := (cnT_pos S x).mpr m
        rw [if_pos (show ¬ zI (cnT S x) = 0 by rw [z_0, zI_eq (by omega) (by omega) (by omega) (by omega)]; omega), sob, if_pos m, zI_a0, Int.add_zero]
      · rw [if_neg (show ¬ ¬ zI (cnT S x) = 0 by rw [c0.mpr m]; exact not_not_intro rfl), sob, if_neg m, zI_a1]
    have go := fun c2 s2 q2 g52 g62 w2 hI2 => X56_begin_L hR hv ht k f f' c2 s2 q2 g52 g62 w2 x (p + 1) T1 A1 (x :: S) z.1 z.2.1 z.2.2.1 z.2.2.2.1 z.2.2.2.2 (upd md x.toNat (zI (cnT S x + 1))) (by omega) (by omega) (by omega) (by omega) h1' (Or.inr h2') h3 (Ar_mode hM hbn) (by rw [List.length_cons]; omega) (by omega) hI2
    rw [mX5_beginnings_L43, mX6_beginnings_L58]
    rw [if_neg (show ¬ row.2.2 ≤ zI p by rw [hs, zI_le (by omega) (by omega) (by omega) (by omega)]; omega), if_neg (show ¬ zI n ≤ zI p by rw [zI_le (by omega) (by omega) (by omega) (by omega)]; omega), rd_A hV hp (by omega) (by omega) (by omega), sob, e1, sob, hbe, e3, z_0, e2]
    simp only [sob]
    rw [rd_A hM hbn.1 hbn.2 (by omega) (by omega)]
    simp only [sob]
    rw [zI_a1, wr_in hbn.1 (by omega) (by omega)]
    simp only [sob]
    simp (disch := omega) only [zI_le, zI_eq]
    have hnz : ¬ (zI 1 = zI 0) := by rw [zI_eq (by omega) (by omega) (by omega) (by omega)]; omega
    have u1 : (if ¬ cnT S x = 0 then some (zI 0) else some 1) = some (zI (if x ∈ S then 0 else 1)) := by
      by_cases m : x ∈ S
      · have := (cnT_pos S x).mpr m
        rw [if_pos (show ¬ cnT S x = 0 by omega), if_pos m]
      · rw [if_neg (show ¬ ¬ cnT S x = 0 by rw [c0.mpr m]; exact not_not_intro rfl), if_neg m]; rfl
    have u2 : zI ((dsT S).length : Int) + zI (if x ∈ S then 0 else 1) = zI ((dsT (x :: S)).length) := by rw [zI_add, dsT_push_len]
    have hz0 : zI (0 : Int) + 1 = zI 1 := rfl
    by_cases p0 : p ≤ 0
    · have pz : p = 0 := by omega
      subst pz
      obtain ⟨k1, k2, k3⟩ := j5 rfl
      obtain ⟨ch, sh⟩ : c = 0 ∧ s = 0 := by omega
      have k4 := (j3 ch).1
      simp only [show (0 : Int) ≤ 0 from Int.le_refl 0, if_true, sob, u1, u2, not_true_eq_false, if_false, zI_add, zI_sub, zI_a1, Int.add_zero]
      subst k1 k2 k3 ch sh k4
      simp (disch := omega) only [zI_lt, zI_le]
      rw [if_pos (show (-2 : Int) < 0 - 0 by omega), if_neg (show ¬ (0 : Int) ≤ -1 by omega)]
      exact go 0 0 (-2) (0 - 0) 0 0 ⟨by omega, by omega, by omega, by omega, by omega, by omega⟩
    · obtain ⟨k1, k2, k3, k4⟩ := j6 (by omega)
      subst k1 k4
      simp only [p0, if_false]
      by_cases xb : x = b
      · simp only [xb, if_true, sob] at u1 u2 ⊢
        simp only [u1, sob, u2, show ¬ p = 0 from by omega, not_false_eq_true, if_true, zI_add, zI_sub, zI_a1, Int.add_zero]
        simp (disch := omega) only [zI_lt, zI_le]
        subst xb
        by_cases g : g5 < p - s
        · rw [if_pos g, if_neg (show ¬ p - 1 - s + 1 ≤ g5 by omega)]
          exact go c s q (p - s) (p - 1 - s + 1) (p - 1 - s + 1) ⟨by omega, by omega, by omega, by omega, by omega, by omega⟩
        · rw [if_neg g, if_pos (show p - 1 - s + 1 ≤ g5 by omega)]
          exact go c s q g5 g5 (p - 1 - s + 1) ⟨by omega, by omega, by omega, by omega, by omega, by omega⟩
      · have hnz1 : ¬ ((1 : Int32) = zI 0) := hnz
        simp only [xb, if_false, sob, u1, hnz1, u2, zI_add, zI_sub, zI_a1]
        simp (disch := omega) only [zI_lt, zI_le]
        rw [if_neg (show ¬ g5 < p - p by omega), if_pos (show (0 : Int) ≤ g5 by omega)]
        exact go (c + 1) p p g5 g5 0 ⟨by omega, by omega, by omega, by omega, by omega, by omega⟩
theorem P_beginnings {row : RowT} {value weight : Nat → Int32} {n t : Int} {V G : Int → Int} {T A : TalT} (hR : Rw row n V G) (hv : Rv value weight n V G) (ht : 0 ≤ t ∧ t ≤ 3) (hT : TalC T) (hA : TalC A) (th : Int32) (o fo la un : Nat → Int32) (um : Int32) (md : Nat → Int32) (x1 : Int32) :
    ∃ (a : Int32) (T' A' : TalT) (o' fo' la' un' : Nat → Int32) (um' : Int32) (md' : Nat → Int32), mX5_beginnings (zI t) row T A x1 = some (a, T', A') ∧ TalC T' ∧ TalC A' ∧ mX6_beginnings th value (zI n) (zI t) o fo la un um md x1 = some (a, 0, o', fo', la', un', um', md') := by
  obtain ⟨q, hq, rfl⟩ := zI_ex x1
  obtain ⟨hs, hn⟩ := hR.ok
  simp (disch := omega) only [mX5_beginnings, mX6_beginnings, X5_isBelow_z hq, z_0, z_1, z_2, z_3, z_4, z_5, z_6, z_7, z_8, z_9, z_12, z_20, z_120, z_121, z_880, z_900, z_999, z_1000, zI_neg, zI_add, zI_sub, zI_mul, zI_lt, zI_le, zI_eq, sob, bz_0, Classical.not_not]
  by_cases d : 0 ≤ q ∧ q < 4
  · rw [if_pos d, if_neg (show ¬ q < 0 by omega), if_pos (show q ≤ 3 by omega)]
    obtain ⟨T1, e1, h1⟩ := X3_begin_z hT ht
    obtain ⟨A1, e2, h2⟩ := X3_begin_z hA (t := 2) (by omega)
    obtain ⟨md1, e3, h3⟩ := X6_modes0 1000 FU 0 md (by rw [FU_e]; omega) (by omega) (by omega) (fun i h0 h1 => by omega)
    obtain ⟨c', s', q', g5', g6', T', A', S', o', fo', la', un', um', md', r1, r2, r3, r4, r5, r6, r7, r8, r9⟩ := X56_begin_L hR hv ht n.toNat FU FU 0 0 (-2) (-2) (-1) 0 (-1) 0 T1 A1 [] o fo la un um md1 (by rw [FU_e]; omega) (by rw [FU_e]; omega) (by omega) (by omega) (by rw [spT_nil (by omega)]; exact h1) (Or.inl rfl) h2 (h3.eq (fun i _ _ => rfl)) rfl (by omega) ⟨by omega, by omega, by omega, by omega, by omega, by omega⟩
    rw [e1, sob, e2, sob, r1, sob, X6_modes0b, e3, sob]
    have r4' : mX6_beginnings_L58 value (zI n) (zI t) FU (zI 0) (zI (-2)) (zI 0) (zI 0) (zI (-1)) (zI (-1)) (zI 0) o fo la un um md1 = some (zI c', zI q', zI (dsT S').length, zI g6', o', fo', la', un', um', md') := r4
    rw [r4', sob, r3.kinds]
    simp only []
    simp (disch := omega) only [zI_eq]
    by_cases d0 : q = 0
    · rw [if_pos d0, if_neg (not_not_intro d0)]; exact ⟨_, _, _, _, _, _, _, _, _, rfl, r2, r3.clean, rfl⟩
    · rw [if_neg d0, if_pos d0]
      by_cases d1 : q = 1
      · rw [if_pos d1, if_neg (not_not_intro d1)]
        by_cases cc : c' = 0
        · rw [if_neg (not_not_intro cc), r6 cc]; exact ⟨_, _, _, _, _, _, _, _, _, rfl, r2, r3.clean, rfl⟩
        · rw [if_pos cc, r7 (by omega)]; exact ⟨_, _, _, _, _, _, _, _, _, rfl, r2, r3.clean, rfl⟩
      · rw [if_neg d1, if_pos d1]
        by_cases d2 : q = 2
        · rw [if_pos d2, if_neg (not_not_intro d2)]; exact ⟨_, _, _, _, _, _, _, _, _, rfl, r2, r3.clean, rfl⟩
        · rw [if_neg d2, if_pos d2]
          by_cases nn : n = 0
          · rw [if_neg (not_not_intro nn), r8 nn]; exact ⟨_, _, _, _, _, _, _, _, _, rfl, r2, r3.clean, rfl⟩
          · rw [if_pos nn, r9 (by omega)]; exact ⟨_, _, _, _, _, _, _, _, _, rfl, r2, r3.clean, rfl⟩
  · rw [if_neg d]
    by_cases w0 : q < 0
    · rw [if_pos w0]; exact ⟨_, _, _, _, _, _, _, _, _, rfl, hT, hA, rfl⟩
    · rw [if_neg w0, if_neg (show ¬ q ≤ 3 by omega)]; exact ⟨_, _, _, _, _, _, _, _, _, rfl, hT, hA, rfl⟩
/-! ranks told: lead, rarest, peeled -/
theorem srT_ex {row : RowT} {n : Int} {V G : Int → Int} (hR : Rw row n V G) {t l r : Int} {T : TalT} (h : TalH t (spT V l r) T) : ∃ S, srT t (spT V l r) S := by
  obtain ⟨T', S, _, h2⟩ := X3_order_z h
  exact ⟨S, h2.2.1⟩
theorem srT_0 {t : Int} {R S : List Int} (ok : okT R) (h : srT t R S) (h0 : 0 < S.length) : S[0] = bsT t R := by
  refine isB_uq (t := t) ok (Or.inr ⟨(srT_mem h).mp (List.getElem_mem h0), fun w hw => ?_⟩) (bsT_isB ok)
  obtain ⟨j, hj, e⟩ := List.mem_iff_getElem.mp ((srT_mem h).mpr hw)
  by_cases z : j = 0
  · subst z; rw [e]; exact Int.le_refl _
  · have := (List.pairwise_iff_getElem.mp h.2) 0 j h0 hj (by omega)
    rw [← e]; omega
/-- the most of all but the best -/
def ldF (R : List Int) (b : Int) : List Int → Int → Int
  | [], a => a
  | v :: K, a => if v = b then ldF R b K a else ldF R b K (if a < cnT R v then cnT R v else a)
theorem X5_lead_L {t : Int} {R : List Int} {T : TalT} (h : TalH t R T) : ∀ (m i f : Nat) (a : Int), (dsT R).length = i + m → m < f → 0 ≤ a → a ≤ 120 → mX5_lead_L25 T f (zI a) (zI (i : Int)) = some (zI (ldF R (bsT t R) ((dsT R).drop i) a))
  | m, i, 0, a, _, h, _, _ => absurd h (Nat.not_lt_zero m)
  | 0, i, f + 1, a, hl, _, _, _ => by
    have h120 := dsT_120 h.ok
    rw [mX5_lead_L25, h.kinds, if_pos (by rw [zI_le (by omega) (by omega) (by omega) (by omega)]; omega), List.drop_eq_nil_of_le (by omega)]
    rfl
  | m + 1, i, f + 1, a, hl, hm, ha, ha2 => by
    have h120 := dsT_120 h.ok
    have ok := h.ok.1
    have hi : i < (dsT R).length := by omega
    have hx : (dsT R)[i] ∈ R := (mem_dsT R _).mp (List.getElem_mem hi)
    have hb := h.ok.2 _ hx
    have cb := cnT_nn R (dsT R)[i]
    have bb := bsT_in (t := t) h.ok
    rw [mX5_lead_L25, if_neg (show ¬ T.2.2.2.2.1 ≤ zI (i : Int) by rw [h.kinds, zI_le (by omega) (by omega) (by omega) (by omega)]; omega), rd_L h.kind hi h120 (by omega), sob, rd_A h.num hb.1 hb.2 (by omega) (by omega), sob, zI_a1, zI_s, h.best, List.drop_eq_getElem_cons hi]
    simp (disch := omega) only [ldF, zI_eq, zI_lt]
    by_cases d : (dsT R)[i] = bsT t R
    · rw [if_pos d, if_pos d, X5_lead_L h m (i + 1) f _ (by omega) (by omega) ha ha2]
    · rw [if_neg d, if_neg d]
      by_cases e : a < cnT R (dsT R)[i]
      · rw [if_pos e, if_pos e, X5_lead_L h m (i + 1) f _ (by omega) (by omega) (by omega) (by omega)]
      · rw [if_neg e, if_neg e, X5_lead_L h m (i + 1) f _ (by omega) (by omega) ha ha2]
theorem ldF_max (R : List Int) (b : Int) : ∀ (K : List Int) (a : Int), (ldF R b K a = a ∨ ∃ v ∈ K, v ≠ b ∧ ldF R b K a = cnT R v) ∧ a ≤ ldF R b K a ∧ ∀ v ∈ K, v ≠ b → cnT R v ≤ ldF R b K a
  | [], a => ⟨Or.inl rfl, Int.le_refl _, fun v h => by cases h⟩
  | v :: K, a => by
    simp only [ldF]
    by_cases e : v = b
    · rw [if_pos e]
      obtain ⟨h1, h2, h3⟩ := ldF_max R b K a
      refine ⟨?_, h2, fun u hu hb => ?_⟩
      · rcases h1 with h1 | ⟨u, h1, h4, h5⟩
        · exact Or.inl h1
        · exact Or.inr ⟨u, List.mem_cons_of_mem _ h1, h4, h5⟩
      · rcases List.mem_cons.mp hu with q | q
        · rw [q, e] at hb; exact absurd rfl hb
        · exact h3 u q hb
    · rw [if_neg e]
      by_cases d : a < cnT R v
      · rw [if_pos d]
        obtain ⟨h1, h2, h3⟩ := ldF_max R b K (cnT R v)
        refine ⟨Or.inr ?_, by omega, fun u hu hb => ?_⟩
        · rcases h1 with h1 | ⟨u, h1, h4, h5⟩
          · exact ⟨v, List.mem_cons_self, e, h1⟩
          · exact ⟨u, List.mem_cons_of_mem _ h1, h4, h5⟩
        · rcases List.mem_cons.mp hu with q | q
          · rw [q]; exact h2
          · exact h3 u q hb
      · rw [if_neg d]
        obtain ⟨h1, h2, h3⟩ := ldF_max R b K a
        refine ⟨?_, h2, fun u hu hb => ?_⟩
        · rcases h1 with h1 | ⟨u, h1, h4, h5⟩
          · exact Or.inl h1
          · exact Or.inr ⟨u, List.mem_cons_of_mem _ h1, h4, h5⟩
        · rcases List.mem_cons.mp hu with q | q
          · rw [q]; omega
          · exact h3 u q hb
theorem kyT_cn {t : Int} {R : List Int} (ok : okT R) {v w : Int} (hv : v ∈ R) (hw : w ∈ R) (h : kyT t R v < kyT t R w) : cnT R v ≤ cnT R w := by
  have a := tiT_in ok t hv
  have b := tiT_in ok t hw
  unfold kyT at h
  omega
/-- the second's number, out of the sorted ones -/
theorem ldF_sr {t : Int} {R S : List Int} (ok : okT R) (h : srT t R S) (hR : R ≠ []) : ldF R (bsT t R) (dsT R) 0 = if h1 : 1 < S.length then cnT R S[1] else 0 := by
  have hl := srT_len h
  have h0 : 0 < S.length := by rw [hl]; exact List.length_pos_iff.mpr (dsT_ne hR)
  have hs0 := srT_0 ok h h0
  obtain ⟨q1, q2, q3⟩ := ldF_max R (bsT t R) (dsT R) 0
  have pw := List.pairwise_iff_getElem.mp h.2
  by_cases h1 : 1 < S.length
  · rw [dif_pos h1]
    have m1 : S[1] ∈ R := (srT_mem h).mp (List.getElem_mem h1)
    have ne1 : S[1] ≠ bsT t R := by
      intro e
      have := pw 0 1 h0 h1 (by omega)
      rw [hs0, e] at this; omega
    have g1 := q3 S[1] (h.1.mem_iff.mp (List.getElem_mem h1)) ne1
    rcases q1 with q1 | ⟨v, hv, hvb, e⟩
    · have := cnT_nn R S[1]; omega
    · obtain ⟨j, hj, ej⟩ := List.mem_iff_getElem.mp (h.1.mem_iff.mpr hv)
      have j0 : j ≠ 0 := by intro z; subst z; rw [hs0] at ej; exact hvb ej.symm
      by_cases j1 : j = 1
      · subst j1; rw [e, ← ej]
      · have := pw 1 j h1 hj (by omega)
        rw [ej] at this
        have := kyT_cn ok ((mem_dsT R v).mp hv) m1 this
        omega
  · rw [dif_neg h1]
    rcases q1 with q1 | ⟨v, hv, hvb, e⟩
    · exact q1
    · obtain ⟨j, hj, ej⟩ := List.mem_iff_getElem.mp (h.1.mem_iff.mpr hv)
      have j0 : j = 0 := by omega
      subst j0
      rw [hs0] at ej
      exact absurd ej.symm hvb
theorem P_lead {row : RowT} {value weight : Nat → Int32} {n t : Int} {V G : Int → Int} {T : TalT} (hR : Rw row n V G) (hv : Rv value weight n V G) (ht : 0 ≤ t ∧ t ≤ 3) (hT : TalC T) (th : Int32) (o fo la un : Nat → Int32) (um x1 x2 : Int32) :
    ∃ (a : Int32) (T' : TalT) (z : CuT), mX5_lead (zI t) row T x1 x2 = some (a, T') ∧ TalC T' ∧ mX6_lead th value (zI n) (zI t) o fo la un um x1 x2 = some (a, 0, z) := by
  obtain ⟨l, hl, rfl⟩ := zI_ex x1
  obtain ⟨r, hr, rfl⟩ := zI_ex x2
  obtain ⟨hs, hn⟩ := hR.ok
  unfold mX5_lead mX6_lead
  rw [X2_hasSpan_z hs hn hl hr, X6_isSpan_z hn hl hr, sob, sob]
  by_cases c : 0 ≤ l ∧ l ≤ r ∧ r < n
  · rw [bz_t c, if_pos i1, if_pos i1]
    obtain ⟨T', e1, h1⟩ := X5_tallySpan_z hR ht c.1 (by omega) c.2.2 hT
    obtain ⟨z, e2, h2⟩ := X6_counts_z hv c.1 (by omega) c.2.2 o fo la un um
    obtain ⟨S, hS⟩ := srT_ex hR h1
    have hne := spT_ne (V := V) c.2.1
    have hsl := srT_len hS
    have h120 := dsT_120 h1.ok
    have h0 : 0 < S.length := by rw [hsl]; exact List.length_pos_iff.mpr (dsT_ne hne)
    have hs0 := srT_0 h1.ok hS h0
    have hbn := bsT_nn (t := t) h1.ok hne
    have e3 := X5_lead_L h1 (dsT (spT V l r)).length 0 FU 0 (by omega) (by rw [FU_e]; omega) (by omega) (by omega)
    rw [List.drop_zero, ldF_sr h1.ok hS hne] at e3
    have e3' : mX5_lead_L25 T' FU 0 0 = some (zI (if h1 : 1 < S.length then cnT (spT V l r) S[1] else 0)) := e3
    rw [e1, sob, e3', sob, X3_most_z h1, if_neg hne, sob, e2, sob, show (1 : Int32) = zI 1 from rfl, zI_neg, X6_ofRank_z h2 ht (by omega), sob, show (0 : Int32) = zI 0 from rfl, X6_ofRank_z h2 ht (by omega), sob]
    have o0 := orT_sr hS h0
    rw [show (((0 : Nat)) : Int) = 0 from rfl, hs0] at o0
    rw [o0, rd_A h2.num hbn.1 hbn.2 (by omega) (by omega), sob]
    by_cases g : 1 < S.length
    · have o1 := orT_sr hS g
      rw [show (((1 : Nat)) : Int) = 1 from rfl] at o1
      have m1 := h1.ok.2 _ ((srT_mem hS).mp (List.getElem_mem g))
      rw [o1, dif_pos g, if_pos (show ¬ zI S[1] = zI (-1) by rw [zI_eq (by omega) (by omega) (by omega) (by omega)]; omega), rd_A h2.num m1.1 m1.2 (by omega) (by omega), sob]
      exact ⟨_, _, _, rfl, h1.clean, rfl⟩
    · rw [orT_out hS (by omega), dif_neg g, if_neg (show ¬ ¬ zI (-1) = zI (-1) from not_not_intro rfl)]
      exact ⟨_, _, _, rfl, h1.clean, rfl⟩
  · rw [bz_f c, if_neg i0n, if_neg i0n]
    exact ⟨_, _, (o, fo, la, un, um), rfl, hT, rfl⟩
theorem X5_rare_L {t : Int} {R : List Int} {T : TalT} (h : TalH t R T) : ∀ (m i f : Nat) (b : Int), (dsT R).length = i + m → m < f → b ∈ R → (∀ (j : Nat) (hj : j < (dsT R).length), j < i → kyT t R b ≤ kyT t R (dsT R)[j]) →
    ∃ b', mX5_rarest_L40 T f (zI b) (zI (i : Int)) = some (zI b') ∧ b' ∈ R ∧ ∀ v ∈ R, kyT t R b' ≤ kyT t R v
  | m, i, 0, b, _, h, _, _ => absurd h (Nat.not_lt_zero m)
  | 0, i, f + 1, b, hl, _, hb, hm => by
    have h120 := dsT_120 h.ok
    rw [mX5_rarest_L40, h.kinds, if_pos (by rw [zI_le (by omega) (by omega) (by omega) (by omega)]; omega)]
    refine ⟨b, rfl, hb, fun v hv => ?_⟩
    obtain ⟨j, hj, e⟩ := List.mem_iff_getElem.mp ((mem_dsT R v).mpr hv)
    rw [← e]; exact hm j hj (by omega)
  | m + 1, i, f + 1, b, hl, hf, hb, hm => by
    have h120 := dsT_120 h.ok
    have hi : i < (dsT R).length := by omega
    have hx : (dsT R)[i] ∈ R := (mem_dsT R _).mp (List.getElem_mem hi)
    rw [mX5_rarest_L40, if_neg (show ¬ T.2.2.2.2.1 ≤ zI (i : Int) by rw [h.kinds, zI_le (by omega) (by omega) (by omega) (by omega)]; omega), rd_L h.kind hi h120 (by omega), sob, X3_isAhead_z h hb hx, sob, sob, zI_a1, zI_s]
    by_cases d : kyT t R (dsT R)[i] < kyT t R b
    · rw [if_pos d, if_neg i1]
      exact X5_rare_L h m (i + 1) f _ (by omega) (by omega) hx (fun j hj hji => by
        by_cases e : j = i
        · subst e; exact Int.le_refl _
        · have := hm j hj (by omega); omega)
    · rw [if_neg d, if_pos rfl]
      exact X5_rare_L h m (i + 1) f b (by omega) (by omega) hb (fun j hj hji => by
        by_cases e : j = i
        · subst e; omega
        · exact hm j hj (by omega))
theorem srT_last {t : Int} {R S : List Int} (ok : okT R) (h : srT t R S) (h0 : 0 < S.length) {b : Int} (hb : b ∈ R) (hm : ∀ v ∈ R, kyT t R b ≤ kyT t R v) : S[S.length - 1] = b := by
  obtain ⟨j, hj, e⟩ := List.mem_iff_getElem.mp ((srT_mem h).mpr hb)
  by_cases z : j = S.length - 1
  · subst z; exact e
  · have := (List.pairwise_iff_getElem.mp h.2) j (S.length - 1) hj (by omega) (by omega)
    have h2 := hm S[S.length - 1] ((srT_mem h).mp (List.getElem_mem (by omega)))
    rw [e] at this; omega
theorem P_rarest {row : RowT} {value weight : Nat → Int32} {n t : Int} {V G : Int → Int} {T : TalT} (hR : Rw row n V G) (hv : Rv value weight n V G) (ht : 0 ≤ t ∧ t ≤ 3) (hT : TalC T) (th : Int32) (o fo la un : Nat → Int32) (um x1 x2 x3 : Int32) :
    ∃ (a : Int32) (T' : TalT) (z : CuT), mX5_rarest (zI t) row T x1 x2 x3 = some (a, T') ∧ TalC T' ∧ mX6_rarest th value (zI n) (zI t) o fo la un um x1 x2 x3 = some (a, 0, z) := by
  obtain ⟨l, hl, rfl⟩ := zI_ex x1
  obtain ⟨r, hr, rfl⟩ := zI_ex x2
  obtain ⟨w, hw, rfl⟩ := zI_ex x3
  obtain ⟨hs, hn⟩ := hR.ok
  simp (disch := omega) only [mX5_rarest, mX6_rarest, X2_hasSpan_z hs hn hl hr, X6_isSpan_z hn hl hr, X5_isBelow_z hw, z_0, z_1, z_2, z_3, z_4, z_5, z_6, z_7, z_8, z_9, z_12, z_20, z_120, z_121, z_880, z_900, z_999, z_1000, zI_neg, zI_add, zI_sub, zI_mul, zI_lt, zI_le, zI_eq, sob, bz_0, Classical.not_not]
  by_cases c : 0 ≤ l ∧ l ≤ r ∧ r < n
  · simp only [c, not_true_eq_false, not_false_eq_true, and_self, and_true, true_and, reduceIte]
    by_cases d : 0 ≤ w ∧ w < 4
    · rw [if_pos d, if_neg (show ¬ w < 0 by omega), if_pos (show w ≤ 3 by omega)]
      obtain ⟨T', e1, h1⟩ := X5_tallySpan_z hR ht c.1 (by omega) c.2.2 hT
      obtain ⟨z, e2, h2⟩ := X6_counts_z hv c.1 (by omega) c.2.2 o fo la un um
      obtain ⟨S, hS⟩ := srT_ex hR h1
      have hne := spT_ne (V := V) c.2.1
      have hsl := srT_len hS
      have h120 := dsT_120 h1.ok
      have h0 : 0 < S.length := by rw [hsl]; exact List.length_pos_iff.mpr (dsT_ne hne)
      have hbm := bsT_mem (t := t) h1.ok hne
      obtain ⟨b, e3, hb, hmn⟩ := X5_rare_L h1 (dsT (spT V l r)).length 0 FU (bsT t (spT V l r)) (by omega) (by rw [FU_e]; omega) hbm (fun j hj hji => by omega)
      have hlast := srT_last h1.ok hS h0 hb hmn
      have ol := orT_sr hS (show S.length - 1 < S.length by omega)
      rw [hlast, show ((S.length - 1 : Nat) : Int) = ((dsT (spT V l r)).length : Int) - 1 by omega] at ol
      have e3' : mX5_rarest_L40 T' FU (zI (bsT t (spT V l r))) (zI 0) = some (zI b) := e3
      rw [e1, sob, h1.best, e3', sob, X3_told_z (t := t) h1.1 hb d, sob, show zI (-1) = (-1 : Int32) from rfl, e2, sob, h2.2.2, zI_sub]
      have e4 := X6_ofRank_z h2 ht (c := ((dsT (spT V l r)).length : Int) - 1) (by omega)
      rw [h2.2.2, ol] at e4
      rw [e4, sob, X6_told_z h2 hb d, sob]
      exact ⟨_, _, (z.1, z.2.1, z.2.2.1, z.2.2.2.1, _), rfl, h1.clean, rfl⟩
    · rw [if_neg d]
      by_cases w0 : w < 0
      · rw [if_pos w0]; exact ⟨_, _, (o, fo, la, un, um), rfl, hT, rfl⟩
      · rw [if_neg w0, if_neg (show ¬ w ≤ 3 by omega)]; exact ⟨_, _, (o, fo, la, un, um), rfl, hT, rfl⟩
  · simp only [c, not_true_eq_false, not_false_eq_true, and_self, and_true, true_and, reduceIte]
    exact ⟨_, _, (o, fo, la, un, um), rfl, hT, rfl⟩
/-- the sum of the first c of the sorted ones' numbers -/
def peT (R : List Int) : List Int → Nat → Int
  | _, 0 => 0
  | [], _ => 0
  | v :: S, c + 1 => cnT R v + peT R S c
theorem X5_peel_L {t : Int} {R S : List Int} {T : TalT} (h : TalO t R S T) {k : Nat} (hk : k ≤ S.length) : ∀ (m i f : Nat) (a : Int), k = i + m → m < f → mX5_peeled_L55 T (zI (k : Int)) f (zI a) (zI (i : Int)) = some (zI (a - peT R (S.drop i) m))
  | m, i, 0, a, _, h => absurd h (Nat.not_lt_zero m)
  | 0, i, f + 1, a, hl, _ => by
    have := srT_len h.2.1
    have := dsT_120 h.1.1
    rw [mX5_peeled_L55, if_pos (by rw [zI_le (by omega) (by omega) (by omega) (by omega)]; omega)]
    simp only [peT, Int.sub_zero]
  | m + 1, i, f + 1, a, hl, hm => by
    have := srT_len h.2.1
    have := dsT_120 h.1.1
    have hi : i < S.length := by omega
    have hb := h.1.1.2 _ ((srT_mem h.2.1).mp (List.getElem_mem hi))
    rw [mX5_peeled_L55, if_neg (show ¬ zI (k : Int) ≤ zI (i : Int) by rw [zI_le (by omega) (by omega) (by omega) (by omega)]; omega), rd_L h.2.2.1 hi (by omega) (by omega), sob, rd_A h.1.2.2.1 hb.1 hb.2 (by omega) (by omega), sob, zI_sub, zI_a1, zI_s, X5_peel_L h hk m (i + 1) f _ (by omega) (by omega), List.drop_eq_getElem_cons hi]
    simp only [peT]
    congr 2; omega
theorem X6_peel_L {pos : Int → Int} {t : Int} {R S : List Int} {z : CuT} (h : CuH pos R z) (ht : 0 ≤ t ∧ t ≤ 3) (hS : srT t R S) {k : Nat} (hk : k ≤ S.length) : ∀ (m i f : Nat) (a : Int), k = i + m → m < f → mX6_peeled_L48 (zI t) z.1 z.2.1 z.2.2.1 z.2.2.2.1 z.2.2.2.2 (zI (k : Int)) f (zI a) (zI (i : Int)) = some (zI (a - peT R (S.drop i) m))
  | m, i, 0, a, _, h => absurd h (Nat.not_lt_zero m)
  | 0, i, f + 1, a, hl, _ => by
    have := srT_len hS
    have := dsT_120 h.ok
    rw [mX6_peeled_L48, if_pos (by rw [zI_le (by omega) (by omega) (by omega) (by omega)]; omega)]
    simp only [peT, Int.sub_zero]
  | m + 1, i, f + 1, a, hl, hm => by
    have := srT_len hS
    have := dsT_120 h.ok
    have hi : i < S.length := by omega
    have hb := h.ok.2 _ ((srT_mem hS).mp (List.getElem_mem hi))
    rw [mX6_peeled_L48, if_neg (show ¬ zI (k : Int) ≤ zI (i : Int) by rw [zI_le (by omega) (by omega) (by omega) (by omega)]; omega), X6_ofRank_z h ht (by omega), sob, orT_sr hS hi, rd_A h.num hb.1 hb.2 (by omega) (by omega), sob, zI_sub, zI_a1, zI_s, X6_peel_L h ht hS hk m (i + 1) f _ (by omega) (by omega), List.drop_eq_getElem_cons hi]
    simp only [peT]
    congr 2; omega
theorem P_peeled {row : RowT} {value weight : Nat → Int32} {n t : Int} {V G : Int → Int} {T : TalT} (hR : Rw row n V G) (hv : Rv value weight n V G) (ht : 0 ≤ t ∧ t ≤ 3) (hT : TalC T) (th : Int32) (o fo la un : Nat → Int32) (um x1 x2 x3 : Int32) :
    ∃ (a : Int32) (T' : TalT) (z : CuT), mX5_peeled (zI t) row T x1 x2 x3 = some (a, T') ∧ TalC T' ∧ mX6_peeled th value (zI n) (zI t) o fo la un um x1 x2 x3 = some (a, 0, z) := by
  obtain ⟨l, hl, rfl⟩ := zI_ex x1
  obtain ⟨r, hr, rfl⟩ := zI_ex x2
  obtain ⟨k, hk, rfl⟩ := zI_ex x3
  obtain ⟨hs, hn⟩ := hR.ok
  simp (disch := omega) only [mX5_peeled, mX6_peeled, X2_hasSpan_z hs hn hl hr, X6_isSpan_z hn hl hr, z_0, z_1, z_2, z_3, z_4, z_5, z_6, z_7, z_8, z_9, z_12, z_20, z_120, z_121, z_880, z_900, z_999, z_1000, zI_neg, zI_add, zI_sub, zI_mul, zI_lt, zI_le, zI_eq, sob, bz_0, Classical.not_not]
  by_cases c : 0 ≤ l ∧ l ≤ r ∧ r < n
  · simp only [c, not_true_eq_false, not_false_eq_true, and_self, and_true, true_and, reduceIte]
    by_cases d : 0 ≤ k
    · rw [if_pos d, if_pos d]
      obtain ⟨i, rfl⟩ : ∃ i : Nat, k = i := ⟨k.toNat, by omega⟩
      obtain ⟨T', e1, h1⟩ := X5_tallySpan_z hR ht c.1 (by omega) c.2.2 hT
      obtain ⟨z, e2, h2⟩ := X6_counts_z hv c.1 (by omega) c.2.2 o fo la un um
      obtain ⟨T2, S, e3, h3⟩ := X3_order_z h1
      have hsl := srT_len h3.2.1
      have h120 := dsT_120 h1.ok
      rw [e1, sob, h1.kinds, show zI (-1) = (-1 : Int32) from rfl, e2, sob, h2.2.2]
      simp (disch := omega) only [zI_le]
      by_cases g : (i : Int) ≤ ((dsT (spT V l r)).length : Int)
      · have e4 := X5_peel_L h3 (k := i) (by omega) i 0 FU (r - l + 1) (by omega) (by rw [FU_e]; omega)
        have e5 := X6_peel_L h2 ht h3.2.1 (k := i) (by omega) i 0 FU (r - l + 1) (by omega) (by rw [FU_e]; omega)
        rw [h2.2.2] at e5
        rw [show zI ((0 : Nat) : Int) = zI 0 from rfl] at e4 e5
        rw [if_pos g, if_pos g, e3, sob, e4, sob, e5, sob]
        exact ⟨_, _, (z.1, z.2.1, z.2.2.1, z.2.2.2.1, _), rfl, h3.clean, rfl⟩
      · rw [if_neg g, if_neg g]
        exact ⟨_, _, (z.1, z.2.1, z.2.2.1, z.2.2.2.1, _), rfl, h1.clean, rfl⟩
    · rw [if_neg d, if_neg d]
      exact ⟨_, _, (o, fo, la, un, um), rfl, hT, rfl⟩
  · simp only [c, not_true_eq_false, not_false_eq_true, and_self, and_true, true_and, reduceIte]
    exact ⟨_, _, (o, fo, la, un, um), rfl, hT, rfl⟩

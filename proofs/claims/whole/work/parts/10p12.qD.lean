/-! PURE ROWS. together, common, pair, spans, longest -/
/-- k places from p on, those of l .. r left out -/
def tgA (V : Int → Int) (l r : Int) : Int → Nat → List Int → List Int
  | _, 0, R => R
  | p, k + 1, R => if p < l ∨ r < p then tgA V l r (p + 1) k (V p :: R) else tgA V l r (p + 1) k R
def tgB (l r p : Int) (R : List Int) : Prop := (p ≤ l → (R.length : Int) ≤ r - l + 1 + p) ∧ (l ≤ p → p ≤ r + 1 → (R.length : Int) ≤ r + 1) ∧ (r + 1 ≤ p → (R.length : Int) ≤ p)
theorem X5_tog_L {row : RowT} {n : Int} {V G : Int → Int} (hR : Rw row n V G) {t l r e : Int} (hl : 0 ≤ l) (hlr : l ≤ r) (hr : r < n) (he : e < n) : ∀ (k f : Nat) (p : Int) (R : List Int) (T : TalT), k < f → 0 ≤ p → e + 1 = p + k → tgB l r p R → TalH t R T →
    ∃ T', mX5_together_L45 row (zI l) (zI r) (zI e) f (zI p) T = some T' ∧ TalH t (tgA V l r p k R) T'
  | k, 0, p, R, T, h, _, _, _, _ => absurd h (Nat.not_lt_zero k)
  | 0, f + 1, p, R, T, _, hp, hk, _, hT => by
    have hn := hR.1
    simp (disch := omega) only [mX5_together_L45, z_0, z_1, z_2, z_3, z_4, z_5, z_6, z_7, z_8, z_9, z_12, z_20, z_120, z_121, z_880, z_900, z_999, z_1000, zI_neg, zI_add, zI_sub, zI_mul, zI_lt, zI_le, zI_eq, sob, bz_0, Classical.not_not]
    rw [if_pos (show e < p by omega)]
    exact ⟨T, rfl, hT⟩
  | k + 1, f + 1, p, R, T, h, hp, hk, hg, hT => by
    obtain ⟨hn2, hs2, hV, hG, hB⟩ := id hR
    have hb := (hB p (by omega) (by omega)).1
    obtain ⟨g1, g2, g3⟩ := id hg
    simp (disch := omega) only [mX5_together_L45, rd_A hV, z_0, z_1, z_2, z_3, z_4, z_5, z_6, z_7, z_8, z_9, z_12, z_20, z_120, z_121, z_880, z_900, z_999, z_1000, zI_neg, zI_add, zI_sub, zI_mul, zI_lt, zI_le, zI_eq, sob, bz_0, Classical.not_not]
    rw [if_neg (show ¬ e < p by omega)]
    simp only [tgA]
    have push : (p < l ∨ r < p) → ∃ T', ((mX3_push T (zI (V p))).bind fun q => mX5_together_L45 row (zI l) (zI r) (zI e) f (zI (p + 1)) q) = some T' ∧ TalH t (tgA V l r (p + 1) k (V p :: R)) T' := by
      intro q
      obtain ⟨T1, e1, hT1⟩ := X3_push_z hT (x := V p) (okT_cons hb hT.ok (by omega))
      rw [e1, sob]
      exact X5_tog_L hR hl hlr hr he k f (p + 1) _ T1 (by omega) (by omega) (by omega) ⟨by rw [List.length_cons]; omega, by rw [List.length_cons]; omega, by rw [List.length_cons]; omega⟩ hT1
    by_cases a : p < l
    · rw [if_pos a, if_pos (Or.inl a)]; exact push (Or.inl a)
    · rw [if_neg a]
      by_cases b : p ≤ r
      · rw [if_pos b, if_neg (show ¬ (p < l ∨ r < p) by omega)]
        exact X5_tog_L hR hl hlr hr he k f (p + 1) _ T (by omega) (by omega) (by omega) ⟨by omega, by omega, by omega⟩ hT
      · rw [if_neg b, if_pos (Or.inr (by omega))]; exact push (Or.inr (by omega))
theorem X6_tog_1 {value weight : Nat → Int32} {n : Int} {V G : Int → Int} (hv : Rv value weight n V G) {r : Int} (hr : r < n) : ∀ (k f : Nat) (p : Int) (R : List Int) (o fo la un : Nat → Int32) (um : Int32), k < f → 0 ≤ p → r + 1 = p + k → R.length + k ≤ 120 → CuH (fun i => 0 + i) R (o, fo, la, un, um) →
    ∃ z : CuT, mX6_together_L50 value (zI r) f (zI R.length) (zI p) o fo la un um = some (zI ((spA V p k R).length), z) ∧ CuH (fun i => 0 + i) (spA V p k R) z
  | k, 0, p, R, o, fo, la, un, um, h, _, _, _, _ => absurd h (Nat.not_lt_zero k)
  | 0, f + 1, p, R, o, fo, la, un, um, _, hp, hk, _, hC => by
    have hn := hv.1
    simp (disch := omega) only [mX6_together_L50, z_0, z_1, z_2, z_3, z_4, z_5, z_6, z_7, z_8, z_9, z_12, z_20, z_120, z_121, z_880, z_900, z_999, z_1000, zI_neg, zI_add, zI_sub, zI_mul, zI_lt, zI_le, zI_eq, sob, bz_0, Classical.not_not]
    rw [if_pos (show r < p by omega)]
    exact ⟨_, rfl, hC⟩
  | k + 1, f + 1, p, R, o, fo, la, un, um, h, hp, hk, hl, hC => by
    obtain ⟨hn2, hV, hG, hB⟩ := id hv
    have hbv := (hB p (by omega) (by omega)).1
    obtain ⟨z, e1, h1⟩ := X6_push_z hC (x := V p) (q := R.length) (okT_cons hbv hC.ok (by omega)) (by simp)
    simp (disch := omega) only [mX6_together_L50, rd_A hV, zI_lt, sob]
    rw [if_neg (show ¬ r < p by omega), e1, sob, zI_a1, zI_a1, zI_s, show R.length + 1 = (V p :: R).length from rfl]
    exact X6_tog_1 hv hr k f (p + 1) (V p :: R) z.1 z.2.1 z.2.2.1 z.2.2.2.1 z.2.2.2.2 (by omega) (by omega) (by omega) (by rw [List.length_cons]; omega) h1
theorem X6_tog_2 {value weight : Nat → Int32} {n : Int} {V G : Int → Int} (hv : Rv value weight n V G) {l r e : Int} (hl : 0 ≤ l) (hlr : l ≤ r) (hr : r < n) (he : e < n) : ∀ (k f : Nat) (p : Int) (R : List Int) (o fo la un : Nat → Int32) (um : Int32), k < f → 0 ≤ p → e + 1 = p + k → tgB l r p R → CuH (fun i => 0 + i) R (o, fo, la, un, um) →
    ∃ z : CuT, mX6_together_L81 value (zI l) (zI r) (zI e) f (zI R.length) (zI p) o fo la un um = some z ∧ CuH (fun i => 0 + i) (tgA V l r p k R) z
  | k, 0, p, R, o, fo, la, un, um, h, _, _, _, _ => absurd h (Nat.not_lt_zero k)
  | 0, f + 1, p, R, o, fo, la, un, um, _, hp, hk, _, hC => by
    have hn := hv.1
    simp (disch := omega) only [mX6_together_L81, z_0, z_1, z_2, z_3, z_4, z_5, z_6, z_7, z_8, z_9, z_12, z_20, z_120, z_121, z_880, z_900, z_999, z_1000, zI_neg, zI_add, zI_sub, zI_mul, zI_lt, zI_le, zI_eq, sob, bz_0, Classical.not_not]
    rw [if_pos (show e < p by omega)]
    exact ⟨_, rfl, hC⟩
  | k + 1, f + 1, p, R, o, fo, la, un, um, h, hp, hk, hg, hC => by
    obtain ⟨hn2, hV, hG, hB⟩ := id hv
    have hbv := (hB p (by omega) (by omega)).1
    obtain ⟨g1, g2, g3⟩ := id hg
    simp (disch := omega) only [mX6_together_L81, rd_A hV, zI_lt, sob]
    rw [if_neg (show ¬ e < p by omega)]
    simp only [tgA]
    have push : (p < l ∨ r < p) → ∃ z' : CuT, ((mX6_stands o fo la un um (zI (V p)) (zI R.length)).bind fun q => mX6_together_L81 value (zI l) (zI r) (zI e) f (zI R.length + 1) (zI p + 1) q.1 q.2.1 q.2.2.1 q.2.2.2.1 q.2.2.2.2) = some z' ∧ CuH (fun i => 0 + i) (tgA V l r (p + 1) k (V p :: R)) z' := by
      intro q
      obtain ⟨z, e1, h1⟩ := X6_push_z hC (x := V p) (q := R.length) (okT_cons hbv hC.ok (by omega)) (by simp)
      rw [e1, sob, zI_a1, zI_a1, zI_s, show R.length + 1 = (V p :: R).length from rfl]
      exact X6_tog_2 hv hl hlr hr he k f (p + 1) (V p :: R) z.1 z.2.1 z.2.2.1 z.2.2.2.1 z.2.2.2.2 (by omega) (by omega) (by omega) ⟨by rw [List.length_cons]; omega, by rw [List.length_cons]; omega, by rw [List.length_cons]; omega⟩ h1
    by_cases a : p < l
    · rw [if_pos a, if_pos (Or.inl a)]; exact push (Or.inl a)
    · rw [if_neg a]
      by_cases b : r < p
      · rw [if_pos b, if_pos (Or.inr b)]; exact push (Or.inr b)
      · rw [if_neg b, if_neg (show ¬ (p < l ∨ r < p) by omega), zI_a1]
        exact X6_tog_2 hv hl hlr hr he k f (p + 1) R o fo la un um (by omega) (by omega) (by omega) ⟨by omega, by omega, by omega⟩ hC
theorem tgA_ne (V : Int → Int) (l r : Int) : ∀ (k : Nat) (p : Int) (R : List Int), R ≠ [] → tgA V l r p k R ≠ []
  | 0, p, R, h => h
  | k + 1, p, R, h => by
    simp only [tgA]
    by_cases c : p < l ∨ r < p
    · rw [if_pos c]; exact tgA_ne V l r k _ _ (fun q => by cases q)
    · rw [if_neg c]; exact tgA_ne V l r k _ _ h
theorem P_together {row : RowT} {value weight : Nat → Int32} {n t : Int} {V G : Int → Int} {T : TalT} (hR : Rw row n V G) (hv : Rv value weight n V G) (ht : 0 ≤ t ∧ t ≤ 3) (hT : TalC T) (th : Int32) (o fo la un : Nat → Int32) (um x1 x2 x3 x4 x5 : Int32) :
    ∃ (a : Int32) (T' : TalT) (z : CuT), mX5_together (zI t) row T x1 x2 x3 x4 x5 = some (a, T') ∧ TalC T' ∧ mX6_together th value (zI n) (zI t) o fo la un um x1 x2 x3 x4 x5 = some (a, 0, z) := by
  obtain ⟨l, hl, rfl⟩ := zI_ex x1
  obtain ⟨r, hr, rfl⟩ := zI_ex x2
  obtain ⟨m, hm, rfl⟩ := zI_ex x3
  obtain ⟨e, he, rfl⟩ := zI_ex x4
  obtain ⟨w, hw, rfl⟩ := zI_ex x5
  obtain ⟨hs, hn⟩ := hR.ok
  unfold mX5_together mX6_together
  rw [X2_hasSpan_z hs hn hl hr, X6_isSpan_z hn hl hr, sob, sob]
  by_cases c : 0 ≤ l ∧ l ≤ r ∧ r < n
  · rw [bz_t c, if_neg i1, if_neg i1, X2_hasSpan_z hs hn hm he, X6_isSpan_z hn hm he, sob, sob]
    by_cases d : 0 ≤ m ∧ m ≤ e ∧ e < n
    · rw [bz_t d, if_neg i1, if_neg i1, z_2, X5_isBelow_z hw (by omega), sob]
      by_cases g : 0 ≤ w ∧ w < 2
      · rw [bz_t g, if_pos i1, if_neg (show ¬ zI w < 0 by rw [z_0, zI_lt (by omega) (by omega) (by omega) (by omega)]; omega), if_pos (show zI w ≤ 1 by rw [z_1, zI_le (by omega) (by omega) (by omega) (by omega)]; omega)]
        obtain ⟨T1, e1, h1⟩ := X5_tallySpan_z hR ht c.1 (by omega) c.2.2 hT
        have hlen := spT_len (V := V) (l := l) (r := r) (by omega)
        obtain ⟨T2, e2, h2⟩ := X5_tog_L hR c.1 c.2.1 c.2.2 d.2.2 (e + 1 - m).toNat FU m (spT V l r) T1 (by rw [FU_e]; omega) d.1 (by omega) ⟨by omega, by omega, by omega⟩ h1
        obtain ⟨z0, e3, h3⟩ := X6_counts_z hv (l := 0) (r := -1) (by omega) (by omega) (by omega) o fo la un um
        have hn0 : spT V 0 (-1) = [] := spT_nil (by omega)
        rw [hn0] at h3
        obtain ⟨z1, e4, h4⟩ := X6_tog_1 hv c.2.2 (r + 1 - l).toNat FU l [] z0.1 z0.2.1 z0.2.2.1 z0.2.2.2.1 z0.2.2.2.2 (by rw [FU_e]; omega) c.1 (by omega) (by simp only [List.length_nil]; omega) h3
        obtain ⟨z2, e5, h5⟩ := X6_tog_2 hv c.1 c.2.1 c.2.2 d.2.2 (e + 1 - m).toNat FU m (spT V l r) z1.1 z1.2.1 z1.2.2.1 z1.2.2.2.1 z1.2.2.2.2 (by rw [FU_e]; omega) d.1 (by omega) ⟨by omega, by omega, by omega⟩ h4
        have hne := tgA_ne V l r (e + 1 - m).toNat m _ (spT_ne (V := V) c.2.1)
        have hb := bsT_mem (t := t) h2.ok hne
        rw [e1, sob, e2, sob, h2.best, z_0, X3_told_z (t := t) h2.1 hb (by omega), sob, show (-1 : Int32) = zI (-1) from rfl, show mX6_counts value o fo la un um (zI 0) (zI (-1)) (zI (-1)) = some z0 from e3, sob]
        have e4' : mX6_together_L50 value (zI r) FU (zI 0) (zI l) z0.1 z0.2.1 z0.2.2.1 z0.2.2.2.1 z0.2.2.2.2 = some (zI ((spT V l r).length), z1) := e4
        rw [e4', sob]
        simp only []
        rw [e5, sob, X6_modeBy_z h5 ht, sob, X6_told_z h5 hb (by omega), sob]
        exact ⟨_, _, _, rfl, h2.clean, rfl⟩
      · rw [bz_f g, if_neg i0n]
        by_cases w0 : w < 0
        · rw [if_pos (show zI w < 0 by rw [z_0, zI_lt (by omega) (by omega) (by omega) (by omega)]; omega)]; exact ⟨_, _, (o, fo, la, un, um), rfl, hT, rfl⟩
        · rw [if_neg (show ¬ zI w < 0 by rw [z_0, zI_lt (by omega) (by omega) (by omega) (by omega)]; omega), if_neg (show ¬ zI w ≤ 1 by rw [z_1, zI_le (by omega) (by omega) (by omega) (by omega)]; omega)]; exact ⟨_, _, (o, fo, la, un, um), rfl, hT, rfl⟩
    · rw [bz_f d, if_pos rfl, if_pos rfl]; exact ⟨_, _, (o, fo, la, un, um), rfl, hT, rfl⟩
  · rw [bz_f c, if_pos rfl, if_pos rfl]; exact ⟨_, _, (o, fo, la, un, um), rfl, hT, rfl⟩
/-! common -/
theorem cnT_sp (V : Int → Int) (v : Int) : ∀ (k : Nat) (p : Int) (R : List Int), cnT (spA V p k R) v = cnT R v + ocT V v p k
  | 0, p, R => by simp only [spA, ocT, Int.add_zero]
  | k + 1, p, R => by
    simp only [spA, ocT]
    rw [cnT_sp V v k (p + 1) (V p :: R)]
    simp only [cnT]
    by_cases e : V p = v
    · rw [if_pos e, if_pos e.symm]; omega
    · rw [if_neg e, if_neg (fun q => e q.symm)]; omega
theorem X5_comm_1 {row : RowT} {n : Int} {V G : Int → Int} (hR : Rw row n V G) {t l r m : Int} (hl : 0 ≤ l) (hlr : l ≤ r) (hm : 0 ≤ m) (hr : m + (r - l) < n) (hr2 : r < n) : ∀ (k f : Nat) (p : Int) (R : List Int) (T : TalT), k < f → 0 ≤ p → m + (r - l) + 1 = p + k → R.length + k ≤ 120 → TalH t R T →
    ∃ T', mX5_common_L60 row (zI l) (zI r) (zI m) f (zI p) T = some T' ∧ TalH t (spA V p k R) T'
  | k, 0, p, R, T, h, _, _, _, _ => absurd h (Nat.not_lt_zero k)
  | 0, f + 1, p, R, T, _, hp, hk, _, hT => by
    have hn := hR.1
    simp (disch := omega) only [mX5_common_L60, z_0, z_1, z_2, z_3, z_4, z_5, z_6, z_7, z_8, z_9, z_12, z_20, z_120, z_121, z_880, z_900, z_999, z_1000, zI_neg, zI_add, zI_sub, zI_mul, zI_lt, zI_le, zI_eq, sob, bz_0, Classical.not_not]
    rw [if_pos (show m + (r - l) < p by omega)]
    exact ⟨T, rfl, hT⟩
  | k + 1, f + 1, p, R, T, h, hp, hk, hlen, hT => by
    obtain ⟨hn2, hs2, hV, hG, hB⟩ := id hR
    have hb := (hB p (by omega) (by omega)).1
    obtain ⟨T1, e1, hT1⟩ := X3_push_z hT (x := V p) (okT_cons hb hT.ok (by omega))
    simp (disch := omega) only [mX5_common_L60, rd_A hV, e1, z_0, z_1, z_2, z_3, z_4, z_5, z_6, z_7, z_8, z_9, z_12, z_20, z_120, z_121, z_880, z_900, z_999, z_1000, zI_neg, zI_add, zI_sub, zI_mul, zI_lt, zI_le, zI_eq, sob, bz_0, Classical.not_not]
    rw [if_neg (show ¬ m + (r - l) < p by omega)]
    exact X5_comm_1 hR hl hlr hm hr hr2 k f (p + 1) _ T1 (by omega) (by omega) (by omega) (by rw [List.length_cons]; omega) hT1
def coT (R S : List Int) : List Int → Int
  | [] => 0
  | v :: K => (if cnT S v < cnT R v then cnT S v else cnT R v) + coT R S K
theorem X5_comm_2 {t t' : Int} {R S : List Int} {T A : TalT} (h : TalH t R T) (h2 : TalH t' S A) : ∀ (m i f : Nat) (a : Int), (dsT R).length = i + m → m < f → mX5_common_L99 T A f (zI a) (zI (i : Int)) = some (zI (a + coT R S ((dsT R).drop i)))
  | m, i, 0, a, _, h => absurd h (Nat.not_lt_zero m)
  | 0, i, f + 1, a, hl, _ => by
    have h120 := dsT_120 h.ok
    rw [mX5_common_L99, h.kinds, if_pos (by rw [zI_le (by omega) (by omega) (by omega) (by omega)]; omega), List.drop_eq_nil_of_le (by omega)]
    simp only [coT, Int.add_zero]
  | m + 1, i, f + 1, a, hl, hm => by
    have h120 := dsT_120 h.ok
    have ok := h.ok.1
    have ok2 := h2.ok.1
    have hi : i < (dsT R).length := by omega
    have hx : (dsT R)[i] ∈ R := (mem_dsT R _).mp (List.getElem_mem hi)
    have hb := h.ok.2 _ hx
    have cb := cnT_nn R (dsT R)[i]
    have cb2 := cnT_nn S (dsT R)[i]
    rw [mX5_common_L99, if_neg (show ¬ T.2.2.2.2.1 ≤ zI (i : Int) by rw [h.kinds, zI_le (by omega) (by omega) (by omega) (by omega)]; omega), rd_L h.kind hi h120 (by omega), sob, rd_A h.num hb.1 hb.2 (by omega) (by omega), sob, rd_A h2.num hb.1 hb.2 (by omega) (by omega), sob, zI_a1, zI_s, List.drop_eq_getElem_cons hi]
    simp (disch := omega) only [coT, zI_lt]
    by_cases d : cnT S (dsT R)[i] < cnT R (dsT R)[i]
    · rw [if_pos d, if_pos d, zI_add, X5_comm_2 h h2 m (i + 1) f _ (by omega) (by omega), Int.add_assoc]
    · rw [if_neg d, if_neg d, zI_add, X5_comm_2 h h2 m (i + 1) f _ (by omega) (by omega), Int.add_assoc]
theorem X6_comm_L {value weight : Nat → Int32} {n : Int} {V G : Int → Int} (hv : Rv value weight n V G) {pos : Int → Int} {l r m : Int} {R : List Int} {z : CuT} (h : CuH pos R z) (hl : 0 ≤ l) (hlr : l ≤ r) (hm : 0 ≤ m) (hr : m + r - l < n) : ∀ (c i f : Nat) (a : Int), (dsT R).length = i + c → c < f → mX6_common_L45 value z.1 z.2.2.2.1 z.2.2.2.2 (zI l) (zI r) (zI m) f (zI a) (zI (i : Int)) = some (zI (a + coT R (spT V m (m + r - l)) ((dsT R).drop i)))
  | c, i, 0, a, _, h => absurd h (Nat.not_lt_zero c)
  | 0, i, f + 1, a, hlen, _ => by
    have h120 := dsT_120 h.ok
    rw [mX6_common_L45, h.2.2, if_pos (by rw [zI_le (by omega) (by omega) (by omega) (by omega)]; omega), List.drop_eq_nil_of_le (by omega)]
    simp only [coT, Int.add_zero]
  | c + 1, i, f + 1, a, hlen, hc => by
    have h120 := dsT_120 h.ok
    have ok := h.ok.1
    have hn := hv.1
    have hi : i < (dsT R).length := by omega
    have hx : (dsT R)[i] ∈ R := (mem_dsT R _).mp (List.getElem_mem hi)
    have hb := h.ok.2 _ hx
    have cb := cnT_nn R (dsT R)[i]
    have cb2 := ocT_in V (dsT R)[i] (m + r - l + 1 - m).toNat m
    have hsp : cnT (spT V m (m + r - l)) (dsT R)[i] = ocT V (dsT R)[i] m (m + r - l + 1 - m).toNat := by
      unfold spT
      rw [cnT_sp]
      simp only [cnT, Int.zero_add]
    rw [mX6_common_L45, if_neg (show ¬ z.2.2.2.2 ≤ zI (i : Int) by rw [h.2.2, zI_le (by omega) (by omega) (by omega) (by omega)]; omega), rd_L h.2.1 hi h120 (by omega), sob, zI_add, zI_sub, X6_timesIn_z hv hb hm (by omega) hr, sob, sob, rd_A h.num hb.1 hb.2 (by omega) (by omega), sob, sob, rd_A h.num hb.1 hb.2 (by omega) (by omega), sob, zI_a1, zI_s, List.drop_eq_getElem_cons hi]
    simp (disch := omega) only [coT, zI_le]
    rw [hsp]
    by_cases d : ocT V (dsT R)[i] m (m + r - l + 1 - m).toNat < cnT R (dsT R)[i]
    · rw [if_neg (by omega), if_pos d, zI_add, X6_comm_L hv h hl hlr hm hr c (i + 1) f _ (by omega) (by omega), Int.add_assoc]
    · rw [if_pos (by omega), if_neg d, zI_add, X6_comm_L hv h hl hlr hm hr c (i + 1) f _ (by omega) (by omega), Int.add_assoc]
theorem P_common {row : RowT} {value weight : Nat → Int32} {n t : Int} {V G : Int → Int} {T A : TalT} (hR : Rw row n V G) (hv : Rv value weight n V G) (ht : 0 ≤ t ∧ t ≤ 3) (hT : TalC T) (hA : TalC A) (th : Int32) (o fo la un : Nat → Int32) (um x1 x2 x3 : Int32) :
    ∃ (a : Int32) (T' A' : TalT) (z : CuT), mX5_common (zI t) row T A x1 x2 x3 = some (a, T', A') ∧ TalC T' ∧ TalC A' ∧ mX6_common th value (zI n) o fo la un um x1 x2 x3 = some (a, 0, z) := by
  obtain ⟨l, hl, rfl⟩ := zI_ex x1
  obtain ⟨r, hr, rfl⟩ := zI_ex x2
  obtain ⟨m, hm, rfl⟩ := zI_ex x3
  obtain ⟨hs, hn⟩ := hR.ok
  unfold mX5_common mX6_common
  rw [X2_hasSpan_z hs hn hl hr, X6_isSpan_z hn hl hr, sob, sob]
  by_cases c : 0 ≤ l ∧ l ≤ r ∧ r < n
  · rw [bz_t c, if_neg i1, if_neg i1, X2_has_z hs hn hm, sob]
    by_cases m0 : m < 0
    · rw [bz_f (by omega), if_pos rfl, if_pos (show zI m < 0 by rw [z_0, zI_lt (by omega) (by omega) (by omega) (by omega)]; exact m0)]
      exact ⟨_, _, _, (o, fo, la, un, um), rfl, hT, hA, rfl⟩
    · rw [if_neg (show ¬ zI m < 0 by rw [z_0, zI_lt (by omega) (by omega) (by omega) (by omega)]; exact m0), zI_sub, zI_sub]
      by_cases mn : m < n
      · rw [bz_t (by omega), if_neg i1, zI_add, X2_has_z hs hn (by omega), sob]
        by_cases d : m < n - (r - l)
        · rw [bz_t (by omega), if_pos i1, if_pos (show zI m < zI (n - (r - l)) by rw [zI_lt (by omega) (by omega) (by omega) (by omega)]; exact d)]
          obtain ⟨T1, e1, h1⟩ := X5_tallySpan_z hR ht c.1 (by omega) c.2.2 hT
          obtain ⟨A1, e2, h2⟩ := X3_begin_z hA ht
          obtain ⟨A2, e3, h3⟩ := X5_comm_1 hR c.1 c.2.1 (by omega) (show m + (r - l) < n by omega) c.2.2 (m + r - l + 1 - m).toNat FU m [] A1 (by rw [FU_e]; omega) (by omega) (by omega) (by simp only [List.length_nil]; omega) h2
          obtain ⟨z, e4, h4⟩ := X6_counts_z hv c.1 (by omega) c.2.2 o fo la un um
          have h120 := dsT_120 h1.ok
          have e5 := X5_comm_2 h1 h3 (dsT (spT V l r)).length 0 FU 0 (by omega) (by rw [FU_e]; omega)
          have e6 := X6_comm_L hv h4 c.1 c.2.1 (show 0 ≤ m by omega) (show m + r - l < n by omega) (dsT (spT V l r)).length 0 FU 0 (by omega) (by rw [FU_e]; omega)
          rw [show zI ((0 : Nat) : Int) = zI 0 from rfl] at e5 e6
          rw [e1, sob, e2, sob, e3, sob, z_0, e5, sob, e4, sob, e6, sob]
          exact ⟨_, _, _, _, rfl, h1.clean, h3.clean, rfl⟩
        · rw [bz_f (by omega), if_neg i0n, if_neg (show ¬ zI m < zI (n - (r - l)) by rw [zI_lt (by omega) (by omega) (by omega) (by omega)]; exact d)]
          exact ⟨_, _, _, (o, fo, la, un, um), rfl, hT, hA, rfl⟩
      · rw [bz_f (by omega), if_pos rfl, if_neg (show ¬ zI m < zI (n - (r - l)) by rw [zI_lt (by omega) (by omega) (by omega) (by omega)]; omega)]
        exact ⟨_, _, _, (o, fo, la, un, um), rfl, hT, hA, rfl⟩
  · rw [bz_f c, if_pos rfl, if_pos rfl]
    exact ⟨_, _, _, (o, fo, la, un, um), rfl, hT, hA, rfl⟩

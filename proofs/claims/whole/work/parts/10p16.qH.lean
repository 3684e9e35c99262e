/-! PURE ROWS. needed, split, wide -/
def ocL (x : Int) : List Int → Int
  | [] => 0
  | w :: K => (if w = x then 1 else 0) + ocL x K
theorem ocL_nd (x : Int) : ∀ K : List Int, K.Nodup → ocL x K = if x ∈ K then 1 else 0
  | [], _ => rfl
  | w :: K, h => by
    have h2 := List.nodup_cons.mp h
    have ih := ocL_nd x K h2.2
    simp only [ocL]
    rw [ih]
    by_cases e : w = x
    · rw [if_pos e, if_neg (by rw [← e]; exact h2.1), if_pos (by rw [e]; exact List.mem_cons_self)]; rfl
    · rw [if_neg e, Int.zero_add]
      by_cases m : x ∈ K
      · rw [if_pos m, if_pos (List.mem_cons_of_mem _ m)]
      · rw [if_neg m, if_neg (fun q => by rcases List.mem_cons.mp q with q | q; exact e q.symm; exact m q)]
def smT (R : List Int) : List Int → Int
  | [] => 0
  | w :: K => cnT R w + smT R K
theorem smT_cons (x : Int) (R : List Int) : ∀ K : List Int, smT (x :: R) K = smT R K + ocL x K
  | [] => rfl
  | w :: K => by
    simp only [smT, ocL, cnT]
    rw [smT_cons x R K]
    omega
theorem smT_app (R : List Int) (x : Int) : ∀ K : List Int, smT R (K ++ [x]) = smT R K + cnT R x
  | [] => by simp only [List.nil_append, smT]; omega
  | w :: K => by
    simp only [List.cons_append, smT]
    rw [smT_app R x K]; omega
theorem smT_all : ∀ R : List Int, smT R (dsT R) = R.length
  | [] => rfl
  | x :: R => by
    have ih := smT_all R
    have nd := dsT_nd R
    have hm := mem_dsT R x
    by_cases m : x ∈ R
    · have e : dsT (x :: R) = dsT R := by simp only [dsT, if_pos m]
      rw [e, smT_cons, ih, ocL_nd x _ nd, if_pos (hm.mpr m), List.length_cons]
      omega
    · have e : dsT (x :: R) = dsT R ++ [x] := by simp only [dsT, if_neg m]
      have c0 := (cnT_0 R x).mpr m
      rw [e, smT_app, smT_cons, ih, ocL_nd x _ nd, if_neg (fun q => m (hm.mp q)), List.length_cons]
      simp only [cnT, if_true, c0]
      omega
/-- beyond a bound, of all but v -/
def toT (R : List Int) (v b : Int) : List Int → Int
  | [] => 0
  | w :: K => (if w = v then 0 else if b < cnT R w then cnT R w - b else 0) + toT R v b K
theorem toT_le (R : List Int) (v b : Int) (hb : 0 ≤ b) : ∀ K : List Int, toT R v b K + (if v ∈ K then cnT R v else 0) ≤ smT R K
  | [] => by simp only [toT, smT]; rw [if_neg List.not_mem_nil]; omega
  | w :: K => by
    have ih := toT_le R v b hb K
    have cw := cnT_nn R w
    have cv := cnT_nn R v
    simp only [toT, smT]
    by_cases e : w = v
    · rw [if_pos e, if_pos (by rw [e]; exact List.mem_cons_self)]
      by_cases m : v ∈ K
      · rw [if_pos m] at ih; rw [e]; omega
      · rw [if_neg m] at ih; rw [e]; omega
    · rw [if_neg e]
      have hmem : (v ∈ w :: K) ↔ v ∈ K := ⟨fun q => by rcases List.mem_cons.mp q with q | q; exact absurd q.symm e; exact q, List.mem_cons_of_mem _⟩
      by_cases m : v ∈ K
      · rw [if_pos m] at ih
        rw [if_pos (hmem.mpr m)]
        by_cases d : b < cnT R w
        · rw [if_pos d]; omega
        · rw [if_neg d]; omega
      · rw [if_neg m] at ih
        rw [if_neg (fun q => m (hmem.mp q))]
        by_cases d : b < cnT R w
        · rw [if_pos d]; omega
        · rw [if_neg d]; omega
theorem toT_in (R : List Int) (v b : Int) (hb : -1 ≤ b) (hR : R.length ≤ 120) : ∀ K : List Int, 0 ≤ toT R v b K ∧ toT R v b K ≤ 121 * K.length
  | [] => by simp only [toT, List.length_nil]; omega
  | w :: K => by
    have ih := toT_in R v b hb hR K
    have cw := cnT_nn R w
    simp only [toT, List.length_cons]
    by_cases e : w = v
    · rw [if_pos e]; omega
    · rw [if_neg e]
      by_cases d : b < cnT R w
      · rw [if_pos d]; omega
      · rw [if_neg d]; omega
theorem X3_too_L {t v b : Int} {R : List Int} {T : TalT} (h : TalH t R T) (hv : 0 ≤ v ∧ v < 1000) (hb : -1 ≤ b ∧ b ≤ 1000) : ∀ (m i f : Nat) (a : Int), (dsT R).length = i + m → m < f → mX3_tooMany_L5 T (zI v) (zI b) f (zI a) (zI (i : Int)) = some (zI (a + toT R v b ((dsT R).drop i)))
  | m, i, 0, a, _, h => absurd h (Nat.not_lt_zero m)
  | 0, i, f + 1, a, hl, _ => by
    have h120 := dsT_120 h.ok
    rw [mX3_tooMany_L5, h.kinds, if_pos (by rw [zI_le (by omega) (by omega) (by omega) (by omega)]; omega), List.drop_eq_nil_of_le (by omega)]
    simp only [toT, Int.add_zero]
  | m + 1, i, f + 1, a, hl, hm => by
    have h120 := dsT_120 h.ok
    have ok := h.ok.1
    have hi : i < (dsT R).length := by omega
    have hx : (dsT R)[i] ∈ R := (mem_dsT R _).mp (List.getElem_mem hi)
    have hxb := h.ok.2 _ hx
    have cb := cnT_nn R (dsT R)[i]
    rw [mX3_tooMany_L5, if_neg (show ¬ T.2.2.2.2.1 ≤ zI (i : Int) by rw [h.kinds, zI_le (by omega) (by omega) (by omega) (by omega)]; omega), rd_L h.kind hi h120 (by omega), sob, sob, rd_A h.num hxb.1 hxb.2 (by omega) (by omega), sob, zI_a1, zI_s, zI_sub, List.drop_eq_getElem_cons hi]
    simp (disch := omega) only [toT, zI_eq, z_0, zI_lt]
    by_cases d : (dsT R)[i] = v
    · rw [if_pos d, if_pos d, X3_too_L h hv hb m (i + 1) f _ (by omega) (by omega), Int.zero_add]
    · rw [if_neg d, if_neg d]
      by_cases e : b < cnT R (dsT R)[i]
      · rw [if_pos (show 0 < cnT R (dsT R)[i] - b by omega), if_pos e, zI_add, X3_too_L h hv hb m (i + 1) f _ (by omega) (by omega), Int.add_assoc]
      · rw [if_neg (show ¬ 0 < cnT R (dsT R)[i] - b by omega), if_neg e, zI_add, X3_too_L h hv hb m (i + 1) f _ (by omega) (by omega), Int.zero_add, Int.add_zero]
theorem X6_over_L {pos : Int → Int} {v b : Int} {R : List Int} {z : CuT} (h : CuH pos R z) (hv : 0 ≤ v ∧ v < 1000) (hb : -1 ≤ b ∧ b ≤ 1000) : ∀ (m i f : Nat) (a : Int), (dsT R).length = i + m → m < f → mX6_over_L5 z.1 z.2.2.2.1 z.2.2.2.2 (zI b) (zI v) f (zI a) (zI (i : Int)) = some (zI (a + toT R v b ((dsT R).drop i)))
  | m, i, 0, a, _, h => absurd h (Nat.not_lt_zero m)
  | 0, i, f + 1, a, hl, _ => by
    have h120 := dsT_120 h.ok
    rw [mX6_over_L5, h.2.2, if_pos (by rw [zI_le (by omega) (by omega) (by omega) (by omega)]; omega), List.drop_eq_nil_of_le (by omega)]
    simp only [toT, Int.add_zero]
  | m + 1, i, f + 1, a, hl, hm => by
    have h120 := dsT_120 h.ok
    have ok := h.ok.1
    have hi : i < (dsT R).length := by omega
    have hx : (dsT R)[i] ∈ R := (mem_dsT R _).mp (List.getElem_mem hi)
    have hxb := h.ok.2 _ hx
    have cb := cnT_nn R (dsT R)[i]
    rw [mX6_over_L5, if_neg (show ¬ z.2.2.2.2 ≤ zI (i : Int) by rw [h.2.2, zI_le (by omega) (by omega) (by omega) (by omega)]; omega), rd_L h.2.1 hi h120 (by omega), sob, rd_A h.num hxb.1 hxb.2 (by omega) (by omega), sob, sob, zI_a1, zI_s, zI_sub, zI_a0, List.drop_eq_getElem_cons hi]
    simp (disch := omega) only [toT, zI_eq, zI_le]
    by_cases d : (dsT R)[i] = v
    · rw [if_pos d, if_pos d, X6_over_L h hv hb m (i + 1) f _ (by omega) (by omega), Int.zero_add]
    · rw [if_neg d, if_neg d]
      by_cases e : b < cnT R (dsT R)[i]
      · rw [if_neg (show ¬ cnT R (dsT R)[i] ≤ b by omega), if_pos e, zI_add, X6_over_L h hv hb m (i + 1) f _ (by omega) (by omega), Int.add_assoc]
      · rw [if_pos (show cnT R (dsT R)[i] ≤ b by omega), if_neg e, X6_over_L h hv hb m (i + 1) f _ (by omega) (by omega), Int.zero_add]
theorem X56_need_L {t v : Int} {pos : Int → Int} {R : List Int} {T : TalT} {z : CuT} (h : TalH t R T) (h2 : CuH pos R z) (hv : 0 ≤ v ∧ v < 1000) (hR : R ≠ []) : ∀ (k f f' : Nat) (x : Int), k < f → k < f' → 0 ≤ x → (R.length : Int) - cnT R v = x + k →
    ∃ a, mX5_needed_L51 T (zI v) (zI (cnT R v)) (zI (R.length - cnT R v)) f (zI x) = some (zI a, T) ∧ mX6_needed_L33 z.1 z.2.2.2.1 z.2.2.2.2 (zI v) f' (zI x) = some (zI a)
  | k, 0, f', x, h, _, _, _ => absurd h (Nat.not_lt_zero k)
  | k, f + 1, 0, x, _, h, _, _ => absurd h (Nat.not_lt_zero k)
  | 0, f + 1, f' + 1, x, _, _, hx, hk => by
    have cv := cnT_nn R v
    have ok := h.ok.1
    have h120 := dsT_120 h.ok
    have hpos := List.length_pos_iff.mpr hR
    have b1 := toT_in R v (cnT R v + x - 1) (by omega) ok (dsT R)
    have b2 := toT_le R v (cnT R v + x - 1) (by omega) (dsT R)
    rw [smT_all] at b2
    have b3 : toT R v (cnT R v + x - 1) (dsT R) ≤ x := by
      by_cases m : v ∈ dsT R
      · rw [if_pos m] at b2; omega
      · have := (cnT_0 R v).mpr (fun q => m ((mem_dsT R v).mpr q))
        rw [if_neg m] at b2; omega
    have e2 := X6_over_L h2 hv (b := cnT R v + x - 1) (by omega) (dsT R).length 0 FU 0 (by omega) (by rw [FU_e]; omega)
    rw [List.drop_zero, Int.zero_add] at e2
    have e2' : mX6_over z.1 z.2.2.2.1 z.2.2.2.2 (zI (cnT R v + x - 1)) (zI v) = some (zI (toT R v (cnT R v + x - 1) (dsT R))) := by
      unfold mX6_over
      rw [show (0 : Int32) = zI 0 from rfl]
      exact (congrArg (fun q => q.bind fun z8 => some z8) e2)
    simp (disch := omega) only [mX5_needed_L51, mX6_needed_L33, rd_A h2.num, e2', z_0, z_1, z_2, z_3, z_4, z_5, z_6, z_7, z_8, z_9, z_12, z_20, z_120, z_121, z_880, z_900, z_999, z_1000, zI_neg, zI_add, zI_sub, zI_mul, zI_lt, zI_le, zI_eq, sob, bz_0, Classical.not_not]
    rw [if_pos (show (R.length : Int) - cnT R v ≤ x by omega), if_pos b3]
    exact ⟨x, by rw [show (R.length : Int) - cnT R v = x by omega], rfl⟩
  | k + 1, f + 1, f' + 1, x, hf, hf', hx, hk => by
    have cv := cnT_nn R v
    have ok := h.ok.1
    have h120 := dsT_120 h.ok
    have hpos := List.length_pos_iff.mpr hR
    have b1 := toT_in R v (cnT R v + x - 1) (by omega) ok (dsT R)
    have e1 := X3_too_L h hv (b := cnT R v + x - 1) (by omega) (dsT R).length 0 FU 0 (by omega) (by rw [FU_e]; omega)
    have e2 := X6_over_L h2 hv (b := cnT R v + x - 1) (by omega) (dsT R).length 0 FU 0 (by omega) (by rw [FU_e]; omega)
    rw [List.drop_zero, Int.zero_add] at e1 e2
    have e1' : mX3_tooMany T (zI v) (zI (cnT R v + x - 1)) = some (zI (toT R v (cnT R v + x - 1) (dsT R))) := by
      unfold mX3_tooMany
      rw [show (0 : Int32) = zI 0 from rfl]
      exact (congrArg (fun q => q.bind fun z8 => some z8) e1)
    have e2' : mX6_over z.1 z.2.2.2.1 z.2.2.2.2 (zI (cnT R v + x - 1)) (zI v) = some (zI (toT R v (cnT R v + x - 1) (dsT R))) := by
      unfold mX6_over
      rw [show (0 : Int32) = zI 0 from rfl]
      exact (congrArg (fun q => q.bind fun z8 => some z8) e2)
    simp (disch := omega) only [mX5_needed_L51, mX6_needed_L33, rd_A h2.num, e1', e2', z_0, z_1, z_2, z_3, z_4, z_5, z_6, z_7, z_8, z_9, z_12, z_20, z_120, z_121, z_880, z_900, z_999, z_1000, zI_neg, zI_add, zI_sub, zI_mul, zI_lt, zI_le, zI_eq, sob, bz_0, Classical.not_not]
    rw [if_neg (show ¬ (R.length : Int) - cnT R v ≤ x by omega)]
    by_cases d : toT R v (cnT R v + x - 1) (dsT R) ≤ x
    · rw [if_neg (show ¬ x < toT R v (cnT R v + x - 1) (dsT R) by omega), if_pos d]
      exact ⟨x, rfl, rfl⟩
    · rw [if_pos (show x < toT R v (cnT R v + x - 1) (dsT R) by omega), if_neg d]
      exact X56_need_L h h2 hv hR k f f' (x + 1) (by omega) (by omega) (by omega) (by omega)
theorem P_needed {row : RowT} {value weight : Nat → Int32} {n t : Int} {V G : Int → Int} {T : TalT} (hR : Rw row n V G) (hv : Rv value weight n V G) (ht : 0 ≤ t ∧ t ≤ 3) (hT : TalC T) (th : Int32) (o fo la un : Nat → Int32) (um x1 x2 x3 : Int32) :
    ∃ (a : Int32) (T' : TalT) (z : CuT), mX5_needed (zI t) row T x1 x2 x3 = some (a, T') ∧ TalC T' ∧ mX6_needed th value (zI n) o fo la un um x1 x2 x3 = some (a, 0, z) := by
  obtain ⟨l, hl, rfl⟩ := zI_ex x1
  obtain ⟨r, hr, rfl⟩ := zI_ex x2
  obtain ⟨v, hvv, rfl⟩ := zI_ex x3
  obtain ⟨hs, hn⟩ := hR.ok
  unfold mX5_needed mX6_needed
  rw [X2_hasSpan_z hs hn hl hr, X6_isSpan_z hn hl hr, sob, sob]
  by_cases c : 0 ≤ l ∧ l ≤ r ∧ r < n
  · rw [bz_t c, if_neg i1, if_neg i1, X5_isValue_z hvv, X6_isValue_z hvv, sob, sob]
    by_cases d : 0 ≤ v ∧ v < 1000
    · rw [bz_t d, if_pos i1, if_pos i1]
      obtain ⟨T', e1, h1⟩ := X5_tallySpan_z hR ht c.1 (by omega) c.2.2 hT
      obtain ⟨z, e2, h2⟩ := X6_counts_z hv c.1 (by omega) c.2.2 o fo la un um
      have hlen := spT_len (V := V) (l := l) (r := r) (by omega)
      have cv := cnT_nn (spT V l r) v
      obtain ⟨a, e3, e4⟩ := X56_need_L h1 h2 d (spT_ne c.2.1) ((spT V l r).length - cnT (spT V l r) v).toNat FU FU 0 (by rw [FU_e]; omega) (by rw [FU_e]; omega) (by omega) (by omega)
      rw [hlen] at e3
      rw [e1, sob, e2, sob, rd_A h1.num d.1 d.2 (by omega) (by omega), sob, zI_sub, zI_a1, zI_sub, show r - l + 1 - cnT (spT V l r) v = r + 1 - l - cnT (spT V l r) v by omega, show (0 : Int32) = zI 0 from rfl, e3, e4, sob]
      exact ⟨_, _, _, rfl, h1.clean, rfl⟩
    · rw [bz_f d, if_neg i0n, if_neg i0n]
      exact ⟨_, _, (o, fo, la, un, um), rfl, hT, rfl⟩
  · rw [bz_f c, if_pos rfl, if_pos rfl]
    exact ⟨_, _, (o, fo, la, un, um), rfl, hT, rfl⟩
/-! the most often of several -/
theorem mxT_ge {t : Int} {R : List Int} (ok : okT R) {w : Int} (hw : w ∈ R) : cnT R w ≤ cnT R (bsT t R) := by
  have hR : R ≠ [] := fun e => by rw [e] at hw; cases hw
  have a := tiT_in ok t hw
  have b := tiT_in ok t (bsT_mem (t := t) ok hR)
  have h := bsT_max (t := t) ok hw
  unfold kyT at h
  omega
theorem mxT_eq {t t' : Int} {R S : List Int} (ok : okT R) (ok' : okT S) (h : ∀ v, cnT R v = cnT S v) : cnT R (bsT t R) = cnT S (bsT t' S) := by
  have mem : ∀ v, v ∈ R ↔ v ∈ S := fun v => by rw [← cnT_pos, ← cnT_pos, h v]
  by_cases e : R = []
  · have e2 : S = [] := by
      cases S with
      | nil => rfl
      | cons x S => have := (mem x).mpr List.mem_cons_self; rw [e] at this; cases this
    rw [e, e2]; rfl
  · have e2 : S ≠ [] := by
      intro q
      have := (mem _).mp (bsT_mem (t := t) ok e)
      rw [q] at this; cases this
    have a := mxT_ge (t := t') ok' ((mem _).mp (bsT_mem (t := t) ok e))
    have b := mxT_ge (t := t) ok ((mem _).mpr (bsT_mem (t := t') ok' e2))
    rw [h] at b ⊢
    rw [h] at b
    omega
theorem mxT_mono {t : Int} {x : Int} {R : List Int} (ok : okT (x :: R)) : cnT R (bsT t R) ≤ cnT (x :: R) (bsT t (x :: R)) := by
  by_cases e : R = []
  · rw [e]
    have := (cnT_nn [x] (bsT t [x])).1
    show 0 ≤ _
    exact this
  · have hb := bsT_mem (t := t) ok.tail e
    have := mxT_ge (t := t) ok (List.mem_cons_of_mem _ hb)
    have : cnT (x :: R) (bsT t R) = (if bsT t R = x then 1 else 0) + cnT R (bsT t R) := rfl
    by_cases q : bsT t R = x
    · rw [if_pos q] at this; omega
    · rw [if_neg q] at this; omega
/-- how often the mode of a span stands there -/
def mxS (t : Int) (V : Int → Int) (l r : Int) : Int := cnT (spT V l r) (bsT t (spT V l r))
theorem mxS_mono {t : Int} {V : Int → Int} {n l : Int} (hB : ∀ i, 0 ≤ i → i < n → 0 ≤ V i ∧ V i < 1000) (hl : 0 ≤ l) (hn : n ≤ 120) : ∀ (k : Nat) (r : Int), l ≤ r + 1 → r + k < n → mxS t V l r ≤ mxS t V l (r + k)
  | 0, r, _, _ => by rw [show r + ((0 : Nat) : Int) = r by omega]; exact Int.le_refl _
  | k + 1, r, h, hr => by
    have ih := mxS_mono (t := t) hB hl hn k r h (by omega)
    have ok := spT_ok (V := V) (n := n) (l := l) (r := r + (k + 1 : Nat)) hB hl (by omega) hr hn
    have e := spT_snoc (V := V) (l := l) (r := r + (k + 1 : Nat)) (by omega)
    rw [show r + ((k + 1 : Nat) : Int) - 1 = r + k by omega] at e
    unfold mxS at ih ⊢
    rw [e] at ok ⊢
    have := mxT_mono (t := t) ok
    omega
theorem X3_most_mx {t : Int} {R : List Int} {T : TalT} (h : TalH t R T) : mX3_most T = some (zI (cnT R (bsT t R))) := by
  rw [X3_most_z h]
  by_cases e : R = []
  · rw [if_pos e, e]; rfl
  · rw [if_neg e]

/-! PURE ROWS. Spans pushed; the class' and the reference's mode, told, rank -/
/-- k places from p on pushed onto R -/
def spA (V : Int → Int) : Int → Nat → List Int → List Int
  | _, 0, R => R
  | p, k + 1, R => spA V (p + 1) k (V p :: R)
theorem spA_len (V : Int → Int) : ∀ (k : Nat) (p : Int) (R : List Int), (spA V p k R).length = R.length + k
  | 0, p, R => rfl
  | k + 1, p, R => by simp only [spA]; rw [spA_len V k (p + 1) (V p :: R), List.length_cons]; omega
theorem spA_mem (V : Int → Int) (v : Int) : ∀ (k : Nat) (p : Int) (R : List Int), v ∈ spA V p k R ↔ (v ∈ R ∨ ∃ i, p ≤ i ∧ i < p + k ∧ V i = v)
  | 0, p, R => by
    simp only [spA]
    constructor
    · exact Or.inl
    · rintro (h | ⟨i, h1, h2, _⟩)
      · exact h
      · omega
  | k + 1, p, R => by
    simp only [spA]
    rw [spA_mem V v k (p + 1) (V p :: R), List.mem_cons]
    constructor
    · rintro ((h | h) | ⟨i, h1, h2, h3⟩)
      · exact Or.inr ⟨p, by omega, by omega, h.symm⟩
      · exact Or.inl h
      · exact Or.inr ⟨i, by omega, by omega, h3⟩
    · rintro (h | ⟨i, h1, h2, h3⟩)
      · exact Or.inl (Or.inr h)
      · by_cases e : i = p
        · subst e; exact Or.inl (Or.inl h3.symm)
        · exact Or.inr ⟨i, by omega, by omega, h3⟩
theorem spA_snoc (V : Int → Int) : ∀ (k : Nat) (p : Int) (R : List Int), spA V p (k + 1) R = V (p + k) :: spA V p k R
  | 0, p, R => by simp [spA]
  | k + 1, p, R => by
    have h := spA_snoc V k (p + 1) (V p :: R)
    have h2 : spA V p (k + 1 + 1) R = spA V (p + 1) (k + 1) (V p :: R) := rfl
    have h3 : spA V p (k + 1) R = spA V (p + 1) k (V p :: R) := rfl
    rw [h2, h3, h, show p + 1 + (k : Int) = p + ((k + 1 : Nat) : Int) by omega]
theorem spA_add (V : Int → Int) : ∀ (a b : Nat) (p : Int) (R : List Int), spA V p (a + b) R = spA V (p + a) b (spA V p a R)
  | 0, b, p, R => by simp [spA]
  | a + 1, b, p, R => by
    rw [show a + 1 + b = (a + b) + 1 by omega]
    simp only [spA]
    rw [spA_add V a b (p + 1) (V p :: R), show p + 1 + (a : Int) = p + ((a + 1 : Nat) : Int) by omega]
theorem spA_ok {V : Int → Int} {n p : Int} {k : Nat} {R : List Int} (hB : ∀ i, 0 ≤ i → i < n → 0 ≤ V i ∧ V i < 1000) (hp : 0 ≤ p) (hk : p + k ≤ n) (ok : okT R) (hl : R.length + k ≤ 120) : okT (spA V p k R) := by
  refine ⟨by rw [spA_len]; omega, fun v hv => ?_⟩
  rcases (spA_mem V v k p R).mp hv with h | ⟨i, h1, h2, h3⟩
  · exact ok.2 v h
  · rw [← h3]; exact hB i (by omega) (by omega)
/-- the values of a span -/
def spT (V : Int → Int) (l r : Int) : List Int := spA V l (r + 1 - l).toNat []
theorem spT_ok {V : Int → Int} {n l r : Int} (hB : ∀ i, 0 ≤ i → i < n → 0 ≤ V i ∧ V i < 1000) (hl : 0 ≤ l) (hlr : l ≤ r + 1) (hr : r < n) (hn : n ≤ 120) : okT (spT V l r) := spA_ok hB hl (by omega) okT_nil (by simp only [List.length_nil]; omega)
theorem spT_len {V : Int → Int} {l r : Int} (hlr : l ≤ r + 1) : ((spT V l r).length : Int) = r + 1 - l := by
  unfold spT; rw [spA_len]; simp only [List.length_nil]; omega
theorem spT_ne {V : Int → Int} {l r : Int} (h : l ≤ r) : spT V l r ≠ [] := by
  intro e
  have := spT_len (V := V) (l := l) (r := r) (by omega)
  rw [e] at this
  simp only [List.length_nil] at this
  omega
theorem spT_mem {V : Int → Int} {l r v : Int} : v ∈ spT V l r ↔ ∃ i, l ≤ i ∧ i ≤ r ∧ V i = v := by
  unfold spT
  rw [spA_mem]
  constructor
  · rintro (h | ⟨i, h1, h2, h3⟩)
    · cases h
    · exact ⟨i, h1, by omega, h3⟩
  · rintro ⟨i, h1, h2, h3⟩
    exact Or.inr ⟨i, h1, by omega, h3⟩
theorem spT_nil {V : Int → Int} {l r : Int} (h : r + 1 = l) : spT V l r = [] := by
  unfold spT; rw [show (r + 1 - l).toNat = 0 by omega]; rfl
theorem spT_snoc {V : Int → Int} {l r : Int} (h : l ≤ r) : spT V l r = V r :: spT V l (r - 1) := by
  unfold spT
  rw [show (r + 1 - l).toNat = (r - 1 + 1 - l).toNat + 1 by omega, spA_snoc, show l + ((r - 1 + 1 - l).toNat : Int) = r by omega]
theorem Rw.bv {t : RowT} {n : Int} {V G : Int → Int} (h : Rw t n V G) : ∀ i, 0 ≤ i → i < n → 0 ≤ V i ∧ V i < 1000 := fun i h0 h1 => (h.2.2.2.2 i h0 h1).1
theorem Rv.bv {value weight : Nat → Int32} {n : Int} {V G : Int → Int} (h : Rv value weight n V G) : ∀ i, 0 ≤ i → i < n → 0 ≤ V i ∧ V i < 1000 := fun i h0 h1 => (h.2.2.2 i h0 h1).1
/-! the class -/
theorem X5_span_L {row : RowT} {n : Int} {V G : Int → Int} (hR : Rw row n V G) {t r : Int} (hr : r < n) : ∀ (k f : Nat) (p : Int) (R : List Int) (T : TalT), k < f → 0 ≤ p → r + 1 = p + k → R.length + k ≤ 120 → TalH t R T →
    ∃ T', mX5_tallySpan_L13 row (zI r) f (zI p) T = some T' ∧ TalH t (spA V p k R) T'
  | k, 0, p, R, T, h, _, _, _, _ => absurd h (Nat.not_lt_zero k)
  | 0, f + 1, p, R, T, _, hp, hk, _, hT => by
    have hn := hR.1
    simp (disch := omega) only [mX5_tallySpan_L13, z_0, z_1, z_2, z_3, z_4, z_5, z_6, z_7, z_8, z_9, z_12, z_20, z_120, z_121, z_880, z_900, z_999, z_1000, zI_neg, zI_add, zI_sub, zI_mul, zI_lt, zI_le, zI_eq, sob, bz_0, Classical.not_not]
    rw [if_pos (show r < p by omega)]
    exact ⟨T, rfl, hT⟩
  | k + 1, f + 1, p, R, T, h, hp, hk, hl, hT => by
    obtain ⟨hn2, hs, hV, hG, hB⟩ := id hR
    have hb := (hB p (by omega) (by omega)).1
    obtain ⟨T1, e1, hT1⟩ := X3_push_z hT (x := V p) ⟨by rw [List.length_cons]; omega, fun v hv => by
      rcases List.mem_cons.mp hv with e | e
      · rw [e]; exact hb
      · exact hT.ok.2 v e⟩
    simp (disch := omega) only [mX5_tallySpan_L13, rd_A hV, e1, z_0, z_1, z_2, z_3, z_4, z_5, z_6, z_7, z_8, z_9, z_12, z_20, z_120, z_121, z_880, z_900, z_999, z_1000, zI_neg, zI_add, zI_sub, zI_mul, zI_lt, zI_le, zI_eq, sob, bz_0, Classical.not_not]
    rw [if_neg (show ¬ r < p by omega)]
    exact X5_span_L hR hr k f (p + 1) _ T1 (by omega) (by omega) (by omega) (by rw [List.length_cons]; omega) hT1
theorem X5_tallySpan_z {row : RowT} {n : Int} {V G : Int → Int} (hR : Rw row n V G) {t l r : Int} (ht : 0 ≤ t ∧ t ≤ 3) (hl : 0 ≤ l) (hlr : l ≤ r + 1) (hr : r < n) {T : TalT} (hT : TalC T) :
    ∃ T', mX5_tallySpan (zI t) row T (zI l) (zI r) = some T' ∧ TalH t (spT V l r) T' := by
  have hn := hR.1
  obtain ⟨T1, e1, h1⟩ := X3_begin_z hT ht
  obtain ⟨T2, e2, h2⟩ := X5_span_L hR hr (r + 1 - l).toNat FU l [] T1 (by rw [FU_e]; omega) hl (by omega) (by simp only [List.length_nil]; omega) h1
  refine ⟨T2, ?_, h2⟩
  unfold mX5_tallySpan
  rw [e1, sob, e2, sob]
theorem X5_modeOf_z {row : RowT} {n : Int} {V G : Int → Int} (hR : Rw row n V G) {t l r : Int} (ht : 0 ≤ t ∧ t ≤ 3) (hl : 0 ≤ l) (hlr : l ≤ r + 1) (hr : r < n) {T : TalT} (hT : TalC T) :
    ∃ T', mX5_modeOf (zI t) row T (zI l) (zI r) = some (zI (bsT t (spT V l r)), T') ∧ TalH t (spT V l r) T' := by
  obtain ⟨T2, e2, h2⟩ := X5_tallySpan_z hR ht hl hlr hr hT
  refine ⟨T2, ?_, h2⟩
  unfold mX5_modeOf
  rw [e2, sob, h2.2.2.2.2.2.1]
theorem TalH.kinds {t : Int} {R : List Int} {T : TalT} (h : TalH t R T) : T.2.2.2.2.1 = zI (dsT R).length := h.2.2.2.1
theorem TalH.kind {t : Int} {R : List Int} {T : TalT} (h : TalH t R T) : Lr T.2.2.2.1 (dsT R) := h.2.2.1
theorem TalH.num {t : Int} {R : List Int} {T : TalT} (h : TalH t R T) : Ar T.1 1000 (cnT R) := h.1.2.2.1
theorem TalH.best {t : Int} {R : List Int} {T : TalT} (h : TalH t R T) : T.2.2.2.2.2.2.1 = zI (bsT t R) := h.2.2.2.2.2.1
theorem TalH.len {t : Int} {R : List Int} {T : TalT} (h : TalH t R T) : T.2.2.2.2.2.1 = zI R.length := h.2.2.2.2.1
/-- what is told of a value: 0 itself, 1 how often, 2 its first, else its last -/
def tdT (R : List Int) (l v w : Int) : Int := if w = 0 then v else if w = 1 then cnT R v else if w = 2 then l + fiT R v else l + laT R v
theorem X3_told_z {t : Int} {R : List Int} {T : TalT} (h : cuA (fun i => i) R T.1 T.2.1 T.2.2.1) {v w l : Int} (hv : v ∈ R) (hw : 0 ≤ w ∧ w < 4) : mX3_told T (zI v) (zI w) (zI l) = some (zI (tdT R l v w)) := by
  obtain ⟨ok, hm, hA, hG⟩ := h
  have hb := ok.2 v hv
  unfold mX3_told tdT
  simp (disch := omega) only [rd_A hA, rd_in, (hG v hv).1, (hG v hv).2, z_0, z_1, z_2, z_3, z_4, z_5, z_6, z_7, z_8, z_9, z_12, z_20, z_120, z_121, z_880, z_900, z_999, z_1000, zI_neg, zI_add, zI_sub, zI_mul, zI_lt, zI_le, zI_eq, sob, bz_0, Classical.not_not]
  by_cases a : w = 0
  · rw [if_pos a, if_pos a]
  · rw [if_neg a, if_neg a]
    by_cases b : w = 1
    · rw [if_pos b, if_pos b]
    · rw [if_neg b, if_neg b]
      by_cases c : w = 2
      · rw [if_pos c, if_pos c]
      · rw [if_neg c, if_neg c]
theorem X3_most_z {t : Int} {R : List Int} {T : TalT} (h : TalH t R T) : mX3_most T = some (zI (if R = [] then 0 else cnT R (bsT t R))) := by
  have hb := bsT_in (t := t) h.ok
  unfold mX3_most
  simp (disch := omega) only [h.best, z_0, z_1, z_2, z_3, z_4, z_5, z_6, z_7, z_8, z_9, z_12, z_20, z_120, z_121, z_880, z_900, z_999, z_1000, zI_neg, zI_add, zI_sub, zI_mul, zI_lt, zI_le, zI_eq, sob, bz_0, Classical.not_not]
  by_cases e : R = []
  · rw [if_neg (show ¬ ¬ bsT t R = -1 by rw [e, bsT_nil]; omega), if_pos e]
  · have := bsT_nn (t := t) h.ok e
    rw [if_pos (show ¬ bsT t R = -1 by omega), if_neg e, rd_A h.num (by omega) (by omega) (by omega) (by omega), sob]
theorem X3_hasMajority_z {t : Int} {R : List Int} {T : TalT} (h : TalH t R T) (hR : R ≠ []) : mX3_hasMajority T = some (bz ((R.length : Int) < 2 * cnT R (bsT t R))) := by
  have hc := cnT_nn R (bsT t R)
  have ok := h.ok.1
  unfold mX3_hasMajority
  rw [X3_most_z h, if_neg hR, sob, h.len, z_2, zI_mul]
  refine bz1 ?_
  rw [zI_le (by omega) (by omega) (by omega) (by omega)]
  omega
/-! the reference -/
abbrev CuT : Type := (Nat → Int32) × (Nat → Int32) × (Nat → Int32) × (Nat → Int32) × Int32
def CuH (pos : Int → Int) (R : List Int) (z : CuT) : Prop := cuA pos R z.1 z.2.1 z.2.2.1 ∧ Lr z.2.2.2.1 (dsT R) ∧ z.2.2.2.2 = zI (dsT R).length
theorem CuH.ok {pos : Int → Int} {R : List Int} {z : CuT} (h : CuH pos R z) : okT R := h.1.1
theorem CuH.num {pos : Int → Int} {R : List Int} {z : CuT} (h : CuH pos R z) : Ar z.1 1000 (cnT R) := h.1.2.2.1
theorem X6_zero_L : ∀ (k f : Nat) (p : Int) (o : Nat → Int32), k < f → 0 ≤ p → 1000 = p + k → (∀ i, 0 ≤ i → i < p → o i.toNat = zI 0) → ∃ o', mX6_counts_L3 f (zI p) o = some o' ∧ Ar o' 1000 (fun _ => 0)
  | k, 0, p, o, h, _, _, _ => absurd h (Nat.not_lt_zero k)
  | 0, f + 1, p, o, _, hp, hk, ho => by
    simp (disch := omega) only [mX6_counts_L3, z_0, z_1, z_2, z_3, z_4, z_5, z_6, z_7, z_8, z_9, z_12, z_20, z_120, z_121, z_880, z_900, z_999, z_1000, zI_neg, zI_add, zI_sub, zI_mul, zI_lt, zI_le, zI_eq, sob, bz_0, Classical.not_not]
    rw [if_pos (show 1000 ≤ p by omega)]
    exact ⟨o, rfl, fun i h0 h1 => ho i h0 (by omega)⟩
  | k + 1, f + 1, p, o, h, hp, hk, ho => by
    simp (disch := omega) only [mX6_counts_L3, wr_in, z_0, z_1, z_2, z_3, z_4, z_5, z_6, z_7, z_8, z_9, z_12, z_20, z_120, z_121, z_880, z_900, z_999, z_1000, zI_neg, zI_add, zI_sub, zI_mul, zI_lt, zI_le, zI_eq, sob, bz_0, Classical.not_not]
    rw [if_neg (show ¬ 1000 ≤ p by omega)]
    refine X6_zero_L k f (p + 1) _ (by omega) (by omega) (by omega) (fun i h0 h1 => ?_)
    rw [upd_at hp h0]
    by_cases e : i = p
    · rw [if_pos e]
    · rw [if_neg e]; exact ho i h0 (by omega)
theorem X6_push_z {pos : Int → Int} {R : List Int} {o fo la un : Nat → Int32} {um : Int32} (h : CuH pos R (o, fo, la, un, um)) {x q : Int} (ok : okT (x :: R)) (hq : pos R.length = q) :
    ∃ z : CuT, mX6_stands o fo la un um (zI x) (zI q) = some z ∧ CuH pos (x :: R) z := by
  obtain ⟨hc, hL, hu⟩ := h
  have hcp := cuA_push hc ok
  have hx := ok.head
  have c1 := cnT_nn R x
  have l1 : R.length + 1 ≤ 120 := by have := ok.1; simpa using this
  have hdl := dsT_len R
  have hA : Ar o 1000 (cnT R) := hc.2.2.1
  unfold mX6_stands
  rw [rd_A hA hx.1 hx.2 (by omega) (by omega), sob]
  by_cases hR : x ∈ R
  · have hpos := (cnT_pos R x).mpr hR
    rw [if_pos (show ¬ zI (cnT R x) = 0 by rw [z_0, zI_eq (by omega) (by omega) (by omega) (by omega)]; omega), sob, wr_in hx.1 (by omega) (by omega), sob, sob, zI_a1, wr_in hx.1 (by omega) (by omega), sob]
    rw [if_pos hR] at hcp
    refine ⟨_, rfl, ?_, ?_, ?_⟩
    · rw [hq] at hcp; exact hcp
    · simp only [dsT, if_pos hR]; exact hL
    · simp only [dsT, if_pos hR]; exact hu
  · have hpos := (cnT_0 R x).mpr hR
    have hu' : um = zI (dsT R).length := hu
    rw [if_neg (show ¬ ¬ zI (cnT R x) = 0 by rw [hpos]; exact fun z => z rfl), wr_in hx.1 (by omega) (by omega), sob, hu', wr_in (by omega) (by omega) (by omega), sob, sob, wr_in hx.1 (by omega) (by omega), sob, sob, zI_a1, wr_in hx.1 (by omega) (by omega), sob]
    rw [if_neg hR] at hcp
    refine ⟨_, rfl, ?_, ?_, ?_⟩
    · rw [hq] at hcp; exact hcp
    · simp only [dsT, if_neg hR]; exact Lr_sn hL x
    · simp only [dsT, if_neg hR]
      show zI _ + 1 = _
      rw [zI_a1, zI_s, List.length_append]
      rfl
theorem X6_counts_eq (value : Nat → Int32) (x2 x3 : Int32) (f : Nat) (x4 : Int32) (o fo la un : Nat → Int32) (um : Int32) (h : ¬ x2 < x4) (h2 : ¬ x4 = x3) :
    mX6_counts_L33 value x2 x3 (f + 1) x4 o fo la un um = (rd value 120 x4).bind fun v => (mX6_stands o fo la un um v x4).bind fun z => mX6_counts_L33 value x2 x3 f (x4 + 1) z.1 z.2.1 z.2.2.1 z.2.2.2.1 z.2.2.2.2 := by
  rw [mX6_counts_L33, if_neg h, if_pos h2]
  simp only [mX6_stands, Option.bind_assoc, Option.bind_some]
theorem X6_counts_L {value weight : Nat → Int32} {n : Int} {V G : Int → Int} (hv : Rv value weight n V G) {pos : Int → Int} {r b : Int} (hr : r < n) (hb : -1 ≤ b ∧ b < 1000) : ∀ (k f : Nat) (p : Int) (R : List Int) (o fo la un : Nat → Int32) (um : Int32), k < f → 0 ≤ p → r + 1 = p + k → R.length + k ≤ 120 → (b < p ∨ r < b) → (∀ i : Int, R.length ≤ i → i < R.length + k → pos i = p + (i - R.length)) → CuH pos R (o, fo, la, un, um) →
    ∃ z : CuT, mX6_counts_L33 value (zI r) (zI b) f (zI p) o fo la un um = some z ∧ CuH pos (spA V p k R) z
  | k, 0, p, R, o, fo, la, un, um, h, _, _, _, _, _, _ => absurd h (Nat.not_lt_zero k)
  | 0, f + 1, p, R, o, fo, la, un, um, _, hp, hk, _, _, _, hC => by
    have hn := hv.1
    simp (disch := omega) only [mX6_counts_L33, z_0, z_1, z_2, z_3, z_4, z_5, z_6, z_7, z_8, z_9, z_12, z_20, z_120, z_121, z_880, z_900, z_999, z_1000, zI_neg, zI_add, zI_sub, zI_mul, zI_lt, zI_le, zI_eq, sob, bz_0, Classical.not_not]
    rw [if_pos (show r < p by omega)]
    exact ⟨_, rfl, hC⟩
  | k + 1, f + 1, p, R, o, fo, la, un, um, h, hp, hk, hl, hbp, hpos, hC => by
    obtain ⟨hn2, hV, hG, hB⟩ := id hv
    have hbv := (hB p (by omega) (by omega)).1
    obtain ⟨z, e1, h1⟩ := X6_push_z hC (x := V p) (q := p) ⟨by rw [List.length_cons]; omega, fun v hv => by
      rcases List.mem_cons.mp hv with e | e
      · rw [e]; exact hbv
      · exact hC.ok.2 v e⟩ (by rw [hpos R.length (by omega) (by omega)]; omega)
    rw [X6_counts_eq _ _ _ _ _ _ _ _ _ _ (by rw [zI_lt (by omega) (by omega) (by omega) (by omega)]; omega) (by rw [zI_eq (by omega) (by omega) (by omega) (by omega)]; omega), rd_A hV hp (by omega) (by omega) (by omega), sob, e1, sob, zI_a1]
    exact X6_counts_L hv hr hb k f (p + 1) (V p :: R) z.1 z.2.1 z.2.2.1 z.2.2.2.1 z.2.2.2.2 (by omega) (by omega) (by omega) (by rw [List.length_cons]; omega) (by omega) (fun i g1 g2 => by
        rw [List.length_cons] at g1 g2 ⊢
        rw [hpos i (by omega) (by omega)]; omega) h1
theorem X6_counts_z {value weight : Nat → Int32} {n : Int} {V G : Int → Int} (hv : Rv value weight n V G) {l r : Int} (hl : 0 ≤ l) (hlr : l ≤ r + 1) (hr : r < n) (o fo la un : Nat → Int32) (um : Int32) :
    ∃ z : CuT, mX6_counts value o fo la un um (zI l) (zI r) (-1) = some z ∧ CuH (fun i => l + i) (spT V l r) z := by
  have hn := hv.1
  obtain ⟨o', e1, h1⟩ := X6_zero_L 1000 FU 0 o (by rw [FU_e]; omega) (by omega) (by omega) (fun i h0 h1 => by omega)
  obtain ⟨z, e2, h2⟩ := X6_counts_L hv (pos := fun i => l + i) hr (b := -1) (by omega) (r + 1 - l).toNat FU l [] o' fo la un 0 (by rw [FU_e]; omega) hl (by omega) (by simp only [List.length_nil]; omega) (Or.inl (by omega)) (fun i _ _ => by simp) ⟨cuA_nil (moT_add hl (by omega)) h1, Lr_nil _, rfl⟩
  refine ⟨z, ?_, h2⟩
  unfold mX6_counts
  rw [show (0 : Int32) = zI 0 from rfl, e1, sob, show zI 0 = (0 : Int32) from rfl, show (-1 : Int32) = zI (-1) from rfl, e2, sob]
theorem X6_modeBy_L {pos : Int → Int} {t : Int} {R : List Int} {z : CuT} (h : CuH pos R z) (ht : 0 ≤ t ∧ t ≤ 3) : ∀ (m i f : Nat) (b : Int), (dsT R).length = i + m → m < f → (b = -1 ∨ b ∈ R) → mX6_modeBy_L4 z.1 z.2.1 z.2.2.1 z.2.2.2.1 z.2.2.2.2 (zI t) f (zI b) (zI (i : Int)) = some (zI (bsF t R ((dsT R).drop i) b))
  | m, i, 0, b, _, h, _ => absurd h (Nat.not_lt_zero m)
  | 0, i, f + 1, b, hl, _, _ => by
    have h120 := dsT_120 h.ok
    rw [mX6_modeBy_L4, h.2.2, if_pos (by rw [zI_le (by omega) (by omega) (by omega) (by omega)]; omega), List.drop_eq_nil_of_le (by omega)]
    rfl
  | m + 1, i, f + 1, b, hl, hm, hb => by
    have h120 := dsT_120 h.ok
    have hi : i < (dsT R).length := by omega
    have hx : (dsT R)[i] ∈ R := (mem_dsT R _).mp (List.getElem_mem hi)
    have hbx := h.ok.2 _ hx
    rw [mX6_modeBy_L4]
    rw [if_neg (show ¬ z.2.2.2.2 ≤ zI (i : Int) by rw [h.2.2, zI_le (by omega) (by omega) (by omega) (by omega)]; omega), rd_L h.2.1 hi h120 (by omega), sob, sob, zI_a1, zI_s, List.drop_eq_getElem_cons hi]
    simp only [bsF, sob]
    by_cases c : b = -1
    · subst c
      rw [if_pos (show zI (-1) = -1 from rfl), if_pos rfl]
      exact X6_modeBy_L h ht m (i + 1) f _ (by omega) (by omega) (Or.inr hx)
    · have hbR : b ∈ R := hb.resolve_left c
      have hbb := h.ok.2 b hbR
      rw [if_neg (show ¬ zI b = -1 by rw [z_m1, zI_eq (by omega) (by omega) (by omega) (by omega)]; exact c), if_neg c, X6_ah h.1 ht hx hbR, sob]
      by_cases d : kyT t R b < kyT t R (dsT R)[i]
      · rw [if_pos d, if_pos d, if_neg i1]
        exact X6_modeBy_L h ht m (i + 1) f _ (by omega) (by omega) (Or.inr hx)
      · rw [if_neg d, if_neg d, if_pos rfl]
        exact X6_modeBy_L h ht m (i + 1) f _ (by omega) (by omega) hb
theorem X6_modeBy_z {pos : Int → Int} {t : Int} {R : List Int} {z : CuT} (h : CuH pos R z) (ht : 0 ≤ t ∧ t ≤ 3) : mX6_modeBy z.1 z.2.1 z.2.2.1 z.2.2.2.1 z.2.2.2.2 (zI t) = some (zI (bsT t R)) := by
  have h120 := dsT_120 h.ok
  unfold mX6_modeBy
  rw [show (-1 : Int32) = zI (-1) from rfl, show (0 : Int32) = zI ((0 : Nat) : Int) from rfl, X6_modeBy_L h ht (dsT R).length 0 FU (-1) (by omega) (by rw [FU_e]; omega) (Or.inl rfl), sob]
  rfl
theorem X6_modeOf_z {value weight : Nat → Int32} {n : Int} {V G : Int → Int} (hv : Rv value weight n V G) {t l r : Int} (ht : 0 ≤ t ∧ t ≤ 3) (hl : 0 ≤ l) (hlr : l ≤ r + 1) (hr : r < n) (o fo la un : Nat → Int32) (um : Int32) :
    ∃ z : CuT, mX6_modeOf value (zI t) o fo la un um (zI l) (zI r) = some (zI (bsT t (spT V l r)), z) ∧ CuH (fun i => l + i) (spT V l r) z := by
  obtain ⟨z, e, h⟩ := X6_counts_z hv hl hlr hr o fo la un um
  refine ⟨z, ?_, h⟩
  unfold mX6_modeOf
  rw [e, sob, X6_modeBy_z h ht, sob]
theorem X6_told_z {l : Int} {R : List Int} {z : CuT} (h : CuH (fun i => l + i) R z) {v w : Int} (hv : v ∈ R) (hw : 0 ≤ w ∧ w < 4) : mX6_told z.1 z.2.1 z.2.2.1 (zI v) (zI w) = some (zI (tdT R l v w)) := by
  obtain ⟨⟨ok, hm, hA, hG⟩, hL, hu⟩ := h
  have hb := ok.2 v hv
  unfold mX6_told tdT
  simp (disch := omega) only [rd_A hA, rd_in, (hG v hv).1, (hG v hv).2, z_0, z_1, z_2, z_3, z_4, z_5, z_6, z_7, z_8, z_9, z_12, z_20, z_120, z_121, z_880, z_900, z_999, z_1000, zI_neg, zI_add, zI_sub, zI_mul, zI_lt, zI_le, zI_eq, sob, bz_0, Classical.not_not]
  by_cases a : w = 0
  · rw [if_neg (not_not_intro a), if_pos a]
  · rw [if_pos a, if_neg a]
    by_cases b : w = 1
    · rw [if_neg (not_not_intro b), if_pos b]
    · rw [if_pos b, if_neg b]
      by_cases c : w = 2
      · rw [if_neg (not_not_intro c), if_pos c]
      · rw [if_pos c, if_neg c]

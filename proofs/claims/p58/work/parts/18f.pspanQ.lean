/-! what the class answers of a span -/
theorem sr_ge {t : Int} {R S : List Int} (h : S.Pairwise (fun a b => kyT t R b < kyT t R a)) {i j : Nat} (hij : i < j) (hj : j < S.length) : kyT t R (S[j]) < kyT t R (S[i]'(by omega)) := List.pairwise_iff_getElem.mp h i j (by omega) hj hij
theorem sr_uq {t : Int} {R S S2 : List Int} (h : srT t R S) (h2 : srT t R S2) {i : Nat} (hi : i < S.length) (hi2 : i < S2.length) : S[i] = S2[i] := by
  have r1 := srT_rk h hi
  have r2 := srT_rk h2 hi2
  have hm : S2[i] ∈ S := (srT_mem h).mpr ((srT_mem h2).mp (List.getElem_mem hi2))
  obtain ⟨j, hj, e⟩ := List.getElem_of_mem hm
  have r3 := srT_rk h hj
  rw [e] at r3
  have : i = j := by omega
  subst this
  exact e
theorem sr_0 {t : Int} {R S : List Int} (ok : okT R) (h : srT t R S) (h0 : 0 < S.length) : S[0] = bsT t R := by
  have hm : S[0] ∈ R := (srT_mem h).mp (List.getElem_mem h0)
  refine isB_uq ok (Or.inr ⟨hm, fun w hw => ?_⟩) (bsT_isB ok)
  obtain ⟨j, hj, e⟩ := List.getElem_of_mem ((srT_mem h).mpr hw)
  by_cases c : j = 0
  · subst c; rw [← e]; exact Int.le_refl _
  · have := sr_ge h.2 (show 0 < j by omega) hj
    rw [e] at this; omega
section
variable {row : RowT} {n l r t : Int} {V G : Int → Int} {T : TalT}
theorem q_mode (hR : Rw row n V G) (c : 0 ≤ l ∧ l ≤ r ∧ r < n) (ht : 0 ≤ t ∧ t ≤ 3) (hT : TalC T) {w : Int} (hw : 0 ≤ w ∧ w < 4) : ∃ T', mX5_mode (zI t) row T (zI l) (zI r) (zI w) = some (zI (tdT (spT V l r) l (bsT t (spT V l r)) w), T') ∧ TalC T' := by
  obtain ⟨hs, hn⟩ := hR.ok
  obtain ⟨T', e1, h1⟩ := X5_tallySpan_z hR ht c.1 (by omega) c.2.2 hT
  have hm := bsT_mem (t := t) h1.ok (spT_ne c.2.1)
  refine ⟨T', ?_, h1.clean⟩
  unfold mX5_mode
  rw [X2_hasSpan_z hs hn (by omega) (by omega), sob, bz_t c, if_neg i1, z_4, X5_isBelow_z (by omega) (by omega), sob, bz_t hw, if_pos i1, e1, sob, h1.best, X3_told_z (t := t) h1.1 hm hw, sob]
theorem q_ranked (hR : Rw row n V G) (c : 0 ≤ l ∧ l ≤ r ∧ r < n) (ht : 0 ≤ t ∧ t ≤ 3) (hT : TalC T) {S : List Int} (hS : srT t (spT V l r) S) {k : Nat} {w : Int} (hw : 0 ≤ w ∧ w < 4) (hk : k ≤ S.length) : ∃ T', mX5_ranked (zI t) row T (zI l) (zI r) (zI k) (zI w) = some (zI (if k < S.length then tdT (spT V l r) l (S.getD k 0) w else -2), T') ∧ TalC T' := by
  obtain ⟨hs, hn⟩ := hR.ok
  obtain ⟨T', e1, h1⟩ := X5_tallySpan_z hR ht c.1 (by omega) c.2.2 hT
  obtain ⟨T2, S2, e3, h3⟩ := X3_order_z h1
  have hsl := srT_len h3.2.1
  have hsl0 := srT_len hS
  have h120 := dsT_120 h1.ok
  unfold mX5_ranked
  rw [X2_hasSpan_z hs hn (by omega) (by omega), sob, bz_t c, if_neg i1, if_neg (show ¬ zI (k : Int) < 0 by rw [z_0, zI_lt (by omega) (by omega) (by omega) (by omega)]; omega), z_4, X5_isBelow_z (by omega) (by omega), sob, bz_t hw, if_pos i1, e1, sob, h1.kinds]
  by_cases g : k < S.length
  · have hi : k < S2.length := by omega
    have hm : S2[k] ∈ spT V l r := (srT_mem h3.2.1).mp (List.getElem_mem hi)
    have hmb := h1.ok.2 _ hm
    have e : S.getD k 0 = S2[k] := by
      rw [List.getD_eq_getElem?_getD, List.getElem?_eq_getElem g]
      exact sr_uq hS h3.2.1 g hi
    rw [if_pos (show zI (k : Int) < zI (dsT (spT V l r)).length by rw [zI_lt (by omega) (by omega) (by omega) (by omega)]; omega), e3, sob, rd_L h3.2.2.1 hi (by omega) (by omega), sob, X3_told_z (t := t) h3.1 hm hw, sob, if_pos g, e]
    exact ⟨_, rfl, h3.clean⟩
  · rw [if_neg (show ¬ zI (k : Int) < zI (dsT (spT V l r)).length by rw [zI_lt (by omega) (by omega) (by omega) (by omega)]; omega), if_neg g]
    exact ⟨_, rfl, h1.clean⟩
theorem q_rank (hR : Rw row n V G) (c : 0 ≤ l ∧ l ≤ r ∧ r < n) (ht : 0 ≤ t ∧ t ≤ 3) (hT : TalC T) {v : Int} (hv : v ∈ spT V l r) : ∃ T', mX5_rank (zI t) row T (zI l) (zI r) (zI v) = some (zI (rkT t (spT V l r) v (dsT (spT V l r))), T') ∧ TalC T' := by
  obtain ⟨hs, hn⟩ := hR.ok
  obtain ⟨T', e1, h1⟩ := X5_tallySpan_z hR ht c.1 (by omega) c.2.2 hT
  have hvb := h1.ok.2 v hv
  have hc := (cnT_pos (spT V l r) v).mpr hv
  have hcn := cnT_nn (spT V l r) v
  have h120 := h1.ok.1
  have hd := dsT_len (spT V l r)
  refine ⟨T', ?_, h1.clean⟩
  unfold mX5_rank
  rw [X2_hasSpan_z hs hn (by omega) (by omega), sob, bz_t c, if_neg i1, X5_isValue_z (by omega), sob, bz_t hvb, if_pos i1, e1, sob, rd_A h1.num hvb.1 hvb.2 (by omega) (by omega), sob, if_pos (show ¬ zI (cnT (spT V l r) v) = 0 by rw [z_0, zI_eq (by omega) (by omega) (by omega) (by omega)]; omega)]
  have hL := X5_rank_L h1 hv (dsT (spT V l r)).length 0 FU 0 (by omega) (by rw [FU_e]; omega)
  rw [show zI ((0 : Nat) : Int) = (0 : Int32) from rfl, show zI (0 : Int) = (0 : Int32) from rfl, List.drop_zero, Int.zero_add] at hL
  rw [hL, sob]
theorem ocT_sp (V : Int → Int) (v : Int) : ∀ (k : Nat) (p : Int) (R : List Int), cnT (spA V p k R) v = cnT R v + ocT V v p k
  | 0, p, R => by rw [spA, ocT, Int.add_zero]
  | k + 1, p, R => by
    rw [spA, ocT_sp V v k (p + 1), cnT, ocT]
    by_cases c : V p = v
    · rw [if_pos c.symm, if_pos c]; omega
    · rw [if_neg (fun h => c h.symm), if_neg c]; omega
theorem q_often (hR : Rw row n V G) (c : 0 ≤ l ∧ l ≤ r ∧ r < n) {v : Int} (hv : 0 ≤ v ∧ v < 1000) : mX5_often row (zI l) (zI r) (zI v) = some (zI (cnT (spT V l r) v)) := by
  obtain ⟨hs, hn⟩ := hR.ok
  unfold mX5_often
  rw [X2_hasSpan_z hs hn (by omega) (by omega), sob, bz_t c, if_neg i1, X5_isValue_z (by omega), sob, bz_t hv, if_pos i1, X2_howOften_z hR hv c.1 (by omega) c.2.2, sob]
  unfold spT
  rw [ocT_sp, cnT, Int.zero_add]
theorem q_ifTies (hR : Rw row n V G) (c : 0 ≤ l ∧ l ≤ r ∧ r < n) (ht : 0 ≤ t ∧ t ≤ 3) (hT : TalC T) : ∃ T', mX5_ifTies row T (zI t) (zI l) (zI r) = some (zI (bsT t (spT V l r)), T') ∧ TalC T' := by
  obtain ⟨hs, hn⟩ := hR.ok
  obtain ⟨T1, e1, h1⟩ := X3_begin_z hT (t := t) (by omega)
  obtain ⟨T2, e2, h2⟩ := X5_span_L hR c.2.2 (r + 1 - l).toNat FU l [] T1 (by rw [FU_e]; omega) c.1 (by omega) (by simp only [List.length_nil]; omega) h1
  refine ⟨T2, ?_, h2.clean⟩
  unfold mX5_ifTies
  rw [if_neg (show ¬ zI t < 0 by rw [z_0, zI_lt (by omega) (by omega) (by omega) (by omega)]; omega), if_neg (show ¬ 3 < zI t by rw [z_3, zI_lt (by omega) (by omega) (by omega) (by omega)]; omega), X2_hasSpan_z hs hn (by omega) (by omega), sob, bz_t c]
  first
    | rw [if_neg i1, e1, sob, X5_ifTies_L, e2, sob, h2.best]; rfl
    | rw [if_pos i1, e1, sob, X5_ifTies_L, e2, sob, h2.best]; rfl
theorem q_unlike (hR : Rw row n V G) (c : 0 ≤ l ∧ l ≤ r ∧ r < n) (ht : 0 ≤ t ∧ t ≤ 3) (hT : TalC T) : ∃ T', mX5_unlike (zI t) row T (zI l) (zI r) = some (zI (dsT (spT V l r)).length, T') ∧ TalC T' := by
  obtain ⟨hs, hn⟩ := hR.ok
  obtain ⟨T', e1, h1⟩ := X5_tallySpan_z hR ht c.1 (by omega) c.2.2 hT
  refine ⟨T', ?_, h1.clean⟩
  unfold mX5_unlike
  rw [X2_hasSpan_z hs hn (by omega) (by omega), sob, bz_t c]
  first
    | rw [if_neg i1, e1, sob, h1.kinds]
    | rw [if_pos i1, e1, sob, h1.kinds]
theorem q_majority (hR : Rw row n V G) (c : 0 ≤ l ∧ l ≤ r ∧ r < n) (ht : 0 ≤ t ∧ t ≤ 3) (hT : TalC T) : ∃ T', mX5_majority (zI t) row T (zI l) (zI r) = some (zI (if ((spT V l r).length : Int) < 2 * cnT (spT V l r) (bsT t (spT V l r)) then bsT t (spT V l r) else -2), T') ∧ TalC T' := by
  obtain ⟨hs, hn⟩ := hR.ok
  obtain ⟨T', e1, h1⟩ := X5_tallySpan_z hR ht c.1 (by omega) c.2.2 hT
  refine ⟨T', ?_, h1.clean⟩
  unfold mX5_majority
  rw [X2_hasSpan_z hs hn (by omega) (by omega), sob, bz_t c, if_pos i1, e1, sob, X3_hasMajority_z h1 (spT_ne c.2.1), sob, h1.best]
  by_cases d : ((spT V l r).length : Int) < 2 * cnT (spT V l r) (bsT t (spT V l r))
  · rw [bz_t d, if_neg i1, if_pos d]
  · rw [bz_f d, if_pos rfl, if_neg d]; rfl
/-- the heaviest: of those that weigh most, the first by rank -/
def isHv (t : Int) (R : List Int) (ow : Int → Int) (v : Int) : Prop := v ∈ R ∧ ∀ w ∈ R, ow w < ow v ∨ (ow w = ow v ∧ kyT t R w ≤ kyT t R v)
theorem isHv_uq {t : Int} {R : List Int} (ok : okT R) {ow : Int → Int} {a b : Int} (h : isHv t R ow a) (h2 : isHv t R ow b) : a = b := by
  rcases h.2 b h2.1 with g | g
  · rcases h2.2 a h.1 with g2 | g2 <;> omega
  · rcases h2.2 a h.1 with g2 | g2
    · omega
    · exact kyT_inj ok t h.1 h2.1 (by omega)
theorem q_heavy_L (hR : Rw row n V G) (c : 0 ≤ l ∧ l ≤ r ∧ r < n) (h : TalH t (spT V l r) T) : ∀ (m i F : Nat) (a w : Int), (dsT (spT V l r)).length = i + m → m < F → a ∈ spT V l r → (w = 0 ∧ i = 0 ∨ (w = owT V G a l (r + 1 - l).toNat ∧ ∀ x ∈ (dsT (spT V l r)).take i, owT V G x l (r + 1 - l).toNat < w ∨ (owT V G x l (r + 1 - l).toNat = w ∧ kyT t (spT V l r) x ≤ kyT t (spT V l r) a))) →
    ∃ a', mX5_heaviest_L43 row T (zI l) (zI r) F (zI a) (zI w) (zI (i : Int)) = some (zI a', zI (owT V G a' l (r + 1 - l).toNat)) ∧ isHv t (spT V l r) (fun x => owT V G x l (r + 1 - l).toNat) a'
  | m, i, 0, a, w, _, h1, _, _ => absurd h1 (Nat.not_lt_zero m)
  | 0, i, F + 1, a, w, hm, _, ha, hI => by
    have h120 := dsT_120 h.ok
    have hne : (dsT (spT V l r)).length ≠ 0 := fun z => dsT_ne (spT_ne c.2.1) (List.eq_nil_of_length_eq_zero z)
    rw [mX5_heaviest_L43, h.kinds, if_pos (show zI (dsT (spT V l r)).length ≤ zI (i : Int) by rw [zI_le (by omega) (by omega) (by omega) (by omega)]; omega)]
    rcases hI with ⟨_, hi⟩ | ⟨hw, hx⟩
    · omega
    · refine ⟨a, by rw [hw], ha, fun x hxm => ?_⟩
      have := hx x (by rw [List.take_of_length_le (by omega)]; exact (mem_dsT _ _).mpr hxm)
      show owT V G x l (r + 1 - l).toNat < owT V G a l (r + 1 - l).toNat ∨ _
      rw [hw] at this
      exact this
  | m + 1, i, F + 1, a, w, hm, hF, ha, hI => by
    have h120 := dsT_120 h.ok
    have hn := hR.1
    have hi : i < (dsT (spT V l r)).length := by omega
    have hvm : (dsT (spT V l r))[i] ∈ spT V l r := (mem_dsT _ _).mp (List.getElem_mem hi)
    obtain ⟨v, hv⟩ : ∃ v, (dsT (spT V l r))[i] = v := ⟨_, rfl⟩
    rw [hv] at hvm
    have hvb := h.ok.2 v hvm
    have hG : ∀ i, 0 ≤ i → i < n → 1 ≤ G i ∧ G i ≤ 9 := fun i h0 h1 => (hR.2.2.2.2 i h0 h1).2
    have o1 := owT_nn (V := V) hG v (r + 1 - l).toNat l c.1 (by omega)
    have o2 := owT_nn (V := V) hG a (r + 1 - l).toNat l c.1 (by omega)
    have o3 : 1 ≤ owT V G v l (r + 1 - l).toNat := by
      refine owT_pos (V := V) hG v (r + 1 - l).toNat l c.1 (by omega) ?_
      obtain ⟨j, g1, g2, g3⟩ := spT_mem.mp hvm
      exact ⟨j, g1, by omega, g3⟩
    have wb : 0 ≤ w ∧ w ≤ 2000 := by rcases hI with ⟨z, _⟩ | ⟨z, _⟩ <;> omega
    have tk : (dsT (spT V l r)).take (i + 1) = (dsT (spT V l r)).take i ++ [v] := by rw [List.take_succ, List.getElem?_eq_getElem hi, hv]; rfl
    rw [mX5_heaviest_L43, h.kinds, if_neg (show ¬ zI (dsT (spT V l r)).length ≤ zI (i : Int) by rw [zI_le (by omega) (by omega) (by omega) (by omega)]; omega), rd_L h.kind hi (by omega) (by omega), sob, hv, X2_weightOf_z hR hvb c.1 (by omega) c.2.2, sob, zI_a1, zI_s]
    by_cases d : w < owT V G v l (r + 1 - l).toNat
    · rw [if_pos (show zI w < zI (owT V G v l (r + 1 - l).toNat) by rw [zI_lt (by omega) (by omega) (by omega) (by omega)]; exact d)]
      refine q_heavy_L hR c h m (i + 1) F v _ (by omega) (by omega) hvm (Or.inr ⟨rfl, fun x hx => ?_⟩)
      rw [tk] at hx
      rcases List.mem_append.mp hx with hx | hx
      · rcases hI with ⟨_, z⟩ | ⟨_, z⟩
        · subst z; simp at hx
        · rcases z x hx with z | z <;> omega
      · rw [List.mem_singleton.mp hx]; exact Or.inr ⟨rfl, Int.le_refl _⟩
    · rw [if_neg (show ¬ zI w < zI (owT V G v l (r + 1 - l).toNat) by rw [zI_lt (by omega) (by omega) (by omega) (by omega)]; exact d)]
      rcases hI with ⟨z, _⟩ | ⟨hw, hx⟩
      · omega
      by_cases g : owT V G v l (r + 1 - l).toNat = w
      · rw [if_neg (show ¬ ¬ zI (owT V G v l (r + 1 - l).toNat) = zI w by rw [g]; exact not_not_intro rfl), X3_isAhead_z h hvm ha, sob]
        by_cases y : kyT t (spT V l r) a < kyT t (spT V l r) v
        · rw [if_pos y, if_neg i1]
          refine q_heavy_L hR c h m (i + 1) F v _ (by omega) (by omega) hvm (Or.inr ⟨rfl, fun x hxx => ?_⟩)
          rw [tk] at hxx
          rcases List.mem_append.mp hxx with hxx | hxx
          · rcases hx x hxx with z | z
            · exact Or.inl (by omega)
            · exact Or.inr ⟨by omega, by omega⟩
          · rw [List.mem_singleton.mp hxx]; exact Or.inr ⟨rfl, Int.le_refl _⟩
        · rw [if_neg y, if_pos rfl]
          refine q_heavy_L hR c h m (i + 1) F a w (by omega) (by omega) ha (Or.inr ⟨hw, fun x hxx => ?_⟩)
          rw [tk] at hxx
          rcases List.mem_append.mp hxx with hxx | hxx
          · exact hx x hxx
          · rw [List.mem_singleton.mp hxx]; exact Or.inr ⟨g, by omega⟩
      · rw [if_pos (show ¬ zI (owT V G v l (r + 1 - l).toNat) = zI w by rw [zI_eq (by omega) (by omega) (by omega) (by omega)]; exact g)]
        refine q_heavy_L hR c h m (i + 1) F a w (by omega) (by omega) ha (Or.inr ⟨hw, fun x hxx => ?_⟩)
        rw [tk] at hxx
        rcases List.mem_append.mp hxx with hxx | hxx
        · exact hx x hxx
        · rw [List.mem_singleton.mp hxx]; exact Or.inl (by omega)
theorem q_heaviest (hR : Rw row n V G) (c : 0 ≤ l ∧ l ≤ r ∧ r < n) (ht : 0 ≤ t ∧ t ≤ 3) (hT : TalC T) {a : Int} (ha : isHv t (spT V l r) (fun x => owT V G x l (r + 1 - l).toNat) a) : (∃ T', mX5_heaviest (zI t) row T (zI l) (zI r) 0 = some (zI a, T') ∧ TalC T') ∧ (∃ T', mX5_heaviest (zI t) row T (zI l) (zI r) 1 = some (zI (owT V G a l (r + 1 - l).toNat), T') ∧ TalC T') := by
  obtain ⟨hs, hn⟩ := hR.ok
  obtain ⟨T', e1, h1⟩ := X5_tallySpan_z hR ht c.1 (by omega) c.2.2 hT
  have h120 := dsT_120 h1.ok
  obtain ⟨a', e2, h2⟩ := q_heavy_L hR c h1 (dsT (spT V l r)).length 0 FU (bsT t (spT V l r)) 0 (by omega) (by rw [FU_e]; omega) (bsT_mem h1.ok (spT_ne c.2.1)) (Or.inl ⟨rfl, rfl⟩)
  rw [isHv_uq h1.ok h2 ha, show zI ((0 : Nat) : Int) = (0 : Int32) from rfl, show zI (0 : Int) = (0 : Int32) from rfl, ← h1.best] at e2
  constructor
  · refine ⟨T', ?_, h1.clean⟩
    unfold mX5_heaviest
    rw [X2_hasSpan_z hs hn (by omega) (by omega), sob, bz_t c, if_neg i1, show mX5_isBelow 0 2 = some 1 from (X5_isBelow_z (w := 0) (b := 2) (by omega) (by omega)).trans (by rw [bz_t (by omega)]), sob, if_pos i1, e1, sob, e2, sob]
    rfl
  · refine ⟨T', ?_, h1.clean⟩
    unfold mX5_heaviest
    rw [X2_hasSpan_z hs hn (by omega) (by omega), sob, bz_t c, if_neg i1, show mX5_isBelow 1 2 = some 1 from (X5_isBelow_z (w := 1) (b := 2) (by omega) (by omega)).trans (by rw [bz_t (by omega)]), sob, if_pos i1, e1, sob, e2, sob]
    rfl
end

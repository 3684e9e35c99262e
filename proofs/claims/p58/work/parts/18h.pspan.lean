/-! isSpan: true -/
theorem spsum_L {f g : Nat → Int32} {n : Nat} {V G : Int → Int} {v r : Int} (hf : Ar f n V) (hg : Ar g n G) (hn : n ≤ 100) (hr : r < n) (hV : ∀ i : Int, 0 ≤ i → i < n → 0 ≤ V i ∧ V i < 9) (hv : 0 ≤ v ∧ v < 9) : ∀ (k F : Nat) (a p : Int), k < F → 0 ≤ p → r + 1 = p + k → mL_isSpan_L50 n n f g (zI r) (zI v) F (zI a) (zI p) = some (zI (a + owT V G v p k))
  | k, 0, a, p, h, _, _ => absurd h (Nat.not_lt_zero k)
  | 0, F + 1, a, p, _, h0, hk => by
    rw [mL_isSpan_L50, if_pos (show zI r < zI p by rw [zI_lt (by omega) (by omega) (by omega) (by omega)]; omega), owT, Int.add_zero]
  | k + 1, F + 1, a, p, h, h0, hk => by
    have b := hV p h0 (by omega)
    rw [mL_isSpan_L50, if_neg (show ¬ zI r < zI p by rw [zI_lt (by omega) (by omega) (by omega) (by omega)]; omega), rd_A hf (by omega) (by omega) (by omega) (by omega), sob, owT]
    by_cases c : V p = v
    · rw [if_neg (show ¬ ¬ zI (V p) = zI v by rw [c]; exact not_not_intro rfl), rd_A hg (by omega) (by omega) (by omega) (by omega), sob, zI_add, zI_a1, spsum_L hf hg hn hr hV hv k F _ (p + 1) (by omega) (by omega) (by omega), if_pos c, Int.add_assoc]
    · rw [if_pos (show ¬ zI (V p) = zI v by rw [zI_eq (by omega) (by omega) (by omega) (by omega)]; exact c), zI_a0, zI_a1, spsum_L hf hg hn hr hV hv k F a (p + 1) (by omega) (by omega) (by omega), if_neg c, Int.zero_add]
theorem rgZ_len : ∀ (k : Nat) (j : Int), (rgZ j k).length = k
  | 0, j => rfl
  | k + 1, j => by rw [rgZ, List.length_cons, rgZ_len k]
theorem ds_perm {R : List Int} (ok : okT R) (h12 : ∀ v ∈ R, v < 12) : ((rgZ 0 12).filter (fun w => decide (w ∈ R))).Perm (dsT R) := by
  refine (List.perm_ext_iff_of_nodup ((rgZ_nd 12 0).filter _) (dsT_nd R)).mpr (fun a => ?_)
  rw [List.mem_filter, mem_dsT, rgZ_mem, decide_eq_true_eq]
  constructor
  · exact fun h => h.2
  · intro h
    have := ok.2 a h
    have := h12 a h
    exact ⟨by omega, h⟩
section
variable {row : RowT} {n : Nat} {l r t : Int} {V G : Int → Int}
theorem ex_S (hR : Rw row n V G) (c : 0 ≤ l ∧ l ≤ r ∧ r < n) {t : Int} (ht : 0 ≤ t ∧ t ≤ 3) {T : TalT} (hT : TalC T) : ∃ S, srT t (spT V l r) S ∧ 0 < S.length := by
  obtain ⟨T', e1, h1⟩ := X5_tallySpan_z hR ht c.1 (by omega) c.2.2 hT
  obtain ⟨T2, S2, e3, h3⟩ := X3_order_z h1
  refine ⟨S2, h3.2.1, ?_⟩
  have h := srT_len h3.2.1
  have hne : (dsT (spT V l r)).length ≠ 0 := fun z => dsT_ne (spT_ne c.2.1) (List.eq_nil_of_length_eq_zero z)
  omega
theorem sgD {S : List Int} {i : Nat} (h : i < S.length) : S.getD i 0 = S[i] := by rw [List.getD_eq_getElem?_getD, List.getElem?_eq_getElem h]; rfl
theorem tie_L (hR : Rw row n V G) (c : 0 ≤ l ∧ l ≤ r ∧ r < n) {cC : Nat → Nat → Int32} (hC : CcH cC (spT V l r) l) (K : TalT → Option (Int32 × TalT)) : ∀ (m F : Nat) (j : Int) (T : TalT), m < F → 0 ≤ j → 4 = j + m → TalC T → ∃ T', TalC T' ∧ mL_isSpan_L245 K row cC (zI l) (zI r) F (zI j) T = K T'
  | m, 0, j, T, h, _, _, _ => absurd h (Nat.not_lt_zero m)
  | 0, F + 1, j, T, _, h0, hk, hT => by
    rw [mL_isSpan_L245, if_pos (show (4 : Int32) ≤ zI j by rw [z_4, zI_le (by omega) (by omega) (by omega) (by omega)]; omega)]
    exact ⟨T, hT, rfl⟩
  | m + 1, F + 1, j, T, h, h0, hk, hT => by
    obtain ⟨T1, e1, h1⟩ := q_ifTies hR c (t := j) (by omega) hT
    obtain ⟨S, hS, h0S⟩ := ex_S hR c (t := j) (by omega) hT
    have ez := ranked_z hC (by omega) hS (i := 0) (by omega)
    rw [if_pos h0S, sgD h0S, sr_0 hC.1.1 hS h0S, show zI ((0 : Nat) : Int) = (0 : Int32) from rfl] at ez
    rw [mL_isSpan_L245, if_neg (show ¬ (4 : Int32) ≤ zI j by rw [z_4, zI_le (by omega) (by omega) (by omega) (by omega)]; omega), e1, sob, ez, sob, if_pos rfl, zI_a1]
    exact tie_L hR c hC K m F (j + 1) T1 (by omega) (by omega) (by omega) h1
theorem due_L (hR : Rw row n V G) (c : 0 ≤ l ∧ l ≤ r ∧ r < n) (ht : 0 ≤ t ∧ t ≤ 3) {S : List Int} (hS : srT t (spT V l r) S) (ok : okT (spT V l r)) {k : Nat} (hk : k < S.length) {w : Nat → Int32} (hw : ∀ j : Int, 0 ≤ j → j < 4 → w j.toNat = zI (tdT (spT V l r) l (S[k]) j)) (K : TalT → Option (Int32 × TalT)) : ∀ (m F : Nat) (j : Int) (T : TalT), m < F → 0 ≤ j → 4 = j + m → TalC T → ∃ T', TalC T' ∧ mL_isSpan_L143 K (zI t) row w (zI l) (zI r) (zI (k : Int)) F (zI j) T = K T'
  | m, 0, j, T, h, _, _, _ => absurd h (Nat.not_lt_zero m)
  | 0, F + 1, j, T, _, h0, hj, hT => by
    rw [mL_isSpan_L143, if_pos (show (4 : Int32) ≤ zI j by rw [z_4, zI_le (by omega) (by omega) (by omega) (by omega)]; omega)]
    exact ⟨T, hT, rfl⟩
  | m + 1, F + 1, j, T, h, h0, hj, hT => by
    obtain ⟨T1, e1, h1⟩ := q_ranked hR c ht hT hS (k := k) (w := j) (by omega) (by omega)
    rw [if_pos hk, sgD hk] at e1
    have hd := dsT_120 ok
    have hsl := srT_len hS
    have hrd : rd w 4 (zI j) = some (zI (tdT (spT V l r) l (S[k]) j)) := by rw [rd_in h0 (by omega) (by omega), hw j h0 (by omega)]
    rw [mL_isSpan_L143, if_neg (show ¬ (4 : Int32) ≤ zI j by rw [z_4, zI_le (by omega) (by omega) (by omega) (by omega)]; omega), e1, sob, hrd, sob, if_neg (show ¬ ¬ zI (tdT (spT V l r) l (S[k]) j) = zI (tdT (spT V l r) l (S[k]) j) from not_not_intro rfl)]
    by_cases k0 : k = 0
    · subst k0
      obtain ⟨T2, e2, h2⟩ := q_mode hR c ht h1 (w := j) (by omega)
      rw [if_neg (show ¬ ¬ zI ((0 : Nat) : Int) = 0 from not_not_intro rfl)]
      show ∃ T', TalC T' ∧ ((mX5_mode (zI t) row T1 (zI l) (zI r) (zI j)).bind _) = K T'
      rw [e2, sob, sob, sr_0 ok hS hk, zI_a1, if_pos rfl]
      have hw0 := hw
      exact due_L hR c ht hS ok hk hw0 K m F (j + 1) T2 (by omega) (by omega) (by omega) h2
    · rw [if_pos (show ¬ zI (k : Int) = 0 by rw [z_0, zI_eq (by omega) (by omega) (by omega) (by omega)]; omega), zI_a1]
      exact due_L hR c ht hS ok hk hw K m F (j + 1) T1 (by omega) (by omega) (by omega) h1
theorem wr4_0 (w : Nat → Int32) (x : Int32) : wr w 4 0 x = some (upd w 0 x) := rfl
theorem wr4_1 (w : Nat → Int32) (x : Int32) : wr w 4 1 x = some (upd w 1 x) := rfl
theorem wr4_2 (w : Nat → Int32) (x : Int32) : wr w 4 2 x = some (upd w 2 x) := rfl
theorem wr4_3 (w : Nat → Int32) (x : Int32) : wr w 4 3 x = some (upd w 3 x) := rfl
def hvI (t : Int) (R S : List Int) (ow : Int → Int) (k : Nat) (x8 x9 : Int) : Prop := (k = 0 ∧ x8 = -1 ∧ x9 = 0) ∨ (x8 ∈ S.take k ∧ x9 = ow x8 ∧ ∀ x ∈ S.take k, ow x < ow x8 ∨ (ow x = ow x8 ∧ kyT t R x ≤ kyT t R x8))
theorem take_s {S : List Int} {k : Nat} (h : k < S.length) : S.take (k + 1) = S.take k ++ [S[k]] := by rw [List.take_succ, List.getElem?_eq_getElem h]; rfl
end

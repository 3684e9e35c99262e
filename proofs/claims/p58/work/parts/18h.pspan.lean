/-! isSpan: true -/
theorem spsum_L {f g : Nat → Int32} {n : Nat} {V G : Int → Int} {v r : Int} (hf : Ar f n V) (hg : Ar g n G) (hn : n ≤ 100) (hr : r < n) (hV : ∀ i : Int, 0 ≤ i → i < n → 0 ≤ V i ∧ V i < 9) (hv : 0 ≤ v ∧ v < 9) : ∀ (k F : Nat) (a p : Int), k < F → 0 ≤ p → r + 1 = p + k → mL_isSpan_L50 n n f g (zI r) (zI v) F (zI a) (zI p) = some (zI (a + owT V G v p k))
  | k, 0, a, p, h, _, _ => absurd h (Nat.not_lt_zero k)
  | 0, F + 1, a, p, _, h0, hk => by
    rw [mL_isSpan_L50, if_pos (show zI r < zI p by rw [zI_lt (by omega) (by omega) (by omega) (by omega)]; omega), owT, Int.add_zero]
  | k + 1, F + 1, a, p, h, h0, hk => by
    have b := hV p h0 (by omega)
    rw [mL_isSpan_L50, if_neg (show ¬ zI r < zI p by rw [zI_lt (by omega) (by omega) (by omega) (by omega)]; omega), rd_A hf (by omega) (by omega) (by omega) (by omega), sob, owT]
    by_cases c : V p = v
    · rw [if_neg (show ¬ ¬ zI (V p) = zI v by rw [c]; exact not_not_intro rfl), rd_A hg (by omega) (by omega) (by omega) (by omega), sob, zI_add, zI_a1, spsum_L hf hg hn hr hV hv k F _ (p + 1) (by omega) (by omega) (by omega), if_pos c, Int.add_assoc]
    · rw [if_pos (show ¬ zI (V p) = zI v by rw [zI_eq (by omega) (by omega) (by omega) (by omega)]; exact c), zI_a0, zI_a1, spsum_L hf hg hn hr hV hv k F a (p + 1) (by omega) (by omega) (by omega), if_neg c, Int.zero_add]
theorem rgZ_len : ∀ (k : Nat) (j : Int), (rgZ j k).length = k
  | 0, j => rfl
  | k + 1, j => by rw [rgZ, List.length_cons, rgZ_len k]
theorem ds_perm {R : List Int} (ok : okT R) (h12 : ∀ v ∈ R, v < 12) : ((rgZ 0 12).filter (fun w => decide (w ∈ R))).Perm (dsT R) := by
  refine (List.perm_ext_iff_of_nodup ((rgZ_nd 12 0).filter _) (dsT_nd R)).mpr (fun a => ?_)
  rw [List.mem_filter, mem_dsT, rgZ_mem, decide_eq_true_eq]
  constructor
  · exact fun h => h.2
  · intro h
    have := ok.2 a h
    have := h12 a h
    exact ⟨by omega, h⟩
section
variable {row : RowT} {n : Nat} {l r t : Int} {V G : Int → Int}
theorem ex_S (hR : Rw row n V G) (c : 0 ≤ l ∧ l ≤ r ∧ r < n) {t : Int} (ht : 0 ≤ t ∧ t ≤ 3) {T : TalT} (hT : TalC T) : ∃ S, srT t (spT V l r) S ∧ 0 < S.length := by
  obtain ⟨T', e1, h1⟩ := X5_tallySpan_z hR ht c.1 (by omega) c.2.2 hT
  obtain ⟨T2, S2, e3, h3⟩ := X3_order_z h1
  refine ⟨S2, h3.2.1, ?_⟩
  have h := srT_len h3.2.1
  have hne : (dsT (spT V l r)).length ≠ 0 := fun z => dsT_ne (spT_ne c.2.1) (List.eq_nil_of_length_eq_zero z)
  omega
theorem sgD {S : List Int} {i : Nat} (h : i < S.length) : S.getD i 0 = S[i] := by rw [List.getD_eq_getElem?_getD, List.getElem?_eq_getElem h]; rfl
theorem tie_L (hR : Rw row n V G) (c : 0 ≤ l ∧ l ≤ r ∧ r < n) {cC : Nat → Nat → Int32} (hC : CcH cC (spT V l r) l) (K : TalT → Option (Int32 × TalT)) : ∀ (m F : Nat) (j : Int) (T : TalT), m < F → 0 ≤ j → 4 = j + m → TalC T → ∃ T', TalC T' ∧ mL_isSpan_L245 K row cC (zI l) (zI r) F (zI j) T = K T'
  | m, 0, j, T, h, _, _, _ => absurd h (Nat.not_lt_zero m)
  | 0, F + 1, j, T, _, h0, hk, hT => by
    rw [mL_isSpan_L245, if_pos (show (4 : Int32) ≤ zI j by rw [z_4, zI_le (by omega) (by omega) (by omega) (by omega)]; omega)]
    exact ⟨T, hT, rfl⟩
  | m + 1, F + 1, j, T, h, h0, hk, hT => by
    obtain ⟨T1, e1, h1⟩ := q_ifTies hR c (t := j) (by omega) hT
    obtain ⟨S, hS, h0S⟩ := ex_S hR c (t := j) (by omega) hT
    have ez := ranked_z hC (by omega) hS (i := 0) (by omega)
    rw [if_pos h0S, sgD h0S, sr_0 hC.1.1 hS h0S, show zI ((0 : Nat) : Int) = (0 : Int32) from rfl] at ez
    rw [mL_isSpan_L245, if_neg (show ¬ (4 : Int32) ≤ zI j by rw [z_4, zI_le (by omega) (by omega) (by omega) (by omega)]; omega), e1, sob, ez, sob, if_pos rfl, zI_a1]
    exact tie_L hR c hC K m F (j + 1) T1 (by omega) (by omega) (by omega) h1
theorem due_L (hR : Rw row n V G) (c : 0 ≤ l ∧ l ≤ r ∧ r < n) (ht : 0 ≤ t ∧ t ≤ 3) {S : List Int} (hS : srT t (spT V l r) S) (ok : okT (spT V l r)) {k : Nat} (hk : k < S.length) {w : Nat → Int32} (hw : ∀ j : Int, 0 ≤ j → j < 4 → w j.toNat = zI (tdT (spT V l r) l (S[k]) j)) (K : TalT → Option (Int32 × TalT)) : ∀ (m F : Nat) (j : Int) (T : TalT), m < F → 0 ≤ j → 4 = j + m → TalC T → ∃ T', TalC T' ∧ mL_isSpan_L143 K (zI t) row w (zI l) (zI r) (zI (k : Int)) F (zI j) T = K T'
  | m, 0, j, T, h, _, _, _ => absurd h (Nat.not_lt_zero m)
  | 0, F + 1, j, T, _, h0, hj, hT => by
    rw [mL_isSpan_L143, if_pos (show (4 : Int32) ≤ zI j by rw [z_4, zI_le (by omega) (by omega) (by omega) (by omega)]; omega)]
    exact ⟨T, hT, rfl⟩
  | m + 1, F + 1, j, T, h, h0, hj, hT => by
    obtain ⟨T1, e1, h1⟩ := q_ranked hR c ht hT hS (k := k) (w := j) (by omega) (by omega)
    rw [if_pos hk, sgD hk] at e1
    have hd := dsT_120 ok
    have hsl := srT_len hS
    have hrd : rd w 4 (zI j) = some (zI (tdT (spT V l r) l (S[k]) j)) := by rw [rd_in h0 (by omega) (by omega), hw j h0 (by omega)]
    rw [mL_isSpan_L143, if_neg (show ¬ (4 : Int32) ≤ zI j by rw [z_4, zI_le (by omega) (by omega) (by omega) (by omega)]; omega), e1, sob, hrd, sob, if_neg (show ¬ ¬ zI (tdT (spT V l r) l (S[k]) j) = zI (tdT (spT V l r) l (S[k]) j) from not_not_intro rfl)]
    by_cases k0 : k = 0
    · subst k0
      obtain ⟨T2, e2, h2⟩ := q_mode hR c ht h1 (w := j) (by omega)
      rw [if_neg (show ¬ ¬ zI ((0 : Nat) : Int) = 0 from not_not_intro rfl)]
      show ∃ T', TalC T' ∧ ((mX5_mode (zI t) row T1 (zI l) (zI r) (zI j)).bind _) = K T'
      rw [e2, sob, sob, sr_0 ok hS hk, zI_a1, if_pos rfl]
      have hw0 := hw
      exact due_L hR c ht hS ok hk hw0 K m F (j + 1) T2 (by omega) (by omega) (by omega) h2
    · rw [if_pos (show ¬ zI (k : Int) = 0 by rw [z_0, zI_eq (by omega) (by omega) (by omega) (by omega)]; omega), zI_a1]
      exact due_L hR c ht hS ok hk hw K m F (j + 1) T1 (by omega) (by omega) (by omega) h1
theorem wr4_0 (w : Nat → Int32) (x : Int32) : wr w 4 0 x = some (upd w 0 x) := rfl
theorem wr4_1 (w : Nat → Int32) (x : Int32) : wr w 4 1 x = some (upd w 1 x) := rfl
theorem wr4_2 (w : Nat → Int32) (x : Int32) : wr w 4 2 x = some (upd w 2 x) := rfl
theorem wr4_3 (w : Nat → Int32) (x : Int32) : wr w 4 3 x = some (upd w 3 x) := rfl
def hvI (t : Int) (R S : List Int) (ow : Int → Int) (k : Nat) (x8 x9 : Int) : Prop := (k = 0 ∧ x8 = -1 ∧ x9 = 0) ∨ (x8 ∈ S.take k ∧ x9 = ow x8 ∧ ∀ x ∈ S.take k, ow x < ow x8 ∨ (ow x = ow x8 ∧ kyT t R x ≤ kyT t R x8))
theorem take_s {S : List Int} {k : Nat} (h : k < S.length) : S.take (k + 1) = S.take k ++ [S[k]] := by rw [List.take_succ, List.getElem?_eq_getElem h]; rfl
set_option maxHeartbeats 8000000 in
theorem span_end {f g : Nat → Int32} (hR : Rw row n V G) (hf : Ar f n V) (hg : Ar g n G) (hn : n ≤ 100) (hV : ∀ i : Int, 0 ≤ i → i < n → 0 ≤ V i ∧ V i < 9) (c : 0 ≤ l ∧ l ≤ r ∧ r < n) (ht : 0 ≤ t ∧ t ≤ 3) {cC : Nat → Nat → Int32} (hC : CcH cC (spT V l r) l) {S : List Int} (hS : srT t (spT V l r) S) (hS9 : S.length ≤ 12) (F k : Nat) (x8 x9 : Int) (T : TalT) (w : Nat → Int32) (hk : S.length = k) (hT : TalC T) (hI : hvI t (spT V l r) S (fun x => owT V G x l (r + 1 - l).toNat) k x8 x9) : ∃ T', TalC T' ∧ mL_isSpan_L21 n n (zI t) row f g cC (zI l) (zI r) (zI t) (F + 1) (zI (k : Int)) (zI x8) (zI x9) (zI (k : Int)) T w = some (1, T') := by
  have ok := hC.1.1
  have hsl := srT_len hS
  have hne : (dsT (spT V l r)).length ≠ 0 := fun z => dsT_ne (spT_ne c.2.1) (List.eq_nil_of_length_eq_zero z)
  have h0S : 0 < S.length := by omega
  have ez := ranked_z hC ht hS (i := k) (by omega)
  rw [if_neg (by omega)] at ez
  have e0 := ranked_z hC ht hS (i := 0) (by omega)
  rw [if_pos h0S, sgD h0S, sr_0 ok hS h0S, show zI ((0 : Nat) : Int) = (0 : Int32) from rfl] at e0
  have hbm := bsT_mem (t := t) ok (spT_ne c.2.1)
  have hb := ok.2 _ hbm
  have hb12 := hC.2 _ hbm
  have hnum := hC.num (v := bsT t (spT V l r)) hb.1 hb12
  have hcn := cnT_nn (spT V l r) (bsT t (spT V l r))
  have hlen := spT_len (V := V) (l := l) (r := r) (by omega)
  have hHv : isHv t (spT V l r) (fun x => owT V G x l (r + 1 - l).toNat) x8 ∧ x9 = owT V G x8 l (r + 1 - l).toNat := by
    rcases hI with ⟨z, _⟩ | ⟨z1, z2, z3⟩
    · omega
    · rw [List.take_of_length_le (by omega)] at z1 z3
      exact ⟨⟨(srT_mem hS).mp z1, fun x hx => z3 x ((srT_mem hS).mpr hx)⟩, z2⟩
  rw [mL_isSpan_L21, ez, sob, if_pos (by decide)]
  obtain ⟨T1, h1, e1⟩ := tie_L hR c hC (fun (z9 : TalT) =>
      (mL_ranked cC 0 (zI t)).bind fun q10 =>
      (rx 12 q10).bind fun j11 =>
      (rd (cC j11) 3 0).bind fun v12 =>
      (if (2 * v12) ≤ ((zI r - zI l) + 1) then
        some (-2)
      else
        some q10).bind fun (z13 : Int32) =>
      (mX5_unlike (zI t) row z9 (zI l) (zI r)).bind fun q15 =>
      if ¬ q15.1 = zI (k : Int) then
        some (0, q15.2)
      else
        (mX5_ranked (zI t) row q15.2 (zI l) (zI r) (zI (k : Int)) 0).bind fun q17 =>
        if ¬ q17.1 = (-2) then
          some (0, q17.2)
        else
          (mX5_majority (zI t) row q17.2 (zI l) (zI r)).bind fun q19 =>
          if ¬ q19.1 = z13 then
            some (0, q19.2)
          else
            (mX5_heaviest (zI t) row q19.2 (zI l) (zI r) 0).bind fun q21 =>
            if ¬ q21.1 = zI x8 then
              some (0, q21.2)
            else
              (mX5_heaviest (zI t) row q21.2 (zI l) (zI r) 1).bind fun q23 =>
              if ¬ q23.1 = zI x9 then
                some (0, q23.2)
              else
                some (1, q23.2)) 4 FU 0 T (by rw [FU_e]; omega) (by omega) (by omega) hT
  rw [show zI (0 : Int) = (0 : Int32) from rfl] at e1
  refine Exists.elim (q_unlike hR c ht h1) (fun T2 h2 => ?_)
  refine Exists.elim (q_ranked hR c ht h2.2 hS (k := k) (w := 0) (by omega) (by omega)) (fun T3 h3 => ?_)
  refine Exists.elim (q_majority hR c ht h3.2) (fun T4 h4 => ?_)
  refine Exists.elim (q_heaviest hR c ht h4.2 hHv.1).1 (fun T5 h5 => ?_)
  refine Exists.elim (q_heaviest hR c ht h5.2 hHv.1).2 (fun T6 h6 => ?_)
  have h3e := h3.1
  rw [if_neg (by omega), show zI (0 : Int) = (0 : Int32) from rfl] at h3e
  refine ⟨T6, h6.2, e1.trans ?_⟩
  have emaj : (if (2 * zI (cnT (spT V l r) (bsT t (spT V l r)))) ≤ ((zI r - zI l) + 1) then some (-2 : Int32) else some (zI (bsT t (spT V l r)))) = some (zI (if ((spT V l r).length : Int) < 2 * cnT (spT V l r) (bsT t (spT V l r)) then bsT t (spT V l r) else -2)) := by
    rw [z_2, zI_mul, zI_sub, zI_a1]
    by_cases d : ((spT V l r).length : Int) < 2 * cnT (spT V l r) (bsT t (spT V l r))
    · rw [if_neg (show ¬ zI (2 * cnT (spT V l r) (bsT t (spT V l r))) ≤ zI (r - l + 1) by rw [zI_le (by omega) (by omega) (by omega) (by omega)]; omega), if_pos d]
    · rw [if_pos (show zI (2 * cnT (spT V l r) (bsT t (spT V l r))) ≤ zI (r - l + 1) by rw [zI_le (by omega) (by omega) (by omega) (by omega)]; omega), if_neg d]; rfl
  show ((mL_ranked cC 0 (zI t)).bind _) = _
  rw [e0, sob, rx_in hb.1 (by omega) (by omega), sob, rd3_0, sob, hnum, emaj, sob, h2.1, sob, if_neg (show ¬ ¬ zI ((dsT (spT V l r)).length : Int) = zI (k : Int) by rw [show (dsT (spT V l r)).length = k by omega]; exact not_not_intro rfl), h3e, sob, if_neg (show ¬ ¬ zI (-2) = (-2 : Int32) from not_not_intro rfl), h4.1, sob, if_neg (not_not_intro rfl), h5.1, sob, if_neg (not_not_intro rfl), h6.1, sob, ← hHv.2, if_neg (not_not_intro rfl)]
set_option maxHeartbeats 8000000 in
theorem span_step {f g : Nat → Int32} (hR : Rw row n V G) (hf : Ar f n V) (hg : Ar g n G) (hn : n ≤ 100) (hV : ∀ i : Int, 0 ≤ i → i < n → 0 ≤ V i ∧ V i < 9) (c : 0 ≤ l ∧ l ≤ r ∧ r < n) (ht : 0 ≤ t ∧ t ≤ 3) {cC : Nat → Nat → Int32} (hC : CcH cC (spT V l r) l) {S : List Int} (hS : srT t (spT V l r) S) (hS9 : S.length ≤ 12) (F k : Nat) (hkS : k < S.length) (ih : ∀ (y8 y9 : Int) (T : TalT) (w : Nat → Int32), TalC T → hvI t (spT V l r) S (fun x => owT V G x l (r + 1 - l).toNat) (k + 1) y8 y9 → ∃ T', TalC T' ∧ mL_isSpan_L21 n n (zI t) row f g cC (zI l) (zI r) (zI t) F (zI ((k : Int) + 1)) (zI y8) (zI y9) (zI ((k : Int) + 1)) T w = some (1, T')) (x8 x9 : Int) (T : TalT) (w : Nat → Int32) (hT : TalC T) (hI : hvI t (spT V l r) S (fun x => owT V G x l (r + 1 - l).toNat) k x8 x9) : ∃ T', TalC T' ∧ mL_isSpan_L21 n n (zI t) row f g cC (zI l) (zI r) (zI t) (F + 1) (zI (k : Int)) (zI x8) (zI x9) (zI (k : Int)) T w = some (1, T') := by
  have ok := hC.1.1
  have hsl := srT_len hS
  have hvm : S[k] ∈ spT V l r := (srT_mem hS).mp (List.getElem_mem hkS)
  obtain ⟨v, ev⟩ : ∃ v, S[k] = v := ⟨_, rfl⟩
  have hvm' := hvm
  rw [ev] at hvm
  have hvb := ok.2 v hvm
  have hv12 := hC.2 v hvm
  have hv9 : v < 9 := by
    obtain ⟨j, g1, g2, g3⟩ := spT_mem.mp hvm
    rw [← g3]; exact (hV j (by omega) (by omega)).2
  have hnum := hC.num (v := v) hvb.1 hv12
  have h1c : cC v.toNat 1 = zI (l + fiT (spT V l r) v) := by
    rw [← cF_at (cC := cC) (k := 1) (show v.toNat < 12 by omega)]; exact (hC.1.2.2.2 v hvm).1
  have h2c : cC v.toNat 2 = zI (l + laT (spT V l r) v) := by
    rw [← cF_at (cC := cC) (k := 2) (show v.toNat < 12 by omega)]; exact (hC.1.2.2.2 v hvm).2
  have ez := ranked_z hC ht hS (i := k) (by omega)
  rw [if_pos hkS, sgD hkS, ev] at ez
  have hG : ∀ i, 0 ≤ i → i < (n : Int) → 1 ≤ G i ∧ G i ≤ 9 := fun i h0 h1 => (hR.2.2.2.2 i h0 h1).2
  have o1 := owT_nn (V := V) hG v (r + 1 - l).toNat l c.1 (by omega)
  have o2 := owT_nn (V := V) hG x8 (r + 1 - l).toNat l c.1 (by omega)
  have o3 : 1 ≤ owT V G v l (r + 1 - l).toNat := by
    refine owT_pos (V := V) hG v (r + 1 - l).toNat l c.1 (by omega) ?_
    obtain ⟨j, g1, g2, g3⟩ := spT_mem.mp hvm
    exact ⟨j, g1, by omega, g3⟩
  have hsum := spsum_L hf hg hn c.2.2 hV (v := v) (by omega) (r + 1 - l).toNat FU 0 l (by rw [FU_e]; omega) c.1 (by omega)
  rw [Int.zero_add, show zI (0 : Int) = (0 : Int32) from rfl] at hsum
  have hx9 : 0 ≤ x9 ∧ x9 ≤ 1000 := by
    rcases hI with ⟨_, _, z⟩ | ⟨_, z, _⟩
    · omega
    · have : x9 = owT V G x8 l (r + 1 - l).toNat := z
      omega
  obtain ⟨y8, y9, ey, hI2⟩ : ∃ y8 y9, (if zI (owT V G v l (r + 1 - l).toNat) ≤ zI x9 then some (zI x8, zI x9) else some (zI v, zI (owT V G v l (r + 1 - l).toNat))) = some (zI y8, zI y9) ∧ hvI t (spT V l r) S (fun x => owT V G x l (r + 1 - l).toNat) (k + 1) y8 y9 := by
    by_cases d : owT V G v l (r + 1 - l).toNat ≤ x9
    · rw [if_pos (show zI (owT V G v l (r + 1 - l).toNat) ≤ zI x9 by rw [zI_le (by omega) (by omega) (by omega) (by omega)]; exact d)]
      refine ⟨x8, x9, rfl, ?_⟩
      rcases hI with ⟨_, _, z⟩ | ⟨z1, z2, z3⟩
      · omega
      · refine Or.inr ⟨by rw [take_s hkS]; exact List.mem_append_left _ z1, z2, fun x hx => ?_⟩
        rw [take_s hkS] at hx
        rcases List.mem_append.mp hx with hx | hx
        · exact z3 x hx
        · rw [List.mem_singleton.mp hx, ev]
          obtain ⟨i, hi, e⟩ := List.getElem_of_mem z1
          rw [List.length_take] at hi
          rw [List.getElem_take] at e
          have hs := sr_ge hS.2 (show i < k by omega) hkS
          rw [e, ev] at hs
          have z2' : x9 = owT V G x8 l (r + 1 - l).toNat := z2
          show owT V G v l (r + 1 - l).toNat < owT V G x8 l (r + 1 - l).toNat ∨ (owT V G v l (r + 1 - l).toNat = owT V G x8 l (r + 1 - l).toNat ∧ kyT t (spT V l r) v ≤ kyT t (spT V l r) x8)
          by_cases q : owT V G v l (r + 1 - l).toNat < owT V G x8 l (r + 1 - l).toNat
          · exact Or.inl q
          · exact Or.inr ⟨by omega, by omega⟩
    · rw [if_neg (show ¬ zI (owT V G v l (r + 1 - l).toNat) ≤ zI x9 by rw [zI_le (by omega) (by omega) (by omega) (by omega)]; exact d)]
      refine ⟨v, _, rfl, Or.inr ⟨by rw [take_s hkS, ev]; exact List.mem_append_right _ (List.mem_singleton.mpr rfl), rfl, fun x hx => ?_⟩⟩
      rw [take_s hkS] at hx
      rcases List.mem_append.mp hx with hx | hx
      · rcases hI with ⟨z, _⟩ | ⟨z1, z2, z3⟩
        · subst z; simp at hx
        · have z2' : x9 = owT V G x8 l (r + 1 - l).toNat := z2
          have z3' : owT V G x l (r + 1 - l).toNat < owT V G x8 l (r + 1 - l).toNat ∨ (owT V G x l (r + 1 - l).toNat = owT V G x8 l (r + 1 - l).toNat ∧ _) := z3 x hx
          refine Or.inl ?_
          show owT V G x l (r + 1 - l).toNat < owT V G v l (r + 1 - l).toNat
          rcases z3' with z | z <;> omega
      · rw [List.mem_singleton.mp hx, ev]; exact Or.inr ⟨rfl, Int.le_refl _⟩
  have hrx : rx 12 (zI v) = some v.toNat := rx_in hvb.1 (by omega) (by omega)
  have hW : ∀ j : Int, 0 ≤ j → j < 4 → (upd (upd (upd (upd (fun _ => (0 : Int32)) 0 (zI v)) 1 (zI (cnT (spT V l r) v))) 2 (zI (l + fiT (spT V l r) v))) 3 (zI (l + laT (spT V l r) v))) j.toNat = zI (tdT (spT V l r) l (S[k]) j) := fun j h0 h1 => by
    rw [ev]
    rcases (show j = 0 ∨ j = 1 ∨ j = 2 ∨ j = 3 by omega) with rfl | rfl | rfl | rfl <;> rfl
  rw [mL_isSpan_L21, ez, sob, if_neg (show ¬ zI v < 0 by rw [z_0, zI_lt (by omega) (by omega) (by omega) (by omega)]; omega), sob, hsum, sob, ey, sob, wr4_0, sob, hrx, sob, rd3_0, sob, hnum, wr4_1, sob, sob, rd3_1, sob, h1c, wr4_2, sob, sob, rd3_2, sob, h2c, wr4_3, sob]
  obtain ⟨T1, h1, e1⟩ := due_L hR c ht hS ok hkS hW (fun (z54 : TalT) =>
      (mX5_rank (zI t) row z54 (zI l) (zI r) (zI v)).bind fun q55 =>
      if ¬ q55.1 = zI (k : Int) then
        some (0, q55.2)
      else
        (mX5_often row (zI l) (zI r) (zI v)).bind fun q57 =>
        (rx 12 (zI v)).bind fun j58 =>
        (rd (cC j58) 3 0).bind fun v59 =>
        if q57 = v59 then
          mL_isSpan_L21 n n (zI t) row f g cC (zI l) (zI r) (zI t) F (zI (k : Int) + 1) (zI y8) (zI y9) (zI (k : Int) + 1) q55.2 (upd (upd (upd (upd (fun _ => (0 : Int32)) 0 (zI v)) 1 (zI (cnT (spT V l r) v))) 2 (zI (l + fiT (spT V l r) v))) 3 (zI (l + laT (spT V l r) v)))
        else
          some (0, q55.2)) 4 FU 0 T (by rw [FU_e]; omega) (by omega) (by omega) hT
  rw [show zI (0 : Int) = (0 : Int32) from rfl] at e1
  obtain ⟨T2, e2, h2⟩ := q_rank hR c ht h1 hvm
  have hrk := srT_rk hS hkS
  rw [ev] at hrk
  rw [hrk] at e2
  obtain ⟨T3, h3, e3⟩ := ih y8 y9 T2 (upd (upd (upd (upd (fun _ => (0 : Int32)) 0 (zI v)) 1 (zI (cnT (spT V l r) v))) 2 (zI (l + fiT (spT V l r) v))) 3 (zI (l + laT (spT V l r) v))) h2 hI2
  refine ⟨T3, h3, e1.trans ?_⟩
  show ((mX5_rank (zI t) row T1 (zI l) (zI r) (zI v)).bind _) = _
  rw [e2, sob, if_neg (not_not_intro rfl), q_often hR c hvb, sob, hrx, sob, rd3_0, sob, hnum, if_pos rfl, zI_a1]
  exact e3
theorem span_L {f g : Nat → Int32} (hR : Rw row n V G) (hf : Ar f n V) (hg : Ar g n G) (hn : n ≤ 100) (hV : ∀ i : Int, 0 ≤ i → i < n → 0 ≤ V i ∧ V i < 9) (c : 0 ≤ l ∧ l ≤ r ∧ r < n) (ht : 0 ≤ t ∧ t ≤ 3) {cC : Nat → Nat → Int32} (hC : CcH cC (spT V l r) l) {S : List Int} (hS : srT t (spT V l r) S) (hS9 : S.length ≤ 12) : ∀ (m F k : Nat) (x8 x9 : Int) (T : TalT) (w : Nat → Int32), S.length = k + m → m < F → TalC T → hvI t (spT V l r) S (fun x => owT V G x l (r + 1 - l).toNat) k x8 x9 →
    ∃ T', TalC T' ∧ mL_isSpan_L21 n n (zI t) row f g cC (zI l) (zI r) (zI t) F (zI (k : Int)) (zI x8) (zI x9) (zI (k : Int)) T w = some (1, T')
  | m, 0, k, x8, x9, T, w, _, h, _, _ => absurd h (Nat.not_lt_zero m)
  | 0, F + 1, k, x8, x9, T, w, hk, _, hT, hI => span_end hR hf hg hn hV c ht hC hS hS9 F k x8 x9 T w (by omega) hT hI
  | m + 1, F + 1, k, x8, x9, T, w, hk, h, hT, hI => span_step hR hf hg hn hV c ht hC hS hS9 F k (by omega) (fun y8 y9 T2 w2 h2 hI2 => span_L hR hf hg hn hV c ht hC hS hS9 m F (k + 1) y8 y9 T2 w2 (by omega) (by omega) h2 hI2) x8 x9 T w hT hI
theorem span_z {f g : Nat → Int32} (hR : Rw row n V G) (hf : Ar f n V) (hg : Ar g n G) (hn : n ≤ 100) (hV : ∀ i : Int, 0 ≤ i → i < n → 0 ≤ V i ∧ V i < 9) (c : 0 ≤ l ∧ l ≤ r ∧ r < n) (ht : 0 ≤ t ∧ t ≤ 3) {T : TalT} (hT : TalC T) : ∃ cC T', mL_counted n f (fun _ _ => 0) (zI l) (zI r) = some cC ∧ TalC T' ∧ mL_isSpan n n (zI t) row T f g cC (zI l) (zI r) (zI t) = some (1, T') := by
  obtain ⟨cC, ec, hC⟩ := counted_z hf hn c.1 (by omega) c.2.2 hV
  obtain ⟨S, hS, h0⟩ := ex_S hR c ht hT
  have hd9 : (dsT (spT V l r)).length ≤ 12 := by
    rw [← (ds_perm hC.1.1 hC.2).length_eq]
    exact Nat.le_trans (List.length_filter_le _ _) (Nat.le_of_eq (rgZ_len 12 0))
  have hsl := srT_len hS
  obtain ⟨T', h1, e1⟩ := span_L hR hf hg hn hV c ht hC hS (by omega) S.length 14 0 (-1) 0 T (fun _ => 0) (by omega) (by omega) hT (Or.inl ⟨rfl, rfl, rfl⟩)
  exact ⟨cC, T', ec, h1, e1⟩
end

/-! PURE ROWS. candidate -/
/-- which blocks lie in a span as a whole: from the first on, ahead of this one -/
def caE (n b r : Int) : Int := if r = n - 1 then blN n b else (r + 1) / b
theorem caE_in {n b r : Int} (hn : 0 ≤ n ∧ n ≤ 120) (hb : 2 ≤ b ∧ b ≤ 20) (hr : 0 ≤ r ∧ r < n) : (0 ≤ caE n b r ∧ caE n b r ≤ 120) ∧ (r ≠ n - 1 → caE n b r * b ≤ r + 1 ∧ r + 1 < caE n b r * b + b) ∧ (r = n - 1 → caE n b r = blN n b) := by
  unfold caE
  by_cases e : r = n - 1
  · rw [if_pos e]
    have := blN_in hn hb
    exact ⟨this.1, fun q => absurd e q, fun _ => rfl⟩
  · rw [if_neg e]
    have h1 := Int.ediv_mul_le (r + 1) (show b ≠ 0 by omega)
    have h2 := Int.lt_ediv_add_one_mul_self (r + 1) (show 0 < b by omega)
    have h3 : 0 ≤ (r + 1) / b := Int.ediv_nonneg (by omega) (by omega)
    rw [Int.add_mul, Int.one_mul] at h2
    have h4 : (r + 1) / b * 2 ≤ (r + 1) / b * b := Int.mul_le_mul_of_nonneg_left hb.1 h3
    exact ⟨by omega, fun _ => ⟨h1, by omega⟩, fun q => absurd q e⟩
/-- a block goes on being whole just ahead of it -/
theorem caE_go {n b r j : Int} (hn : 0 ≤ n ∧ n ≤ 120) (hb : 2 ≤ b ∧ b ≤ 20) (hr : 0 ≤ r ∧ r < n) (hj : 0 ≤ j) : (j < blN n b ∧ blE n b j - 1 ≤ r) ↔ j < caE n b r := by
  obtain ⟨c1, c2, c3⟩ := caE_in hn hb hr
  have hlt := blN_lt (j := j) hn hb hj
  have k4 : (j + 1) * b = j * b + b := by rw [Int.add_mul, Int.one_mul]
  unfold blE
  by_cases e : r = n - 1
  · rw [c3 e]
    constructor
    · exact fun h => h.1
    · intro h
      refine ⟨h, ?_⟩
      by_cases q : (j + 1) * b < n
      · rw [if_pos q]; omega
      · rw [if_neg q]; omega
  · obtain ⟨d1, d2⟩ := c2 e
    constructor
    · rintro ⟨h1, h2⟩
      rcases Int.lt_or_le j (caE n b r) with q | q
      · exact q
      · have : caE n b r * b ≤ j * b := Int.mul_le_mul_of_nonneg_right q (by omega)
        by_cases g : (j + 1) * b < n
        · rw [if_pos g] at h2; omega
        · rw [if_neg g] at h2; omega
    · intro h
      have : (j + 1) * b ≤ caE n b r * b := Int.mul_le_mul_of_nonneg_right (by omega) (by omega)
      refine ⟨hlt.mpr (by omega), ?_⟩
      rw [if_pos (show (j + 1) * b < n by omega)]
      omega
theorem X6_cand_1 {n b r : Int} (hn : 0 ≤ n ∧ n ≤ 120) (hb : 2 ≤ b ∧ b ≤ 20) (hr : 0 ≤ r ∧ r < n) : ∀ (k f : Nat) (j : Int), k < f → -1 ≤ j → caE n b r - 1 ≤ j + k → j ≤ 120 → ∃ j', mX6_candidate_L42 (zI n) (zI b) (zI r) f (zI j) = some (zI j') ∧ j' = if j < caE n b r - 1 then caE n b r - 1 else j
  | k, 0, j, h, _, _, _ => absurd h (Nat.not_lt_zero k)
  | k, f + 1, j, h, hj, hk, hj2 => by
    have hbl := blN_in hn hb
    have hgo := caE_go hn hb hr (j := j + 1) (by omega)
    have hcb := (caE_in hn hb hr).1
    have hlt := blN_lt (j := j + 1) hn hb (by omega)
    rw [mX6_candidate_L42, X6_blocks_z hn hb, sob, zI_a1]
    by_cases c : blN n b ≤ j + 1
    · rw [if_pos (show zI (blN n b) ≤ zI (j + 1) by rw [zI_le (by omega) (by omega) (by omega) (by omega)]; exact c)]
      refine ⟨j, rfl, ?_⟩
      rw [if_neg (fun q => by have := hgo.mpr (by omega); omega)]
    · have hm := hlt.mp (by omega)
      have hm2 := mul_in (j := j + 1 + 1) (by omega) hb
      have hE : 0 ≤ blE n b (j + 1) ∧ blE n b (j + 1) ≤ 120 := by
        unfold blE
        by_cases q : (j + 1 + 1) * b < n
        · rw [if_pos q]; omega
        · rw [if_neg q]; omega
      rw [if_neg (show ¬ zI (blN n b) ≤ zI (j + 1) by rw [zI_le (by omega) (by omega) (by omega) (by omega)]; exact c), X6_endOf_z hn hb (by omega) (by omega), sob]
      by_cases d : r < blE n b (j + 1) - 1
      · rw [if_pos (show zI r < zI (blE n b (j + 1) - 1) by rw [zI_lt (by omega) (by omega) (by omega) (by omega)]; exact d)]
        refine ⟨j, rfl, ?_⟩
        rw [if_neg (fun q => by have := hgo.mpr (by omega); omega)]
      · rw [if_neg (show ¬ zI r < zI (blE n b (j + 1) - 1) by rw [zI_lt (by omega) (by omega) (by omega) (by omega)]; exact d)]
        have hlt2 := hgo.mp ⟨by omega, by omega⟩
        cases k with
        | zero => omega
        | succ k =>
          obtain ⟨j', e1, e2⟩ := X6_cand_1 hn hb hr k f (j + 1) (by omega) (by omega) (by omega) (by omega)
          refine ⟨j', e1, ?_⟩
          rw [e2, if_pos (show j < caE n b r - 1 by omega)]
          by_cases q : j + 1 < caE n b r - 1
          · rw [if_pos q]
          · rw [if_neg q]; omega
theorem X6_cand_0 : ∀ (k f : Nat) (p : Int) (o : Nat → Int32), k < f → 0 ≤ p → 1000 = p + k → (∀ i, 0 ≤ i → i < p → o i.toNat = zI 0) → ∃ o', mX6_candidate_L74 f (zI p) o = some o' ∧ Ar o' 1000 (fun v => if v ∈ ([] : List Int) then 1 else 0)
  | k, 0, p, o, h, _, _, _ => absurd h (Nat.not_lt_zero k)
  | 0, f + 1, p, o, _, hp, hk, ho => by
    rw [mX6_candidate_L74, if_pos (show (1000 : Int32) ≤ zI p by rw [z_1000, zI_le (by omega) (by omega) (by omega) (by omega)]; omega)]
    exact ⟨o, rfl, fun i h0 h1 => by show o i.toNat = zI (if i ∈ ([] : List Int) then 1 else 0); rw [if_neg List.not_mem_nil]; exact ho i h0 (by omega)⟩
  | k + 1, f + 1, p, o, h, hp, hk, ho => by
    rw [mX6_candidate_L74, if_neg (show ¬ (1000 : Int32) ≤ zI p by rw [z_1000, zI_le (by omega) (by omega) (by omega) (by omega)]; omega), wr_in (by omega) (by omega) (by omega), sob, zI_a1]
    refine X6_cand_0 k f (p + 1) _ (by omega) (by omega) (by omega) (fun i h0 h1 => ?_)
    rw [upd_at hp h0]
    by_cases e : i = p
    · rw [if_pos e]; rfl
    · rw [if_neg e]; exact ho i h0 (by omega)
/-- the reference's marks: those of S -/
def caM (isC : Nat → Int32) (S : List Int) : Prop := Ar isC 1000 (fun v => if v ∈ S then 1 else 0)
theorem caM_push {isC : Nat → Int32} {S : List Int} (h : caM isC S) {x : Int} (hx : 0 ≤ x ∧ x < 1000) : caM (upd isC x.toNat (vp_nar .boolean 1)) (x :: S) := by
  have e : vp_nar .boolean 1 = zI 1 := rfl
  rw [e]
  exact (Ar_wr h hx.1).eq (fun i h0 h1 => by
    unfold pt
    by_cases q : i = x
    · rw [if_pos q, if_pos (by rw [q]; exact List.mem_cons_self)]
    · rw [if_neg q]
      show (if i ∈ S then (1 : Int) else 0) = _
      by_cases m : i ∈ S
      · rw [if_pos m, if_pos (List.mem_cons_of_mem _ m)]
      · rw [if_neg m, if_neg (fun y => by rcases List.mem_cons.mp y with y | y; exact q y; exact m y)])
/-- nothing whole: all are marked -/
theorem X6_cand_2 {value weight : Nat → Int32} {n b r : Int} {V G : Int → Int} (hv : Rv value weight n V G) (hr : r < n) {x4 x5 : Int32} : ∀ (k f : Nat) (p : Int) (S : List Int) (isC : Nat → Int32), k < f → 0 ≤ p → r + 1 = p + k → caM isC S → ∃ isC', mX6_candidate_L141 value (zI n) (zI b) (zI r) x4 x5 0 f (zI p) isC = some isC' ∧ caM isC' (spA V p k S)
  | k, 0, p, S, isC, h, _, _, _ => absurd h (Nat.not_lt_zero k)
  | 0, f + 1, p, S, isC, _, hp, hk, hM => by
    have hn := hv.1
    rw [mX6_candidate_L141, if_pos (show zI r < zI p by rw [zI_lt (by omega) (by omega) (by omega) (by omega)]; omega)]
    exact ⟨isC, rfl, hM⟩
  | k + 1, f + 1, p, S, isC, h, hp, hk, hM => by
    obtain ⟨hn, hV, hG, hB⟩ := id hv
    have hb := (hB p hp (by omega)).1
    rw [mX6_candidate_L141, if_neg (show ¬ zI r < zI p by rw [zI_lt (by omega) (by omega) (by omega) (by omega)]; omega), if_pos rfl, rd_A hV hp (by omega) (by omega) (by omega), sob, wr_in hb.1 (by omega) (by omega), sob, zI_a1]
    exact X6_cand_2 hv hr k f (p + 1) (V p :: S) _ (by omega) (by omega) (by omega) (caM_push hM hb)
/-- those outside of wf .. we - 1 -/
theorem X6_cand_3 {value weight : Nat → Int32} {n b r g e wf we : Int} {V G : Int → Int} (hv : Rv value weight n V G) (hr : r < n) (hb : 2 ≤ b ∧ b ≤ 20) (hg : 0 ≤ g ∧ g ≤ 120) (he : 0 ≤ e ∧ e ≤ 120) (hwf : wf = b * g) (hwe : we = blE n b e) (hen : e * b ≤ n) (hwe2 : 0 ≤ we ∧ we ≤ 120) (hwf2 : 0 ≤ wf ∧ wf ≤ 3000) : ∀ (k f : Nat) (p : Int) (S : List Int) (isC : Nat → Int32), k < f → 0 ≤ p → r + 1 = p + k → caM isC S → ∃ isC', mX6_candidate_L141 value (zI n) (zI b) (zI r) (zI g) (zI e) 1 f (zI p) isC = some isC' ∧ caM isC' (tgA V wf (we - 1) p k S)
  | k, 0, p, S, isC, h, _, _, _ => absurd h (Nat.not_lt_zero k)
  | 0, f + 1, p, S, isC, _, hp, hk, hM => by
    have hn := hv.1
    rw [mX6_candidate_L141, if_pos (show zI r < zI p by rw [zI_lt (by omega) (by omega) (by omega) (by omega)]; omega)]
    exact ⟨isC, rfl, hM⟩
  | k + 1, f + 1, p, S, isC, h, hp, hk, hM => by
    obtain ⟨hn, hV, hG, hB⟩ := id hv
    have hbp := (hB p hp (by omega)).1
    rw [mX6_candidate_L141, if_neg (show ¬ zI r < zI p by rw [zI_lt (by omega) (by omega) (by omega) (by omega)]; omega), if_neg i1, zI_mul, ← hwf, X6_endOf_z hn hb he hen, ← hwe, rd_A hV hp (by omega) (by omega) (by omega)]
    simp only [sob]
    rw [wr_in hbp.1 (by omega) (by omega)]
    simp only [sob, zI_a1]
    simp only [tgA]
    have push := fun q : (p < wf ∨ we - 1 < p) => X6_cand_3 hv hr hb hg he hwf hwe hen hwe2 hwf2 k f (p + 1) (V p :: S) (upd isC (V p).toNat (vp_nar .boolean 1)) (by omega) (by omega) (by omega) (caM_push hM hbp)
    by_cases c : p < wf
    · rw [if_pos (show zI p < zI wf by rw [zI_lt (by omega) (by omega) (by omega) (by omega)]; exact c), if_pos (Or.inl c)]
      exact push (Or.inl c)
    · rw [if_neg (show ¬ zI p < zI wf by rw [zI_lt (by omega) (by omega) (by omega) (by omega)]; exact c)]
      by_cases d : p ≤ we - 1
      · rw [if_pos (show zI p ≤ zI (we - 1) by rw [zI_le (by omega) (by omega) (by omega) (by omega)]; exact d), if_neg (show ¬ (p < wf ∨ we - 1 < p) by omega)]
        exact X6_cand_3 hv hr hb hg he hwf hwe hen hwe2 hwf2 k f (p + 1) S isC (by omega) (by omega) (by omega) hM
      · rw [if_neg (show ¬ zI p ≤ zI (we - 1) by rw [zI_le (by omega) (by omega) (by omega) (by omega)]; exact d), if_pos (Or.inr (by omega))]
        exact push (Or.inr (by omega))
/-! the class -/
theorem X5_cand_2 {row : RowT} {n t r wf we : Int} {V G : Int → Int} (hR : Rw row n V G) (hr : r < n) (hw : we ≤ wf) (hwe2 : 0 ≤ we ∧ we ≤ 120) (hwf2 : 0 ≤ wf ∧ wf ≤ 3000) : ∀ (k f : Nat) (p : Int) (R : List Int) (A : TalT), k < f → 0 ≤ p → r + 1 = p + k → R.length + k ≤ 120 → TalH t R A → ∃ A', mX5_markCandidates_L93 row (zI r) (zI wf) (zI we) f (zI p) A = some A' ∧ TalH t (spA V p k R) A'
  | k, 0, p, R, A, h, _, _, _, _ => absurd h (Nat.not_lt_zero k)
  | 0, f + 1, p, R, A, _, hp, hk, _, hA => by
    have hn := hR.1
    rw [mX5_markCandidates_L93, if_pos (show zI r < zI p by rw [zI_lt (by omega) (by omega) (by omega) (by omega)]; omega)]
    exact ⟨A, rfl, hA⟩
  | k + 1, f + 1, p, R, A, h, hp, hk, hl, hA => by
    obtain ⟨hn, hs, hV, hG, hB⟩ := id hR
    have hbp := (hB p hp (by omega)).1
    obtain ⟨A1, e1, h1⟩ := X3_push_z hA (x := V p) (okT_cons hbp hA.ok (by omega))
    have go := X5_cand_2 hR hr hw hwe2 hwf2 k f (p + 1) (V p :: R) A1 (by omega) (by omega) (by omega) (by rw [List.length_cons]; omega) h1
    rw [mX5_markCandidates_L93, if_neg (show ¬ zI r < zI p by rw [zI_lt (by omega) (by omega) (by omega) (by omega)]; omega), rd_A hV hp (by omega) (by omega) (by omega)]
    simp only [sob, e1, zI_a1]
    by_cases c : p < wf
    · rw [if_pos (show zI p < zI wf by rw [zI_lt (by omega) (by omega) (by omega) (by omega)]; exact c)]
      exact go
    · rw [if_neg (show ¬ zI p < zI wf by rw [zI_lt (by omega) (by omega) (by omega) (by omega)]; exact c), if_neg (show ¬ zI p < zI we by rw [zI_lt (by omega) (by omega) (by omega) (by omega)]; omega)]
      exact go
def caB (l wf we p : Int) (R : List Int) : Prop := (p ≤ wf → (R.length : Int) ≤ 1 + p - l) ∧ (wf ≤ p → p ≤ we → (R.length : Int) ≤ 1 + wf - l) ∧ (we ≤ p → (R.length : Int) ≤ 1 + wf - l + (p - we))
theorem X5_cand_3 {row : RowT} {n t l r wf we : Int} {V G : Int → Int} (hR : Rw row n V G) (hl : 0 ≤ l) (hr : r < n) (hlw : l ≤ wf) (hw : wf < we) (hwe2 : we ≤ n) : ∀ (k f : Nat) (p : Int) (R : List Int) (A : TalT), k < f → 0 ≤ p → r + 1 = p + k → caB l wf we p R → TalH t R A → ∃ A', mX5_markCandidates_L93 row (zI r) (zI wf) (zI we) f (zI p) A = some A' ∧ TalH t (tgA V wf (we - 1) p k R) A'
  | k, 0, p, R, A, h, _, _, _, _ => absurd h (Nat.not_lt_zero k)
  | 0, f + 1, p, R, A, _, hp, hk, _, hA => by
    have hn := hR.1
    rw [mX5_markCandidates_L93, if_pos (show zI r < zI p by rw [zI_lt (by omega) (by omega) (by omega) (by omega)]; omega)]
    exact ⟨A, rfl, hA⟩
  | k + 1, f + 1, p, R, A, h, hp, hk, hB3, hA => by
    obtain ⟨hn, hs, hV, hG, hB⟩ := id hR
    obtain ⟨b1, b2, b3⟩ := id hB3
    have hbp := (hB p hp (by omega)).1
    have push : (p < wf ∨ we - 1 < p) → ∃ A', ((mX3_push A (zI (V p))).bind fun q => mX5_markCandidates_L93 row (zI r) (zI wf) (zI we) f (zI (p + 1)) q) = some A' ∧ TalH t (tgA V wf (we - 1) (p + 1) k (V p :: R)) A' := by
      intro q
      obtain ⟨A1, e1, h1⟩ := X3_push_z hA (x := V p) (okT_cons hbp hA.ok (by omega))
      rw [e1, sob]
      exact X5_cand_3 hR hl hr hlw hw hwe2 k f (p + 1) (V p :: R) A1 (by omega) (by omega) (by omega) ⟨by rw [List.length_cons]; omega, by rw [List.length_cons]; omega, by rw [List.length_cons]; omega⟩ h1
    rw [mX5_markCandidates_L93, if_neg (show ¬ zI r < zI p by rw [zI_lt (by omega) (by omega) (by omega) (by omega)]; omega), rd_A hV hp (by omega) (by omega) (by omega)]
    simp only [sob, zI_a1, tgA]
    by_cases c : p < wf
    · rw [if_pos (show zI p < zI wf by rw [zI_lt (by omega) (by omega) (by omega) (by omega)]; exact c), if_pos (Or.inl c)]
      exact push (Or.inl c)
    · rw [if_neg (show ¬ zI p < zI wf by rw [zI_lt (by omega) (by omega) (by omega) (by omega)]; exact c)]
      by_cases d : p < we
      · rw [if_pos (show zI p < zI we by rw [zI_lt (by omega) (by omega) (by omega) (by omega)]; exact d), if_neg (show ¬ (p < wf ∨ we - 1 < p) by omega)]
        exact X5_cand_3 hR hl hr hlw hw hwe2 k f (p + 1) R A (by omega) (by omega) (by omega) ⟨by omega, by omega, by omega⟩ hA
      · rw [if_neg (show ¬ zI p < zI we by rw [zI_lt (by omega) (by omega) (by omega) (by omega)]; exact d), if_pos (Or.inr (by omega))]
        exact push (Or.inr (by omega))
/-- the last loop, both -/
theorem X56_cand_L {t : Int} {R S M : List Int} {T A : TalT} {t' : Int} {pos : Int → Int} {z : CuT} {isC : Nat → Int32} {th : Int32} {c : Int} (hc : -1 ≤ c ∧ c < 2147483648) (hT : TalO t R S T) (hA : TalH t' M A) (hz : CuH pos R z) (ht : 0 ≤ t ∧ t ≤ 3) (hM : caM isC M) : ∀ (m i f f' : Nat) (a : Int), S.length = i + m → m < f → m < f' → 0 ≤ a → a + m ≤ 200 →
    ∃ x, mX5_candidate_L44 T A (zI c) f (zI a) (zI (i : Int)) = some (x, T, A) ∧ mX6_candidate_L207 th (zI t) z.1 z.2.1 z.2.2.1 z.2.2.2.1 z.2.2.2.2 isC (zI c) f' (zI a) (zI (i : Int)) = some (x, th, z.1, z.2.1, z.2.2.1, z.2.2.2.1, z.2.2.2.2, isC)
  | m, i, 0, f', a, _, h, _, _, _ => absurd h (Nat.not_lt_zero m)
  | m, i, f + 1, 0, a, _, _, h, _, _ => absurd h (Nat.not_lt_zero m)
  | 0, i, f + 1, f' + 1, a, hl, _, _, ha, ha2 => by
    have hsl := srT_len hT.2.1
    have h120 := dsT_120 hz.ok
    rw [mX5_candidate_L44, hT.2.2.2, if_pos (show zI (S.length : Int) ≤ zI (i : Int) by rw [zI_le (by omega) (by omega) (by omega) (by omega)]; omega), mX6_candidate_L207, hz.2.2, if_pos (show zI ((dsT R).length : Int) ≤ zI (i : Int) by rw [zI_le (by omega) (by omega) (by omega) (by omega)]; omega)]
    by_cases d : zI c = -1
    · rw [if_neg (not_not_intro d), if_neg (not_not_intro d)]; exact ⟨_, rfl, rfl⟩
    · rw [if_pos d, if_pos d]; exact ⟨_, rfl, rfl⟩
  | m + 1, i, f + 1, f' + 1, a, hl, hf, hf', ha, ha2 => by
    have hsl := srT_len hT.2.1
    have h120 := dsT_120 hz.ok
    have hi : i < S.length := by omega
    have hb := hz.ok.2 _ ((srT_mem hT.2.1).mp (List.getElem_mem hi))
    have cb := cnT_nn M S[i]
    have cp := cnT_pos M S[i]
    have okM := hA.ok.1
    rw [mX5_candidate_L44, if_neg (show ¬ T.2.2.2.2.1 ≤ zI (i : Int) by rw [hT.2.2.2, zI_le (by omega) (by omega) (by omega) (by omega)]; omega), rd_L hT.2.2.1 hi (by omega) (by omega), sob, rd_A hA.num hb.1 hb.2 (by omega) (by omega), sob, sob, zI_a1, zI_a1, zI_s]
    rw [mX6_candidate_L207, if_neg (show ¬ z.2.2.2.2 ≤ zI (i : Int) by rw [hz.2.2, zI_le (by omega) (by omega) (by omega) (by omega)]; omega), X6_ofRank_z hz ht (by omega), sob, orT_sr hT.2.1 hi, rd_A hM hb.1 hb.2 (by omega) (by omega), sob, zI_a1, zI_a1, zI_s]
    by_cases d : S[i] ∈ M
    · have := cp.mpr d
      rw [if_neg (show ¬ zI (cnT M S[i]) ≤ 0 by rw [z_0, zI_le (by omega) (by omega) (by omega) (by omega)]; omega), if_pos d, if_pos (show ¬ zI 1 = 0 by decide)]
      by_cases e : a = c
      · rw [if_neg (show ¬ ¬ zI a = zI c by rw [e]; exact not_not_intro rfl), if_neg (show ¬ ¬ zI a = zI c by rw [e]; exact not_not_intro rfl)]
        exact ⟨_, rfl, rfl⟩
      · rw [if_pos (show ¬ zI a = zI c by rw [zI_eq (by omega) (by omega) (by omega) (by omega)]; exact e), if_pos (show ¬ zI a = zI c by rw [zI_eq (by omega) (by omega) (by omega) (by omega)]; exact e)]
        exact X56_cand_L hc hT hA hz ht hM m (i + 1) f f' (a + 1) (by omega) (by omega) (by omega) (by omega) (by omega)
    · have := (cnT_0 M S[i]).mpr d
      rw [if_pos (show zI (cnT M S[i]) ≤ 0 by rw [z_0, zI_le (by omega) (by omega) (by omega) (by omega)]; omega), if_neg d, if_neg (show ¬ ¬ zI 0 = 0 from not_not_intro rfl)]
      exact X56_cand_L hc hT hA hz ht hM m (i + 1) f f' a (by omega) (by omega) (by omega) (by omega) (by omega)
theorem P_candidate {row : RowT} {value weight : Nat → Int32} {n t b : Int} {V G : Int → Int} {T A : TalT} (hR : Rw row n V G) (hv : Rv value weight n V G) (ht : 0 ≤ t ∧ t ≤ 3) (hb : 2 ≤ b ∧ b ≤ 20) (hT : TalC T) (hA : TalC A) (th : Int32) (o fo la un : Nat → Int32) (um : Int32) (isC : Nat → Int32) (x1 x2 x3 : Int32) :
    ∃ (a : Int32) (T' A' : TalT) (o' fo' la' un' : Nat → Int32) (um' : Int32) (isC' : Nat → Int32), mX5_candidate (zI b) (zI t) row T A x1 x2 x3 = some (a, T', A') ∧ TalC T' ∧ TalC A' ∧ mX6_candidate th value (zI n) (zI b) (zI t) o fo la un um isC x1 x2 x3 = some (a, 0, o', fo', la', un', um', isC') := by
  obtain ⟨l, hl, rfl⟩ := zI_ex x1
  obtain ⟨r, hr, rfl⟩ := zI_ex x2
  obtain ⟨c, hc, rfl⟩ := zI_ex x3
  obtain ⟨hs, hn⟩ := hR.ok
  unfold mX5_candidate mX6_candidate
  rw [X2_hasSpan_z hs hn hl hr, X6_isSpan_z hn hl hr, sob, sob]
  by_cases sp : 0 ≤ l ∧ l ≤ r ∧ r < n
  · rw [bz_t sp, if_neg i1, if_neg i1]
    by_cases c1 : -1 ≤ c
    · rw [if_pos (show -1 ≤ zI c by rw [z_m1, zI_le (by omega) (by omega) (by omega) (by omega)]; exact c1), if_pos (show -1 ≤ zI c by rw [z_m1, zI_le (by omega) (by omega) (by omega) (by omega)]; exact c1)]
      -- the blocks
      have hg := blN_in (n := l) (by omega) hb
      have hE := caE_in hn hb (r := r) (by omega)
      have hwfm := mul_in (j := blN l b) (by omega) hb
      have hEm := mul_in (j := caE n b r) (by omega) hb
      obtain ⟨j', f1, f2⟩ := X6_cand_1 hn hb (r := r) (by omega) 121 FU (blN l b - 1) (by rw [FU_e]; omega) (by omega) (by omega) (by omega)
      obtain ⟨isC0, f3, f4⟩ := X6_cand_0 1000 FU 0 isC (by rw [FU_e]; omega) (by omega) (by omega) (fun i h0 h1 => by omega)
      have hidv : idv (zI l + zI b - 1) (zI b) = some (zI (blN l b)) := by rw [zI_add, zI_m1, idv_z (by omega) (by omega) (by omega) (by omega)]; rfl
      -- the class' end of the whole ones
      have hwe : (if ¬ zI r = row.2.2 - 1 then (idv (zI r + 1) (zI b)).bind fun v20 => some (v20 * zI b) else some row.2.2) = some (zI (if r = n - 1 then n else caE n b r * b)) := by
        rw [hs, zI_m1]
        by_cases q : r = n - 1
        · rw [if_neg (show ¬ ¬ zI r = zI (n - 1) by rw [q]; exact not_not_intro rfl), if_pos q]
        · rw [if_pos (show ¬ zI r = zI (n - 1) by rw [zI_eq (by omega) (by omega) (by omega) (by omega)]; exact q), if_neg q, zI_a1, idv_z (by omega) (by omega) (by omega) (by omega), sob, zI_mul]
          unfold caE
          rw [if_neg q]
      have hlt := blN_lt (j := blN l b) hn hb (by omega)
      obtain ⟨A1, e1, h1⟩ := X3_begin_z hA ht
      -- both come to one list of marks
      suffices hmk : ∃ (T1 A2 : TalT) (M : List Int) (z : CuT) (isC2 : Nat → Int32), mX5_markCandidates (zI b) (zI t) row T A (zI l) (zI r) = some (T1, A2) ∧ TalC T1 ∧ TalH t M A2 ∧ caM isC2 M ∧ (((if zI j' < zI (blN l b) then some (0 : Int32) else some 1).bind fun z15 => (if z15 = 0 then some (o, fo, la, un, um, isC0) else (mX6_endOf (zI n) (zI b) (zI j')).bind fun q41 => (mX6_modeOf value (zI t) o fo la un um (zI b * zI (blN l b)) q41).bind fun q42 => (wr isC0 1000 q42.1 (vp_nar .boolean 1)).bind fun a43 => some (q42.2.1, q42.2.2.1, q42.2.2.2.1, q42.2.2.2.2.1, q42.2.2.2.2.2, a43)).bind fun z17 => (mX6_candidate_L141 value (zI n) (zI b) (zI r) (zI (blN l b)) (zI j') z15 FU (zI l) z17.2.2.2.2.2).bind fun z31 => some (z17.1, z17.2.1, z17.2.2.1, z17.2.2.2.1, z17.2.2.2.2.1, z31)) = some (z.1, z.2.1, z.2.2.1, z.2.2.2.1, z.2.2.2.2, isC2)) by
        obtain ⟨T1, A2, M, z, isC2, g1, g2, g3, g4, g5⟩ := hmk
        obtain ⟨T2, e2, h2⟩ := X5_tallySpan_z hR ht sp.1 (by omega) sp.2.2 g2
        obtain ⟨T3, S, e3, h3⟩ := X3_order_z h2
        obtain ⟨z2, e4, h4⟩ := X6_counts_z hv sp.1 (by omega) sp.2.2 z.1 z.2.1 z.2.2.1 z.2.2.2.1 z.2.2.2.2
        have hsl := srT_len h3.2.1
        have h120 := dsT_120 h2.ok
        obtain ⟨x, e5, e6⟩ := X56_cand_L (c := c) (th := 0) (by omega) h3 g3 h4 ht g4 S.length 0 FU FU 0 (by omega) (by rw [FU_e]; omega) (by rw [FU_e]; omega) (by omega) (by omega)
        rw [g1, sob, e2, sob, e3, sob]
        have e5' : mX5_candidate_L44 T3 A2 (zI c) FU 0 0 = some (x, T3, A2) := e5
        have e6' : mX6_candidate_L207 0 (zI t) z2.1 z2.2.1 z2.2.2.1 z2.2.2.2.1 z2.2.2.2.2 isC2 (zI c) FU 0 0 = some (x, 0, z2.1, z2.2.1, z2.2.2.1, z2.2.2.2.1, z2.2.2.2.2, isC2) := e6
        rw [e5']
        refine ⟨x, T3, A2, z2.1, z2.2.1, z2.2.2.1, z2.2.2.2.1, z2.2.2.2.2, isC2, rfl, h3.clean, g3.clean, ?_⟩
        rw [hidv, sob, zI_m1, f1, sob, show (0 : Int32) = zI 0 from rfl, f3, sob, show zI 0 = (0 : Int32) from rfl]
        rw [show (if zI j' < zI (blN l b) then some (0 : Int32) else some 1) = some (if zI j' < zI (blN l b) then (0 : Int32) else 1) by by_cases q : zI j' < zI (blN l b); rw [if_pos q, if_pos q]; rw [if_neg q, if_neg q]] at g5 ⊢
        generalize (if zI j' < zI (blN l b) then (0 : Int32) else 1) = y at g5 ⊢
        rw [sob] at g5 ⊢
        obtain ⟨w, w1, w2⟩ := e_b g5
        obtain ⟨w31, w3, w4⟩ := e_b w2
        rw [w1, sob, w3, sob]
        have w5 := Option.some.inj w4
        have q1 : w.1 = z.1 := congrArg (fun q => q.1) w5
        have q2 : w.2.1 = z.2.1 := congrArg (fun q => q.2.1) w5
        have q3 : w.2.2.1 = z.2.2.1 := congrArg (fun q => q.2.2.1) w5
        have q4 : w.2.2.2.1 = z.2.2.2.1 := congrArg (fun q => q.2.2.2.1) w5
        have q5 : w.2.2.2.2.1 = z.2.2.2.2 := congrArg (fun q => q.2.2.2.2.1) w5
        have q6 : w31 = isC2 := congrArg (fun q => q.2.2.2.2.2) w5
        rw [q1, q2, q3, q4, q5, q6, e4, sob]
        exact e6'
      unfold mX5_markCandidates
      rw [hidv, sob, hwe, sob, e1, sob, zI_mul]
      by_cases some1 : blN l b < caE n b r
      · -- some blocks as a whole
        have hj' : j' = caE n b r - 1 := by rw [f2]; by_cases q : blN l b - 1 < caE n b r - 1; rw [if_pos q]; rw [if_neg q]; omega
        have hgo := (caE_go hn hb (r := r) (by omega) (j := caE n b r - 1) (by omega)).mpr (by omega)
        have hlast := (blN_lt (j := caE n b r - 1) hn hb (by omega)).mp hgo.1
        have hmono : blN l b * b ≤ (caE n b r - 1) * b := Int.mul_le_mul_of_nonneg_right (by omega) (by omega)
        have hk : (caE n b r - 1 + 1) * b = (caE n b r - 1) * b + b := by rw [Int.add_mul, Int.one_mul]
        have hweq : (if r = n - 1 then n else caE n b r * b) = blE n b (caE n b r - 1) := by
          unfold blE
          rw [show caE n b r - 1 + 1 = caE n b r by omega] at hk ⊢
          by_cases q : r = n - 1
          · rw [if_pos q]
            have h3 := blN_in hn hb
            rw [hE.2.2 q]
            rw [if_neg (by omega)]
          · rw [if_neg q]
            have := hE.2.1 q
            rw [if_pos (by omega)]
        have hwb : blN l b * b < blE n b (caE n b r - 1) ∧ blE n b (caE n b r - 1) ≤ n ∧ blE n b (caE n b r - 1) - 1 ≤ r := by
          refine ⟨?_, ?_, hgo.2⟩
          · unfold blE
            by_cases q : (caE n b r - 1 + 1) * b < n
            · rw [if_pos q]; omega
            · rw [if_neg q]; omega
          · unfold blE
            by_cases q : (caE n b r - 1 + 1) * b < n
            · rw [if_pos q]; omega
            · rw [if_neg q]; omega
        rw [hweq, zI_m1]
        rw [if_neg (show ¬ zI (blE n b (caE n b r - 1)) ≤ zI (blN l b * b) by rw [zI_le (by omega) (by omega) (by omega) (by omega)]; omega)]
        obtain ⟨T1, e2, h2⟩ := X5_modeOf_z hR ht (l := blN l b * b) (r := blE n b (caE n b r - 1) - 1) (by omega) (by omega) (by omega) hT
        obtain ⟨z, e3, h3⟩ := X6_modeOf_z hv ht (l := blN l b * b) (r := blE n b (caE n b r - 1) - 1) (by omega) (by omega) (by omega) o fo la un um
        have hbn := bsT_nn (t := t) h2.ok (spT_ne (by omega))
        generalize bsT t (spT V (blN l b * b) (blE n b (caE n b r - 1) - 1)) = x at e2 e3 hbn
        obtain ⟨A2, e4, h4⟩ := X3_push_z h1 (x := x) (okT_cons hbn okT_nil (by simp only [List.length_nil]; omega))
        obtain ⟨A3, e5, h5⟩ := X5_cand_3 hR sp.1 sp.2.2 (wf := blN l b * b) (we := blE n b (caE n b r - 1)) (by omega) hwb.1 hwb.2.1 (r + 1 - l).toNat FU l [x] A2 (by rw [FU_e]; omega) sp.1 (by omega) ⟨by simp only [List.length_cons, List.length_nil]; omega, by simp only [List.length_cons, List.length_nil]; omega, by simp only [List.length_cons, List.length_nil]; omega⟩ h4
        obtain ⟨isC2, e6, h6⟩ := X6_cand_3 hv sp.2.2 hb (g := blN l b) (e := caE n b r - 1) (wf := blN l b * b) (we := blE n b (caE n b r - 1)) (by omega) (by omega) (Int.mul_comm _ _) rfl (by omega) (by omega) (by omega) (r + 1 - l).toNat FU l [x] _ (by rw [FU_e]; omega) sp.1 (by omega) (caM_push f4 hbn)
        refine ⟨T1, A3, tgA V (blN l b * b) (blE n b (caE n b r - 1) - 1) l (r + 1 - l).toNat [x], z, isC2, ?_, h2.clean, h5, h6, ?_⟩
        · rw [e2, sob]
          simp only []
          rw [e4, sob, sob]
          simp only []
          rw [e5, sob]
        · rw [hj', if_neg (show ¬ zI (caE n b r - 1) < zI (blN l b) by rw [zI_lt (by omega) (by omega) (by omega) (by omega)]; omega), sob, if_neg i1, X6_endOf_z hn hb (by omega) (by omega), sob, zI_mul, Int.mul_comm b (blN l b), e3, sob]
          simp only []
          rw [wr_in hbn.1 (by omega) (by omega), sob, sob]
          simp only []
          rw [e6, sob]
      · -- none
        have hj' : j' = blN l b - 1 := by rw [f2]; by_cases q : blN l b - 1 < caE n b r - 1; omega; rw [if_neg q]
        have hwe2 : (if r = n - 1 then n else caE n b r * b) ≤ blN l b * b ∧ 0 ≤ (if r = n - 1 then n else caE n b r * b) ∧ (if r = n - 1 then n else caE n b r * b) ≤ 120 := by
          by_cases q : r = n - 1
          · rw [if_pos q]
            have := hE.2.2 q
            omega
          · rw [if_neg q]
            have := hE.2.1 q
            have h5 : caE n b r * b ≤ blN l b * b := Int.mul_le_mul_of_nonneg_right (by omega) (by omega)
            omega
        generalize (if r = n - 1 then n else caE n b r * b) = we at hwe2
        rw [if_pos (show zI we ≤ zI (blN l b * b) by rw [zI_le (by omega) (by omega) (by omega) (by omega)]; omega), sob]
        obtain ⟨A3, e5, h5⟩ := X5_cand_2 hR sp.2.2 (wf := blN l b * b) (we := we) hwe2.1 hwe2.2 (by omega) (r + 1 - l).toNat FU l [] A1 (by rw [FU_e]; omega) sp.1 (by omega) (by simp only [List.length_nil]; omega) h1
        obtain ⟨isC2, e6, h6⟩ := X6_cand_2 (b := b) hv sp.2.2 (x4 := zI (blN l b)) (x5 := zI j') (r + 1 - l).toNat FU l [] isC0 (by rw [FU_e]; omega) sp.1 (by omega) f4
        refine ⟨T, A3, spA V l (r + 1 - l).toNat [], (o, fo, la, un, um), isC2, ?_, hT, h5, h6, ?_⟩
        · simp only []
          rw [e5, sob]
        · rw [if_pos (show zI j' < zI (blN l b) by rw [hj', zI_lt (by omega) (by omega) (by omega) (by omega)]; omega), sob, if_pos rfl, sob]
          simp only []
          rw [e6, sob]
    · rw [if_neg (show ¬ -1 ≤ zI c by rw [z_m1, zI_le (by omega) (by omega) (by omega) (by omega)]; exact c1), if_neg (show ¬ -1 ≤ zI c by rw [z_m1, zI_le (by omega) (by omega) (by omega) (by omega)]; exact c1)]
      exact ⟨_, _, _, _, _, _, _, _, _, rfl, hT, hA, rfl⟩
  · rw [bz_f sp, if_pos rfl, if_pos rfl]
    exact ⟨_, _, _, _, _, _, _, _, _, rfl, hT, hA, rfl⟩

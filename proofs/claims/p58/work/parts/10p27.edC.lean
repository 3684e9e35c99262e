/-! PURE ROWS. shift, undo -/
theorem md_1 {x m : Int} (h : 0 ≤ x) (h2 : x < m) : x % m = x := Int.emod_eq_of_lt h h2
theorem md_2 {x m : Int} (h : m ≤ x) (h2 : x < 2 * m) : x % m = x - m := by
  have e : x = (x - m) + m := by omega
  have h3 : ((x - m) + m) % m = (x - m) % m := Int.add_emod_right (x - m) m
  rw [← e] at h3
  rw [h3, Int.emod_eq_of_lt (by omega) (by omega)]
/-- where what comes to i stood -/
def shS (l r k : Int) : Int → Int := fun i => if l ≤ i ∧ i ≤ r then (if i < l + k then i + (r - l + 1) - k else i - k) else i
theorem shS_cl (V : Int → Int) {l r k : Int} (hlr : l ≤ r) (hk : 0 ≤ k ∧ k ≤ r - l + 1) : tuV (tuV (tuV V l r) l (l + k - 1)) (l + k) r = fun i => V (shS l r k i) := by
  funext i
  unfold tuV shS
  by_cases c : l ≤ i ∧ i ≤ r
  · rw [if_pos c]
    by_cases d : i < l + k
    · rw [if_pos d, if_neg (show ¬ (l + k ≤ i ∧ i ≤ r) by omega), if_pos (show l ≤ i ∧ i ≤ l + k - 1 by omega), if_pos (show l ≤ l + (l + k - 1) - i ∧ l + (l + k - 1) - i ≤ r by omega)]
      congr 1; omega
    · rw [if_neg d, if_pos (show l + k ≤ i ∧ i ≤ r by omega), if_neg (show ¬ (l ≤ l + k + r - i ∧ l + k + r - i ≤ l + k - 1) by omega), if_pos (show l ≤ l + k + r - i ∧ l + k + r - i ≤ r by omega)]
      congr 1; omega
  · rw [if_neg c, if_neg (show ¬ (l + k ≤ i ∧ i ≤ r) by omega), if_neg (show ¬ (l ≤ i ∧ i ≤ l + k - 1) by omega), if_neg c]
theorem shS_dst {l r k p i : Int} (hlr : l ≤ r) (hk : 0 ≤ k ∧ k ≤ r - l + 1) (hp : l ≤ p ∧ p ≤ r) (hi : l ≤ i ∧ i ≤ r) : i = l + (p - l + k) % (r - l + 1) ↔ shS l r k i = p := by
  unfold shS
  rw [if_pos hi]
  by_cases c : p - l + k < r - l + 1
  · rw [md_1 (by omega) c]
    by_cases d : i < l + k
    · rw [if_pos d]; omega
    · rw [if_neg d]; omega
  · rw [md_2 (by omega) (by omega)]
    by_cases d : i < l + k
    · rw [if_pos d]; omega
    · rw [if_neg d]; omega
theorem X6_shiftE_L {value weight : FnT} {n l r s : Int} {V G : Int → Int} (hv : Rv value weight n V G) (hl : 0 ≤ l) (hlr : l ≤ r) (hr : r < n) (hs : 0 ≤ s ∧ s ≤ r - l + 1) : ∀ (k f : Nat) (p : Int) (tv tw : FnT) (U H : Int → Int), k < f → l ≤ p → r + 1 = p + k → Rt tv tw n U H → (∀ i, 0 ≤ i → i < n → (l ≤ i ∧ i ≤ r → shS l r s i < p → U i = V (shS l r s i) ∧ H i = G (shS l r s i)) ∧ (¬ (l ≤ i ∧ i ≤ r) → U i = V i ∧ H i = G i)) →
    ∃ tv' tw', mX6_shift_L36 value weight (zI l) (zI r) (zI s) f (zI p) tv tw = some (tv', tw') ∧ Rt tv' tw' n (fun i => V (shS l r s i)) (fun i => G (shS l r s i))
  | k, 0, p, tv, tw, U, H, h, _, _, _, _ => absurd h (Nat.not_lt_zero k)
  | 0, f + 1, p, tv, tw, U, H, _, hp, hk, h1, h2 => by
    have hn := h1.1
    rw [mX6_shift_L36, if_pos (show zI r < zI p by rw [zI_lt (by omega) (by omega) (by omega) (by omega)]; omega)]
    refine ⟨tv, tw, rfl, h1.eq (fun i g0 g1 => ?_)⟩
    obtain ⟨y1, y2⟩ := h2 i g0 g1
    by_cases c : l ≤ i ∧ i ≤ r
    · refine y1 c ?_
      unfold shS
      rw [if_pos c]
      by_cases d : i < l + s
      · rw [if_pos d]; omega
      · rw [if_neg d]; omega
    · have := y2 c
      show U i = V (shS l r s i) ∧ H i = G (shS l r s i)
      have e : shS l r s i = i := by unfold shS; rw [if_neg c]
      rw [e]; exact this
  | k + 1, f + 1, p, tv, tw, U, H, h, hp, hk, h1, h2 => by
    have hn := h1.1
    have hd : 0 ≤ (p - l + s) % (r - l + 1) ∧ (p - l + s) % (r - l + 1) ≤ r - l := by
      by_cases c : p - l + s < r - l + 1
      · rw [md_1 (by omega) c]; omega
      · rw [md_2 (by omega) (by omega)]; omega
    obtain ⟨e1, h4⟩ := X6_lies_z hv h1 (p := p) (q := l + (p - l + s) % (r - l + 1)) (by omega) (by omega)
    rw [mX6_shift_L36, if_neg (show ¬ zI r < zI p by rw [zI_lt (by omega) (by omega) (by omega) (by omega)]; omega), zI_sub, zI_add, zI_sub, zI_a1, irm_z (by omega) (by omega) (by omega) (by omega), sob, zI_add, e1, sob, zI_a1]
    refine X6_shiftE_L hv hl hlr hr hs k f (p + 1) _ _ _ _ (by omega) (by omega) (by omega) h4 (fun i g0 g1 => ⟨fun c g2 => ?_, fun c => ?_⟩)
    · have hdst := shS_dst (p := p) (i := i) hlr hs (by omega) c
      unfold pt
      by_cases e : i = l + (p - l + s) % (r - l + 1)
      · rw [if_pos e, if_pos e, hdst.mp e]; exact ⟨rfl, rfl⟩
      · rw [if_neg e, if_neg e]
        exact (h2 i g0 g1).1 c (by
          rcases Int.lt_or_eq_of_le (show shS l r s i ≤ p by omega) with y | y
          · exact y
          · exact absurd (hdst.mpr y) e)
    · unfold pt
      rw [if_neg (by omega), if_neg (by omega)]
      exact (h2 i g0 g1).2 c
theorem P_shift {row nx : RowT} {past : PasT} {value weight pv pw pm tv tw : FnT} {n h b : Int} {V G : Int → Int} {P : PsT} {fr tm th : Int32} (hB : Bst row past value weight pv pw pm n h V G P) (hb : 2 ≤ b ∧ b ≤ 20) (x1 x2 x3 : Int32) :
    EdP (mX5_shift (zI b) fr row nx past x1 x2 x3) (mX6_shift th value weight (zI n) (zI b) pv pw pm (zI h) fr tv tw tm x1 x2 x3) := by
  obtain ⟨l, hl, rfl⟩ := zI_ex x1
  obtain ⟨r, hr, rfl⟩ := zI_ex x2
  obtain ⟨s, hss, rfl⟩ := zI_ex x3
  have hR := hB.1
  have hv := hB.2.1
  obtain ⟨hs, hn⟩ := hR.ok
  unfold mX5_shift mX6_shift
  rw [X2_hasSpan_z hs hn hl hr, X6_isSpan_z hn hl hr, sob, sob]
  by_cases c : 0 ≤ l ∧ l ≤ r ∧ r < n
  · rw [bz_t c, if_neg i1, if_neg i1]
    by_cases d0 : s < 0
    · rw [if_pos (show zI s < 0 by rw [z_0, zI_lt (by omega) (by omega) (by omega) (by omega)]; exact d0), if_pos (show zI s < 0 by rw [z_0, zI_lt (by omega) (by omega) (by omega) (by omega)]; exact d0)]
      exact EdP_no hB _
    · rw [if_neg (show ¬ zI s < 0 by rw [z_0, zI_lt (by omega) (by omega) (by omega) (by omega)]; exact d0), if_neg (show ¬ zI s < 0 by rw [z_0, zI_lt (by omega) (by omega) (by omega) (by omega)]; exact d0), zI_sub, zI_a1]
      by_cases d : s ≤ r - l + 1
      · rw [if_pos (show zI s ≤ zI (r - l + 1) by rw [zI_le (by omega) (by omega) (by omega) (by omega)]; exact d), if_pos (show zI s ≤ zI (r - l + 1) by rw [zI_le (by omega) (by omega) (by omega) (by omega)]; exact d)]
        obtain ⟨t1, e1, h1⟩ := X2_take_z hR nx
        obtain ⟨t2, e2, h2⟩ := X2_turn_z (l := l) (r := r) (by omega) (by omega) h1
        obtain ⟨t3, e3, h3⟩ := X2_turn_z (l := l) (r := l + s - 1) (by omega) (by omega) h2
        obtain ⟨t4, e4, h4⟩ := X2_turn_z (l := l + s) (r := r) (by omega) (by omega) h3
        rw [shS_cl V c.2.1 (by omega), shS_cl G c.2.1 (by omega)] at h4
        obtain ⟨tv1, tw1, e5, h5⟩ := X6_begins_z hv tv tw tm
        obtain ⟨tv2, tw2, e6, h6⟩ := X6_shiftE_L hv c.1 c.2.1 c.2.2 (s := s) (by omega) (r + 1 - l).toNat FU l tv1 tw1 V G (by rw [FU_e]; omega) (by omega) (by omega) h5 (fun i g0 g1 => ⟨fun y g2 => by
          exfalso
          unfold shS at g2
          rw [if_pos y] at g2
          by_cases q : i < l + s
          · rw [if_pos q] at g2; omega
          · rw [if_neg q] at g2; omega, fun _ => ⟨rfl, rfl⟩⟩)
        rw [e1, sob, e2, sob, zI_add, zI_m1, e3, sob, e4, sob, e5, sob]
        simp only []
        rw [e6, sob]
        exact E_same (nx0 := nx) (tv0 := tv) (tw0 := tw) (tm := tm) hB h4 h6 hb
      · rw [if_neg (show ¬ zI s ≤ zI (r - l + 1) by rw [zI_le (by omega) (by omega) (by omega) (by omega)]; exact d), if_neg (show ¬ zI s ≤ zI (r - l + 1) by rw [zI_le (by omega) (by omega) (by omega) (by omega)]; exact d)]
        exact EdP_no hB _
  · rw [bz_f c, if_pos rfl, if_pos rfl]; exact EdP_no hB _
/-! undo -/
theorem X6_undo_L {pv pw : FnT} {n u : Int} {V G : Int → Int} (hn : 0 ≤ n ∧ n ≤ 120) (hu : 0 ≤ u ∧ u ≤ 11) (hP : ∀ i, 0 ≤ i → i < n → pv (120 * u + i).toNat = zI (V i) ∧ pw (120 * u + i).toNat = zI (G i)) : ∀ (k f : Nat) (p : Int) (tv tw : FnT), k < f → 0 ≤ p → n = p + k → Ar tv p V → Ar tw p G → ∃ tv' tw', mX6_undo_L39 pv pw (zI u) (zI n) f (zI p) tv tw = some (tv', tw') ∧ Ar tv' n V ∧ Ar tw' n G
  | k, 0, p, tv, tw, h, _, _, _, _ => absurd h (Nat.not_lt_zero k)
  | 0, f + 1, p, tv, tw, _, hp, hk, h1, h2 => by
    rw [mX6_undo_L39, if_pos (show zI n ≤ zI p by rw [zI_le (by omega) (by omega) (by omega) (by omega)]; omega)]
    exact ⟨tv, tw, rfl, h1.sub (by omega), h2.sub (by omega)⟩
  | k + 1, f + 1, p, tv, tw, h, hp, hk, h1, h2 => by
    obtain ⟨y1, y2⟩ := hP p hp (by omega)
    rw [mX6_undo_L39, if_neg (show ¬ zI n ≤ zI p by rw [zI_le (by omega) (by omega) (by omega) (by omega)]; omega), show (120 : Int32) = zI 120 from rfl, zI_mul, zI_add, rd_in (by omega) (by omega) (by omega), y1, sob, wr_in (by omega) (by omega) (by omega), sob, rd_in (by omega) (by omega) (by omega), y2, sob, wr_in (by omega) (by omega) (by omega), sob, zI_a1]
    exact X6_undo_L hn hu hP k f (p + 1) _ _ (by omega) (by omega) (by omega) (Ar_ext h1 hp) (Ar_ext h2 hp)
theorem P_undo {row : RowT} {past : PasT} {value weight pv pw pm tv tw : FnT} {n h b : Int} {V G : Int → Int} {P : PsT} {fr tm th : Int32} (hB : Bst row past value weight pv pw pm n h V G P) (hb : 2 ≤ b ∧ b ≤ 20) :
    ∃ (a fr' : Int32) (row' : RowT) (past' : PasT) (va we tv' tw' : FnT) (tm' : Int32) (n' h' : Int) (V' G' : Int → Int) (P' : PsT), mX5_undo (zI b) fr row past = some (a, fr', row', past') ∧ mX6_undo th value weight (zI n) (zI b) pv pw pm (zI h) fr tv tw tm = some (a, 0, va, we, zI n', zI h', fr', tv', tw', tm') ∧ Bst row' past' va we pv pw pm n' h' V' G' P' := by
  obtain ⟨hR, hv, hp, hq⟩ := id hB
  obtain ⟨hh, hph, la, hla, hpl, hP⟩ := hp
  have hn := hR.1
  unfold mX5_undo mX6_undo
  rw [hph]
  by_cases c : h = 0
  · rw [if_neg (show ¬ ¬ zI h = 0 by rw [c]; exact not_not_intro rfl), if_neg (show ¬ ¬ zI h = 0 by rw [c]; exact not_not_intro rfl)]
    exact ⟨_, _, _, _, _, _, _, _, _, _, _, _, _, _, rfl, rfl, hB⟩
  · have hr := hP 1 (by omega) (by omega)
    obtain ⟨q1, q2, q3⟩ := hq.2 1 (by omega) (by omega)
    rw [if_pos (show ¬ zI h = 0 by rw [z_0, zI_eq (by omega) (by omega) (by omega) (by omega)]; exact c), if_pos (show ¬ zI h = 0 by rw [z_0, zI_eq (by omega) (by omega) (by omega) (by omega)]; exact c)]
    obtain ⟨t1, e1, h1⟩ := X2_take_z hr row
    obtain ⟨tv1, tw1, e2, h2, h3⟩ := X6_undo_L (pv := pv) (pw := pw) (u := h - 1) (V := (P 1).2.1) (G := (P 1).2.2) q1 (by omega) q3 (P 1).1.toNat FU 0 tv tw (by rw [FU_e]; omega) (by omega) (by omega) (Ar_0 _ _) (Ar_0 _ _)
    have h4 : Rt tv1 tw1 (P 1).1 (P 1).2.1 (P 1).2.2 := ⟨q1, h2, h3, hr.2.2.2.2⟩
    obtain ⟨va, we, e3, h5⟩ := X6_becomes_z (fr := fr) hv h4 hb
    have e4 : mX0_dropLatest past = some (past.1, zI (h - 1), zI ((la - 1) % 12)) := by
      unfold mX0_dropLatest
      rw [hpl, hph, zI_m1, zI_m1, fm_z (by omega), sob]
    have hpm : rd pm 12 (zI (h - 1)) = some (zI (P 1).1) := by rw [rd_in (by omega) (by omega) (by omega), q2]
    rw [show (1 : Int32) = zI 1 from rfl, X0_ago_z hla hpl (by omega), sob, X5_pairsTouched_z hR hr hb, sob, e1, sob, e4, sob, zI_sub, hpm, sob, show (0 : Int32) = zI 0 from rfl, e2, sob]
    simp only []
    rw [e3, sob]
    refine ⟨_, _, t1, _, va, we, tv1, tw1, _, (P 1).1, h - 1, _, _, fun k => P (k + 1), rfl, rfl, h1, h5, ⟨by omega, rfl, (la - 1) % 12, by omega, rfl, fun k hk1 hk2 => ?_⟩, by omega, fun k hk1 hk2 => ?_⟩
    · have := hP (k + 1) (by omega) (by omega)
      rw [show ((la - (k + 1 - 1)) % 12).toNat = (((la - 1) % 12 - (k - 1)) % 12).toNat by omega] at this
      exact this
    · have := hq.2 (k + 1) (by omega) (by omega)
      rw [show h - (k + 1) = h - 1 - k by omega] at this
      exact this

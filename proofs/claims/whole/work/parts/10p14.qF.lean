/-! PURE ROWS. windows, beginnings: the modes pushed aside, by the least of several -/
theorem dsT_push_len (x : Int) (R : List Int) : ((dsT (x :: R)).length : Int) = (dsT R).length + if x ∈ R then 0 else 1 := by
  simp only [dsT]
  by_cases e : x ∈ R
  · rw [if_pos e, if_pos e]; omega
  · rw [if_neg e, if_neg e, List.length_append]; simp only [List.length_cons, List.length_nil]; omega
/-- how many of k values from v on stand in R -/
def unT (R : List Int) : Int → Nat → Int
  | _, 0 => 0
  | v, k + 1 => (if 0 < cnT R v then 1 else 0) + unT R (v + 1) k
theorem unT_nil : ∀ (k : Nat) (v : Int), unT [] v k = 0
  | 0, v => rfl
  | k + 1, v => by simp only [unT, cnT]; rw [unT_nil k]; rfl
theorem unT_cons (x : Int) (R : List Int) : ∀ (k : Nat) (v : Int), unT (x :: R) v k = unT R v k + if x ∉ R ∧ v ≤ x ∧ x < v + k then 1 else 0
  | 0, v => by
    simp only [unT]
    rw [if_neg (by omega)]; rfl
  | k + 1, v => by
    have c0 := cnT_0 R x
    have c1 := cnT_nn R v
    have cx := cnT_nn R x
    have hc : cnT (x :: R) v = (if v = x then 1 else 0) + cnT R v := rfl
    simp only [unT]
    rw [unT_cons x R k (v + 1)]
    by_cases e : v = x
    · subst e
      rw [if_pos rfl] at hc
      rw [if_pos (show 0 < cnT (v :: R) v by omega), if_neg (show ¬ (v ∉ R ∧ v + 1 ≤ v ∧ v < v + 1 + k) by omega)]
      by_cases m : v ∈ R
      · have := (cnT_pos R v).mpr m
        rw [if_pos this, if_neg (fun q => q.1 m)]; omega
      · have := c0.mpr m
        rw [if_neg (show ¬ 0 < cnT R v by omega), if_pos ⟨m, by omega, by omega⟩]; omega
    · rw [if_neg e, Int.zero_add] at hc
      rw [hc]
      by_cases d : x ∉ R ∧ v + 1 ≤ x ∧ x < v + 1 + k
      · rw [if_pos d, if_pos (show x ∉ R ∧ v ≤ x ∧ x < v + ((k + 1 : Nat) : Int) from ⟨d.1, by omega, by omega⟩)]; omega
      · rw [if_neg d, if_neg (show ¬ (x ∉ R ∧ v ≤ x ∧ x < v + ((k + 1 : Nat) : Int)) from fun q => d ⟨q.1, by omega, by omega⟩)]; omega
theorem unT_all : ∀ (R : List Int), (∀ v ∈ R, 0 ≤ v ∧ v < 1000) → unT R 0 1000 = (dsT R).length
  | [], _ => unT_nil 1000 0
  | x :: R, h => by
    have hx := h x List.mem_cons_self
    rw [unT_cons, unT_all R (fun v hv => h v (List.mem_cons_of_mem _ hv)), dsT_push_len]
    by_cases m : x ∈ R
    · rw [if_neg (fun q => q.1 m), if_pos m]
    · rw [if_pos ⟨m, by omega, by omega⟩, if_neg m]
theorem X6_modes0 : ∀ (k f : Nat) (p : Int) (o : Nat → Int32), k < f → 0 ≤ p → 1000 = p + k → (∀ i, 0 ≤ i → i < p → o i.toNat = zI 0) → ∃ o', mX6_windows_L31 f (zI p) o = some o' ∧ Ar o' 1000 (fun _ => 0)
  | k, 0, p, o, h, _, _, _ => absurd h (Nat.not_lt_zero k)
  | 0, f + 1, p, o, _, hp, hk, ho => by
    simp (disch := omega) only [mX6_windows_L31, z_0, z_1, z_2, z_3, z_4, z_5, z_6, z_7, z_8, z_9, z_12, z_20, z_120, z_121, z_880, z_900, z_999, z_1000, zI_neg, zI_add, zI_sub, zI_mul, zI_lt, zI_le, zI_eq, sob, bz_0, Classical.not_not]
    rw [if_pos (show 1000 ≤ p by omega)]
    exact ⟨o, rfl, fun i h0 h1 => ho i h0 (by omega)⟩
  | k + 1, f + 1, p, o, h, hp, hk, ho => by
    simp (disch := omega) only [mX6_windows_L31, wr_in, z_0, z_1, z_2, z_3, z_4, z_5, z_6, z_7, z_8, z_9, z_12, z_20, z_120, z_121, z_880, z_900, z_999, z_1000, zI_neg, zI_add, zI_sub, zI_mul, zI_lt, zI_le, zI_eq, sob, bz_0, Classical.not_not]
    rw [if_neg (show ¬ 1000 ≤ p by omega)]
    refine X6_modes0 k f (p + 1) _ (by omega) (by omega) (by omega) (fun i h0 h1 => ?_)
    rw [upd_at hp h0]
    by_cases e : i = p
    · rw [if_pos e]
    · rw [if_neg e]; exact ho i h0 (by omega)
theorem X6_modes0b : ∀ (f : Nat) (x : Int32) (o : Nat → Int32), mX6_beginnings_L18 f x o = mX6_windows_L31 f x o
  | 0, x, o => rfl
  | f + 1, x, o => by
    rw [mX6_beginnings_L18, mX6_windows_L31]
    simp only [X6_modes0b f]
/-- one more mode in the reference's modes -/
theorem Ar_mode {md : Nat → Int32} {S : List Int} (h : Ar md 1000 (cnT S)) {x : Int} (hx : 0 ≤ x ∧ x < 1000) : Ar (upd md x.toNat (zI (cnT S x + 1))) 1000 (cnT (x :: S)) := (Ar_wr h hx.1).eq (fun i h0 h1 => by
  unfold pt
  simp only [cnT]
  by_cases e : i = x
  · rw [if_pos e, if_pos e, e]; omega
  · rw [if_neg e, if_neg e]; omega)
theorem X56_win_L {row : RowT} {value weight : Nat → Int32} {n t w : Int} {V G : Int → Int} (hR : Rw row n V G) (hv : Rv value weight n V G) (ht : 0 ≤ t ∧ t ≤ 3) (hw : 1 ≤ w ∧ w ≤ n) : ∀ (k f f' : Nat) (c b p : Int) (T A : TalT) (S : List Int) (o fo la un : Nat → Int32) (um : Int32) (md : Nat → Int32), k < f → k < f' → 0 ≤ p → n - w + 1 = p + k → TalC T → TalH 2 S A → Ar md 1000 (cnT S) → S.length = p.toNat → -1 ≤ b ∧ b < 1000 →
    ∃ (c' : Int) (T' A' : TalT) (S' : List Int) (o' fo' la' un' : Nat → Int32) (um' : Int32) (md' : Nat → Int32), mX5_windows_L42 (zI t) row (zI w) f (zI c) (zI b) (zI p) T A = some (zI c', T', A') ∧ TalC T' ∧ TalH 2 S' A' ∧ mX6_windows_L59 value (zI n) (zI t) (zI w) f' (zI c) (zI b) (zI p) o fo la un um md = some (zI c', o', fo', la', un', um', md') ∧ Ar md' 1000 (cnT S') ∧ (0 < k → S' ≠ [])
  | k, 0, f', c, b, p, T, A, S, o, fo, la, un, um, md, h, _, _, _, _, _, _, _, _ => absurd h (Nat.not_lt_zero k)
  | k, f + 1, 0, c, b, p, T, A, S, o, fo, la, un, um, md, _, h, _, _, _, _, _, _, _ => absurd h (Nat.not_lt_zero k)
  | 0, f + 1, f' + 1, c, b, p, T, A, S, o, fo, la, un, um, md, _, _, hp, hk, hT, hA, hM, hS, hb => by
    obtain ⟨hs, hn⟩ := hR.ok
    simp (disch := omega) only [mX5_windows_L42, mX6_windows_L59, hs, zI_lt, zI_sub, zI_add]
    rw [if_pos (show n - w < p by omega), if_pos (show n < p + w by omega)]
    exact ⟨c, T, A, S, o, fo, la, un, um, md, rfl, hT, hA, rfl, hM, fun q => absurd q (Nat.lt_irrefl 0)⟩
  | k + 1, f + 1, f' + 1, c, b, p, T, A, S, o, fo, la, un, um, md, h, h', hp, hk, hT, hA, hM, hS, hb => by
    obtain ⟨hs, hn⟩ := hR.ok
    obtain ⟨T1, e1, h1⟩ := X5_modeOf_z hR ht (l := p) (r := p + w - 1) (by omega) (by omega) (by omega) hT
    obtain ⟨z, e2, h2⟩ := X6_modeOf_z hv ht (l := p) (r := p + w - 1) (by omega) (by omega) (by omega) o fo la un um
    have hbn := bsT_nn (t := t) h1.ok (spT_ne (by omega))
    generalize bsT t (spT V p (p + w - 1)) = x at e1 e2 hbn
    obtain ⟨A1, e3, h3⟩ := X3_push_z hA (x := x) (okT_cons hbn hA.ok (by omega))
    have cx := cnT_nn S x
    have okS := hA.ok.1
    have go := fun c2 => X56_win_L hR hv ht hw k f f' c2 x (p + 1) T1 A1 (x :: S) z.1 z.2.1 z.2.2.1 z.2.2.2.1 z.2.2.2.2 (upd md x.toNat (zI (cnT S x + 1))) (by omega) (by omega) (by omega) (by omega) h1.clean h3 (Ar_mode hM hbn) (by rw [List.length_cons]; omega) (by omega)
    have fin : ∀ c2, ∃ (c' : Int) (T' A' : TalT) (S' : List Int) (o' fo' la' un' : Nat → Int32) (um' : Int32) (md' : Nat → Int32), mX5_windows_L42 (zI t) row (zI w) f (zI c2) (zI x) (zI (p + 1)) T1 A1 = some (zI c', T', A') ∧ TalC T' ∧ TalH 2 S' A' ∧ mX6_windows_L59 value (zI n) (zI t) (zI w) f' (zI c2) (zI x) (zI (p + 1)) z.1 z.2.1 z.2.2.1 z.2.2.2.1 z.2.2.2.2 (upd md x.toNat (zI (cnT S x + 1))) = some (zI c', o', fo', la', un', um', md') ∧ Ar md' 1000 (cnT S') ∧ (0 < k + 1 → S' ≠ []) := by
      intro c2
      obtain ⟨c', T', A', S', o', fo', la', un', um', md', q1, q2, q3, q4, q5, q6⟩ := go c2
      refine ⟨c', T', A', S', o', fo', la', un', um', md', q1, q2, q3, q4, q5, fun _ => ?_⟩
      by_cases k0 : 0 < k
      · exact q6 k0
      · -- the last one: what was pushed stands
        have k00 : k = 0 := by omega
        subst k00
        cases f with
        | zero => omega
        | succ f =>
          simp (disch := omega) only [mX5_windows_L42, hs, zI_lt, zI_sub] at q1
          rw [if_pos (show n - w < p + 1 by omega)] at q1
          have e := Option.some.inj q1
          have eA : A' = A1 := by
            have := congrArg (fun q => q.2.2) e
            exact this.symm
          subst eA
          intro hS'
          subst hS'
          have a1 := q3.len
          have a2 := h3.len
          rw [a1] at a2
          have := zI_inj a2 (by omega) (by simp) (by omega) (by rw [List.length_cons]; omega)
          simp only [List.length_nil, List.length_cons] at this
          omega
    rw [mX5_windows_L42, mX6_windows_L59]
    rw [if_neg (show ¬ row.2.2 - zI w < zI p by rw [hs, zI_sub, zI_lt (by omega) (by omega) (by omega) (by omega)]; omega), if_neg (show ¬ zI n < zI p + zI w by rw [zI_add, zI_lt (by omega) (by omega) (by omega) (by omega)]; omega)]
    rw [show zI p + zI w - 1 = zI (p + w - 1) by rw [zI_add, zI_m1], e1, sob, e2, sob, e3]
    simp only [sob]
    rw [rd_A hM hbn.1 hbn.2 (by omega) (by omega)]
    simp only [sob]
    simp only [zI_a1]
    rw [wr_in hbn.1 (by omega) (by omega)]
    simp only [sob]
    by_cases p0 : p ≤ 0
    · rw [if_pos (show zI p ≤ 0 by rw [z_0, zI_le (by omega) (by omega) (by omega) (by omega)]; omega), if_pos (show zI p ≤ 0 by rw [z_0, zI_le (by omega) (by omega) (by omega) (by omega)]; omega), sob, sob, zI_a0]
      exact fin c
    · rw [if_neg (show ¬ zI p ≤ 0 by rw [z_0, zI_le (by omega) (by omega) (by omega) (by omega)]; omega), if_neg (show ¬ zI p ≤ 0 by rw [z_0, zI_le (by omega) (by omega) (by omega) (by omega)]; omega)]
      by_cases xb : x = b
      · rw [if_pos (show zI x = zI b by rw [xb]), if_pos (show zI x = zI b by rw [xb]), sob, sob, zI_a0]
        exact fin c
      · rw [if_neg (show ¬ zI x = zI b by rw [zI_eq (by omega) (by omega) (by omega) (by omega)]; exact xb), if_neg (show ¬ zI x = zI b by rw [zI_eq (by omega) (by omega) (by omega) (by omega)]; exact xb), sob, sob, zI_a1]
        exact fin (c + 1)
/-- the reference's last loop: how many modes, the one of most -/
theorem X6_win_M {md : Nat → Int32} {S : List Int} (ok : okT S) (hM : Ar md 1000 (cnT S)) : ∀ (k f : Nat) (u b p : Int), k < f → 0 ≤ p → 1000 = p + k → ((b = -1 ∧ ∀ v ∈ S, p ≤ v) ∨ (b ∈ S ∧ b < p ∧ ∀ v ∈ S, v < p → kyT 2 S v ≤ kyT 2 S b)) →
    ∃ b', mX6_windows_L134 md f (zI u) (zI b) (zI p) = some (zI (u + unT S p k), zI b') ∧ isB 2 S b'
  | k, 0, u, b, p, h, _, _, _ => absurd h (Nat.not_lt_zero k)
  | 0, f + 1, u, b, p, _, hp, hk, hi => by
    simp (disch := omega) only [mX6_windows_L134, z_0, z_1, z_2, z_3, z_4, z_5, z_6, z_7, z_8, z_9, z_12, z_20, z_120, z_121, z_880, z_900, z_999, z_1000, zI_neg, zI_add, zI_sub, zI_mul, zI_lt, zI_le, zI_eq, sob, bz_0, Classical.not_not]
    rw [if_pos (show 1000 ≤ p by omega)]
    simp only [unT, Int.add_zero]
    refine ⟨b, rfl, ?_⟩
    rcases hi with ⟨h1, h2⟩ | ⟨h1, h2, h3⟩
    · refine Or.inl ⟨?_, h1⟩
      cases S with
      | nil => rfl
      | cons x S => have := h2 x List.mem_cons_self; have := ok.2 x List.mem_cons_self; omega
    · exact Or.inr ⟨h1, fun v hv => h3 v hv (by have := ok.2 v hv; omega)⟩
  | k + 1, f + 1, u, b, p, h, hp, hk, hi => by
    have cp := cnT_nn S p
    have cm := cnT_pos S p
    have okl := ok.1
    rw [mX6_windows_L134, if_neg (show ¬ (1000 : Int32) ≤ zI p by rw [z_1000, zI_le (by omega) (by omega) (by omega) (by omega)]; omega), rd_A hM hp (by omega) (by omega) (by omega), sob]
    simp only [sob]
    rw [zI_a1]
    simp only [unT]
    have cnt : (if zI (cnT S p) ≤ 0 then some (0 : Int32) else some 1) = some (zI (if 0 < cnT S p then 1 else 0)) := by
      by_cases d : 0 < cnT S p
      · rw [if_neg (show ¬ zI (cnT S p) ≤ 0 by rw [z_0, zI_le (by omega) (by omega) (by omega) (by omega)]; omega), if_pos d]; rfl
      · rw [if_pos (show zI (cnT S p) ≤ 0 by rw [z_0, zI_le (by omega) (by omega) (by omega) (by omega)]; omega), if_neg d]; rfl
    rw [cnt, sob, zI_add]
    generalize (if 0 < cnT S p then (1 : Int) else 0) = one
    rw [← Int.add_assoc]
    rcases hi with ⟨h1, h2⟩ | ⟨h1, h2, h3⟩
    · subst h1
      rw [if_neg (show ¬ ¬ zI (-1) = (-1 : Int32) from not_not_intro rfl)]
      by_cases d : 0 < cnT S p
      · rw [if_neg (show ¬ zI (cnT S p) ≤ 0 by rw [z_0, zI_le (by omega) (by omega) (by omega) (by omega)]; omega)]
        exact X6_win_M ok hM k f _ p (p + 1) (by omega) (by omega) (by omega) (Or.inr ⟨cm.mp d, by omega, fun v hv hvp => by rw [show v = p by have := h2 v hv; omega]; exact Int.le_refl _⟩)
      · rw [if_pos (show zI (cnT S p) ≤ 0 by rw [z_0, zI_le (by omega) (by omega) (by omega) (by omega)]; omega)]
        exact X6_win_M ok hM k f _ (-1) (p + 1) (by omega) (by omega) (by omega) (Or.inl ⟨rfl, fun v hv => by
          have := h2 v hv
          rcases Int.lt_or_eq_of_le this with q | q
          · omega
          · rw [← q] at hv; exact absurd (cm.mpr hv) d⟩)
    · have bb := ok.2 b h1
      have cb := cnT_nn S b
      rw [if_pos (show ¬ zI b = -1 by rw [z_m1, zI_eq (by omega) (by omega) (by omega) (by omega)]; omega), rd_A hM bb.1 bb.2 (by omega) (by omega), sob]
      simp (disch := omega) only [zI_le]
      by_cases d : cnT S p ≤ cnT S b
      · rw [if_pos d]
        exact X6_win_M ok hM k f _ b (p + 1) (by omega) (by omega) (by omega) (Or.inr ⟨h1, by omega, fun v hv hvp => by
          by_cases q : v = p
          · rw [q]; unfold kyT; rw [tiT_2, tiT_2]; omega
          · exact h3 v hv (by omega)⟩)
      · rw [if_neg d]
        have pm : p ∈ S := cm.mp (by omega)
        exact X6_win_M ok hM k f _ p (p + 1) (by omega) (by omega) (by omega) (Or.inr ⟨pm, by omega, fun v hv hvp => by
          by_cases q : v = p
          · rw [q]; exact Int.le_refl _
          · have h4 := h3 v hv (by omega)
            unfold kyT at h4 ⊢
            rw [tiT_2, tiT_2] at h4 ⊢
            have := ok.2 v hv
            omega⟩)
theorem P_windows {row : RowT} {value weight : Nat → Int32} {n t : Int} {V G : Int → Int} {T A : TalT} (hR : Rw row n V G) (hv : Rv value weight n V G) (ht : 0 ≤ t ∧ t ≤ 3) (hT : TalC T) (hA : TalC A) (th : Int32) (o fo la un : Nat → Int32) (um : Int32) (md : Nat → Int32) (x1 x2 : Int32) :
    ∃ (a : Int32) (T' A' : TalT) (o' fo' la' un' : Nat → Int32) (um' : Int32) (md' : Nat → Int32), mX5_windows (zI t) row T A x1 x2 = some (a, T', A') ∧ TalC T' ∧ TalC A' ∧ mX6_windows th value (zI n) (zI t) o fo la un um md x1 x2 = some (a, 0, o', fo', la', un', um', md') := by
  obtain ⟨w, hw, rfl⟩ := zI_ex x1
  obtain ⟨q, hq, rfl⟩ := zI_ex x2
  obtain ⟨hs, hn⟩ := hR.ok
  simp (disch := omega) only [mX5_windows, mX6_windows, hs, X5_isBelow_z hq, z_0, z_1, z_2, z_3, z_4, z_5, z_6, z_7, z_8, z_9, z_12, z_20, z_120, z_121, z_880, z_900, z_999, z_1000, zI_neg, zI_add, zI_sub, zI_mul, zI_lt, zI_le, zI_eq, sob, bz_0, Classical.not_not]
  by_cases c : w < 1
  · rw [if_pos c, if_pos c]; exact ⟨_, _, _, _, _, _, _, _, _, rfl, hT, hA, rfl⟩
  · rw [if_neg c, if_neg c]
    by_cases c2 : n < w
    · rw [if_pos c2, if_pos c2]; exact ⟨_, _, _, _, _, _, _, _, _, rfl, hT, hA, rfl⟩
    · rw [if_neg c2, if_neg c2]
      by_cases d : 0 ≤ q ∧ q < 3
      · rw [if_pos d, if_neg (show ¬ q < 0 by omega), if_pos (show q ≤ 2 by omega)]
        obtain ⟨A1, e1, h1⟩ := X3_begin_z hA (t := 2) (by omega)
        obtain ⟨md1, e2, h2⟩ := X6_modes0 1000 FU 0 md (by rw [FU_e]; omega) (by omega) (by omega) (fun i h0 h1 => by omega)
        obtain ⟨c', T', A', S', o', fo', la', un', um', md', q1, q2, q3, q4, q5, q6⟩ := X56_win_L hR hv ht (w := w) (by omega) (n - w + 1).toNat FU FU 0 (-1) 0 T A1 [] o fo la un um md1 (by rw [FU_e]; omega) (by rw [FU_e]; omega) (by omega) (by omega) hT h1 (h2.eq (fun i _ _ => rfl)) rfl (by omega)
        obtain ⟨b', r1, r2⟩ := X6_win_M q3.ok q5 1000 FU 0 (-1) 0 (by rw [FU_e]; omega) (by omega) (by omega) (Or.inl ⟨rfl, fun v hv => (q3.ok.2 v hv).1⟩)
        have hb := isB_uq q3.ok r2 (bsT_isB q3.ok)
        rw [e1, sob, q1, sob, e2, sob, q4, sob]
        simp only []
        rw [r1, sob, q3.kinds, q3.best, Int.zero_add, unT_all S' q3.ok.2, hb]
        by_cases d0 : q = 0
        · rw [if_neg (not_not_intro d0), if_neg (not_not_intro d0)]; exact ⟨_, _, _, _, _, _, _, _, _, rfl, q2, q3.clean, rfl⟩
        · rw [if_pos d0, if_pos d0]
          by_cases d1 : q = 1
          · rw [if_neg (not_not_intro d1), if_neg (not_not_intro d1)]; exact ⟨_, _, _, _, _, _, _, _, _, rfl, q2, q3.clean, rfl⟩
          · rw [if_pos d1, if_pos d1]; exact ⟨_, _, _, _, _, _, _, _, _, rfl, q2, q3.clean, rfl⟩
      · rw [if_neg d]
        by_cases w0 : q < 0
        · rw [if_pos w0]; exact ⟨_, _, _, _, _, _, _, _, _, rfl, hT, hA, rfl⟩
        · rw [if_neg w0, if_neg (show ¬ q ≤ 2 by omega)]; exact ⟨_, _, _, _, _, _, _, _, _, rfl, hT, hA, rfl⟩

/-! PURE ROWS. The edits one by one: set, weigh, insert, remove, fill, swap, replace -/
abbrev FnT : Type := Nat → Int32
def EdP (o5 : Option (Int32 × Int32 × RowT × RowT × PasT)) (o6 : Option (Int32 × Int32 × FnT × FnT × Int32 × FnT × FnT × FnT × Int32 × Int32 × FnT × FnT × Int32)) : Prop :=
  ∃ (a fr' : Int32) (row' nx' : RowT) (past' : PasT) (va we pv' pw' pm' tv' tw' : FnT) (tm' : Int32) (n' h' : Int) (V' G' : Int → Int) (P' : PsT), o5 = some (a, fr', row', nx', past') ∧ o6 = some (a, 0, va, we, zI n', pv', pw', pm', zI h', fr', tv', tw', tm') ∧ Bst row' past' va we pv' pw' pm' n' h' V' G' P'
theorem EdP_no {row nx : RowT} {past : PasT} {value weight pv pw pm tv tw : FnT} {n h : Int} {V G : Int → Int} {P : PsT} {fr tm : Int32} (hB : Bst row past value weight pv pw pm n h V G P) (a : Int32) : EdP (some (a, fr, row, nx, past)) (some (a, 0, value, weight, zI n, pv, pw, pm, zI h, fr, tv, tw, tm)) :=
  ⟨a, fr, row, nx, past, value, weight, pv, pw, pm, tv, tw, tm, n, h, V, G, P, rfl, rfl, hB⟩
theorem Rw.eq {t : RowT} {n : Int} {V G V' G' : Int → Int} (h : Rw t n V G) (e : ∀ i, 0 ≤ i → i < n → V i = V' i ∧ G i = G' i) : Rw t n V' G' :=
  ⟨h.1, h.2.1, h.2.2.1.eq (fun i h0 h1 => (e i h0 h1).1), h.2.2.2.1.eq (fun i h0 h1 => (e i h0 h1).2), fun i h0 h1 => by rw [← (e i h0 h1).1, ← (e i h0 h1).2]; exact h.2.2.2.2 i h0 h1⟩
theorem Rt.eq {tv tw : FnT} {n : Int} {V G V' G' : Int → Int} (h : Rt tv tw n V G) (e : ∀ i, 0 ≤ i → i < n → V i = V' i ∧ G i = G' i) : Rt tv tw n V' G' :=
  ⟨h.1, h.2.1.eq (fun i h0 h1 => (e i h0 h1).1), h.2.2.1.eq (fun i h0 h1 => (e i h0 h1).2), fun i h0 h1 => by rw [← (e i h0 h1).1, ← (e i h0 h1).2]; exact h.2.2.2 i h0 h1⟩
theorem Rw.setV {t : RowT} {n p v : Int} {V G : Int → Int} (h : Rw t n V G) (hp : 0 ≤ p) (hv : 0 ≤ v ∧ v < 1000) : Rw (upd t.1 p.toNat (zI v), t.2.1, t.2.2) n (pt V p v) G :=
  ⟨h.1, h.2.1, Ar_wr h.2.2.1 hp, h.2.2.2.1, fun i h0 h1 => by
    have := h.2.2.2.2 i h0 h1
    by_cases e : i = p
    · rw [e, pt_same]; exact ⟨hv, by rw [e] at this; exact this.2⟩
    · rw [pt_ne V v e]; exact this⟩
theorem Rw.setG {t : RowT} {n p v : Int} {V G : Int → Int} (h : Rw t n V G) (hp : 0 ≤ p) (hv : 1 ≤ v ∧ v ≤ 9) : Rw (t.1, upd t.2.1 p.toNat (zI v), t.2.2) n V (pt G p v) :=
  ⟨h.1, h.2.1, h.2.2.1, Ar_wr h.2.2.2.1 hp, fun i h0 h1 => by
    have := h.2.2.2.2 i h0 h1
    by_cases e : i = p
    · rw [e, pt_same]; exact ⟨by rw [e] at this; exact this.1, hv⟩
    · rw [pt_ne G v e]; exact this⟩
theorem Rt.setV {tv tw : FnT} {n p v : Int} {V G : Int → Int} (h : Rt tv tw n V G) (hp : 0 ≤ p) (hv : 0 ≤ v ∧ v < 1000) : Rt (upd tv p.toNat (zI v)) tw n (pt V p v) G :=
  ⟨h.1, Ar_wr h.2.1 hp, h.2.2.1, fun i h0 h1 => by
    have := h.2.2.2 i h0 h1
    by_cases e : i = p
    · rw [e, pt_same]; exact ⟨hv, by rw [e] at this; exact this.2⟩
    · rw [pt_ne V v e]; exact this⟩
theorem Rt.setG {tv tw : FnT} {n p v : Int} {V G : Int → Int} (h : Rt tv tw n V G) (hp : 0 ≤ p) (hv : 1 ≤ v ∧ v ≤ 9) : Rt tv (upd tw p.toNat (zI v)) n V (pt G p v) :=
  ⟨h.1, h.2.1, Ar_wr h.2.2.1 hp, fun i h0 h1 => by
    have := h.2.2.2 i h0 h1
    by_cases e : i = p
    · rw [e, pt_same]; exact ⟨by rw [e] at this; exact this.1, hv⟩
    · rw [pt_ne G v e]; exact this⟩
theorem P_set {row nx : RowT} {past : PasT} {value weight pv pw pm tv tw : FnT} {n h b : Int} {V G : Int → Int} {P : PsT} {fr tm th : Int32} (hB : Bst row past value weight pv pw pm n h V G P) (hb : 2 ≤ b ∧ b ≤ 20) (x1 x2 : Int32) :
    EdP (mX5_set (zI b) fr row nx past x1 x2) (mX6_set th value weight (zI n) (zI b) pv pw pm (zI h) fr tv tw tm x1 x2) := by
  obtain ⟨p, hp, rfl⟩ := zI_ex x1
  obtain ⟨v, hvv, rfl⟩ := zI_ex x2
  have hR := hB.1
  have hv := hB.2.1
  obtain ⟨hs, hn⟩ := hR.ok
  unfold mX5_set mX6_set
  rw [X2_has_z hs hn hp, X6_isPlace_z hn hp, sob, sob]
  by_cases c : 0 ≤ p ∧ p < n
  · rw [bz_t c, if_neg i1, if_neg i1, X5_isValue_z hvv, X6_isValue_z hvv, sob, sob]
    by_cases d : 0 ≤ v ∧ v < 1000
    · rw [bz_t d, if_pos i1, if_pos i1]
      obtain ⟨t1, e1, h1⟩ := X2_take_z hR nx
      obtain ⟨tv1, tw1, e2, h2⟩ := X6_begins_z hv tv tw tm
      obtain ⟨a, fr', row', past', va, we, pv', pw', pm', h', V', G', P', e3, e4, h5, _⟩ := E_both (fr := fr) hB (h1.setV (p := p) (v := v) c.1 d) (h2.setV (p := p) (v := v) c.1 d) hb
      rw [rd_A hR.2.2.1 c.1 c.2 (by omega) (by omega), sob, e1, sob, wr_in c.1 (by omega) (by omega), sob, e3, sob, rd_A hv.2.1 c.1 c.2 (by omega) (by omega), sob, e2, sob, wr_in c.1 (by omega) (by omega), sob, e4, sob]
      exact ⟨_, _, _, _, _, _, _, _, _, _, _, _, _, _, _, _, _, _, rfl, rfl, h5⟩
    · rw [bz_f d, if_neg i0n, if_neg i0n]; exact EdP_no hB _
  · rw [bz_f c, if_pos rfl, if_pos rfl]; exact EdP_no hB _
theorem P_weigh {row nx : RowT} {past : PasT} {value weight pv pw pm tv tw : FnT} {n h b : Int} {V G : Int → Int} {P : PsT} {fr tm th : Int32} (hB : Bst row past value weight pv pw pm n h V G P) (hb : 2 ≤ b ∧ b ≤ 20) (x1 x2 : Int32) :
    EdP (mX5_weigh (zI b) fr row nx past x1 x2) (mX6_weigh th value weight (zI n) (zI b) pv pw pm (zI h) fr tv tw tm x1 x2) := by
  obtain ⟨p, hp, rfl⟩ := zI_ex x1
  obtain ⟨v, hvv, rfl⟩ := zI_ex x2
  have hR := hB.1
  have hv := hB.2.1
  obtain ⟨hs, hn⟩ := hR.ok
  unfold mX5_weigh mX6_weigh
  rw [X2_has_z hs hn hp, X6_isPlace_z hn hp, sob, sob]
  by_cases c : 0 ≤ p ∧ p < n
  · rw [bz_t c, if_neg i1, if_neg i1]
    by_cases d0 : v < 1
    · rw [if_pos (show zI v < 1 by rw [z_1, zI_lt (by omega) (by omega) (by omega) (by omega)]; exact d0), if_pos (show zI v < 1 by rw [z_1, zI_lt (by omega) (by omega) (by omega) (by omega)]; exact d0)]
      exact EdP_no hB _
    · rw [if_neg (show ¬ zI v < 1 by rw [z_1, zI_lt (by omega) (by omega) (by omega) (by omega)]; exact d0), if_neg (show ¬ zI v < 1 by rw [z_1, zI_lt (by omega) (by omega) (by omega) (by omega)]; exact d0)]
      by_cases d : v ≤ 9
      · rw [if_pos (show zI v ≤ 9 by rw [z_9, zI_le (by omega) (by omega) (by omega) (by omega)]; exact d), if_pos (show zI v ≤ 9 by rw [z_9, zI_le (by omega) (by omega) (by omega) (by omega)]; exact d)]
        obtain ⟨t1, e1, h1⟩ := X2_take_z hR nx
        obtain ⟨tv1, tw1, e2, h2⟩ := X6_begins_z hv tv tw tm
        obtain ⟨a, fr', row', past', va, we, pv', pw', pm', h', V', G', P', e3, e4, h5, _⟩ := E_both (fr := fr) hB (h1.setG (p := p) (v := v) c.1 (by omega)) (h2.setG (p := p) (v := v) c.1 (by omega)) hb
        rw [rd_A hR.2.2.2.1 c.1 c.2 (by omega) (by omega), sob, e1, sob, wr_in c.1 (by omega) (by omega), sob, e3, sob, rd_A hv.2.2.1 c.1 c.2 (by omega) (by omega), sob, e2, sob, wr_in c.1 (by omega) (by omega), sob, e4, sob]
        exact ⟨_, _, _, _, _, _, _, _, _, _, _, _, _, _, _, _, _, _, rfl, rfl, h5⟩
      · rw [if_neg (show ¬ zI v ≤ 9 by rw [z_9, zI_le (by omega) (by omega) (by omega) (by omega)]; exact d), if_neg (show ¬ zI v ≤ 9 by rw [z_9, zI_le (by omega) (by omega) (by omega) (by omega)]; exact d)]
        exact EdP_no hB _
  · rw [bz_f c, if_pos rfl, if_pos rfl]; exact EdP_no hB _
/-! insert -/
def inV (V : Int → Int) (p v : Int) : Int → Int := fun i => if i < p then V i else if i = p then v else V (i - 1)
/-- an array opened down to q: what stood at q and behind stands one further -/
def opn (f : FnT) (n q : Int) (V : Int → Int) : Prop := (∀ i, 0 ≤ i → i < n → i ≤ q → f i.toNat = zI (V i)) ∧ (∀ i, q < i → i ≤ n → f i.toNat = zI (V (i - 1)))
theorem opn_step {f : FnT} {n q : Int} {V : Int → Int} (h : opn f n q V) (hq : 0 < q) (hqn : q ≤ n) : opn (upd f q.toNat (f (q - 1).toNat)) n (q - 1) V := by
  refine ⟨fun i h0 h1 h2 => ?_, fun i h1 h2 => ?_⟩
  · rw [upd_at (by omega) h0, if_neg (by omega)]; exact h.1 i h0 h1 (by omega)
  · rw [upd_at (by omega) (by omega)]
    by_cases e : i = q
    · rw [if_pos e, e]; exact h.1 (q - 1) (by omega) (by omega) (by omega)
    · rw [if_neg e]; exact h.2 i (by omega) h2
theorem opn_fin {f : FnT} {n p v : Int} {V : Int → Int} (h : opn f n p V) (hp : 0 ≤ p ∧ p ≤ n) : Ar (upd f p.toNat (zI v)) (n + 1) (inV V p v) := by
  intro i h0 h1
  rw [upd_at hp.1 h0]
  unfold inV
  by_cases e : i = p
  · rw [if_pos e, if_neg (by omega), if_pos e]
  · rw [if_neg e]
    by_cases d : i < p
    · rw [if_pos d]; exact h.1 i h0 (by omega) (by omega)
    · rw [if_neg d, if_neg e]; exact h.2 i (by omega) (by omega)
theorem X2_open_L {n p : Int} {V G : Int → Int} (hn : 0 ≤ n ∧ n < 120) (hp : 0 ≤ p ∧ p ≤ n) : ∀ (k f : Nat) (q : Int) (t : RowT), k < f → q = p + k → q ≤ n → opn t.1 n q V → opn t.2.1 n q G → ∃ t', mX2_open_L5 (zI p) f (zI q) t = some t' ∧ opn t'.1 n p V ∧ opn t'.2.1 n p G ∧ t'.2.2 = t.2.2
  | k, 0, q, t, h, _, _, _, _ => absurd h (Nat.not_lt_zero k)
  | 0, f + 1, q, t, _, hk, hq, h1, h2 => by
    rw [mX2_open_L5, if_pos (show zI q ≤ zI p by rw [zI_le (by omega) (by omega) (by omega) (by omega)]; omega)]
    have : q = p := by omega
    subst this
    exact ⟨t, rfl, h1, h2, rfl⟩
  | k + 1, f + 1, q, t, h, hk, hq, h1, h2 => by
    rw [mX2_open_L5, if_neg (show ¬ zI q ≤ zI p by rw [zI_le (by omega) (by omega) (by omega) (by omega)]; omega), zI_m1, rd_in (by omega) (by omega) (by omega), sob, wr_in (by omega) (by omega) (by omega), sob, rd_in (by omega) (by omega) (by omega), sob, wr_in (by omega) (by omega) (by omega), sob, zI_d1]
    obtain ⟨t', e1, h3, h4, h5⟩ := X2_open_L hn hp k f (q - 1) (upd t.1 q.toNat (t.1 (q - 1).toNat), upd t.2.1 q.toNat (t.2.1 (q - 1).toNat), t.2.2) (by omega) (by omega) (by omega) (opn_step h1 (by omega) hq) (opn_step h2 (by omega) hq)
    exact ⟨t', e1, h3, h4, h5⟩
theorem X2_open_z {t : RowT} {n p v : Int} {V G : Int → Int} (hR : Rw t n V G) (hn : n < 120) (hp : 0 ≤ p ∧ p ≤ n) (hv : 0 ≤ v ∧ v < 1000) : ∃ t', mX2_open t (zI p) (zI v) = some t' ∧ Rw t' (n + 1) (inV V p v) (inV G p 1) := by
  have hn0 := hR.1
  obtain ⟨t1, e1, h1, h2, h3⟩ := X2_open_L (V := V) (G := G) (p := p) (by omega) hp (n - p).toNat FU n t (by rw [FU_e]; omega) (by omega) (by omega) ⟨fun i h0 h1 _ => hR.2.2.1 i h0 h1, fun i h0 h1 => by omega⟩ ⟨fun i h0 h1 _ => hR.2.2.2.1 i h0 h1, fun i h0 h1 => by omega⟩
  refine ⟨(upd t1.1 p.toNat (zI v), upd t1.2.1 p.toNat (zI 1), zI (n + 1)), ?_, by omega, rfl, opn_fin h1 hp, opn_fin h2 hp, fun i h0 h4 => ?_⟩
  · unfold mX2_open
    rw [hR.2.1, e1, sob, wr_in (by omega) (by omega) (by omega), sob, wr_in (by omega) (by omega) (by omega), sob, h3, hR.2.1, zI_a1]
    rfl
  · unfold inV
    by_cases d : i < p
    · rw [if_pos d, if_pos d]; exact hR.2.2.2.2 i h0 (by omega)
    · rw [if_neg d, if_neg d]
      by_cases e : i = p
      · rw [if_pos e, if_pos e]; omega
      · rw [if_neg e, if_neg e]; exact hR.2.2.2.2 (i - 1) (by omega) (by omega)
theorem X6_insert_L {n p : Int} {V G : Int → Int} (hn : 0 ≤ n ∧ n < 120) (hp : 0 ≤ p ∧ p ≤ n) : ∀ (k f : Nat) (q : Int) (tv tw : FnT), k < f → q = p + k → q ≤ n → opn tv n q V → opn tw n q G → ∃ tv' tw', mX6_insert_L44 (zI p) f (zI q) tv tw = some (tv', tw') ∧ opn tv' n p V ∧ opn tw' n p G
  | k, 0, q, tv, tw, h, _, _, _, _ => absurd h (Nat.not_lt_zero k)
  | 0, f + 1, q, tv, tw, _, hk, hq, h1, h2 => by
    rw [mX6_insert_L44, if_pos (show zI q ≤ zI p by rw [zI_le (by omega) (by omega) (by omega) (by omega)]; omega)]
    have : q = p := by omega
    subst this
    exact ⟨tv, tw, rfl, h1, h2⟩
  | k + 1, f + 1, q, tv, tw, h, hk, hq, h1, h2 => by
    rw [mX6_insert_L44, if_neg (show ¬ zI q ≤ zI p by rw [zI_le (by omega) (by omega) (by omega) (by omega)]; omega), zI_m1, rd_in (by omega) (by omega) (by omega), sob, wr_in (by omega) (by omega) (by omega), sob, rd_in (by omega) (by omega) (by omega), sob, wr_in (by omega) (by omega) (by omega), sob, zI_d1]
    exact X6_insert_L hn hp k f (q - 1) _ _ (by omega) (by omega) (by omega) (opn_step h1 (by omega) hq) (opn_step h2 (by omega) hq)
theorem P_insert {row nx : RowT} {past : PasT} {value weight pv pw pm tv tw : FnT} {n h b : Int} {V G : Int → Int} {P : PsT} {fr tm th : Int32} (hB : Bst row past value weight pv pw pm n h V G P) (hb : 2 ≤ b ∧ b ≤ 20) (x1 x2 : Int32) :
    EdP (mX5_insert (zI b) fr row nx past x1 x2) (mX6_insert th value weight (zI n) (zI b) pv pw pm (zI h) fr tv tw tm x1 x2) := by
  obtain ⟨p, hp, rfl⟩ := zI_ex x1
  obtain ⟨v, hvv, rfl⟩ := zI_ex x2
  have hR := hB.1
  have hv := hB.2.1
  obtain ⟨hs, hn⟩ := hR.ok
  unfold mX5_insert mX6_insert
  rw [hs]
  by_cases c0 : p < 0
  · rw [if_pos (show zI p < 0 by rw [z_0, zI_lt (by omega) (by omega) (by omega) (by omega)]; exact c0), if_pos (show zI p < 0 by rw [z_0, zI_lt (by omega) (by omega) (by omega) (by omega)]; exact c0)]
    exact EdP_no hB _
  · rw [if_neg (show ¬ zI p < 0 by rw [z_0, zI_lt (by omega) (by omega) (by omega) (by omega)]; exact c0), if_neg (show ¬ zI p < 0 by rw [z_0, zI_lt (by omega) (by omega) (by omega) (by omega)]; exact c0)]
    by_cases c1 : n < p
    · rw [if_pos (show zI n < zI p by rw [zI_lt (by omega) (by omega) (by omega) (by omega)]; exact c1), if_pos (show zI n < zI p by rw [zI_lt (by omega) (by omega) (by omega) (by omega)]; exact c1)]
      exact EdP_no hB _
    · rw [if_neg (show ¬ zI n < zI p by rw [zI_lt (by omega) (by omega) (by omega) (by omega)]; exact c1), if_neg (show ¬ zI n < zI p by rw [zI_lt (by omega) (by omega) (by omega) (by omega)]; exact c1), X5_isValue_z hvv, X6_isValue_z hvv, sob, sob]
      by_cases d : 0 ≤ v ∧ v < 1000
      · rw [bz_t d, if_neg i1, if_neg i1]
        by_cases g : n < 120
        · rw [if_pos (show zI n < 120 by rw [z_120, zI_lt (by omega) (by omega) (by omega) (by omega)]; exact g), if_pos (show ¬ zI n = 120 by rw [z_120, zI_eq (by omega) (by omega) (by omega) (by omega)]; omega)]
          obtain ⟨t1, e1, h1⟩ := X2_take_z hR nx
          obtain ⟨t2, e2, h2⟩ := X2_open_z h1 g (p := p) (by omega) d
          obtain ⟨tv1, tw1, e3, h3⟩ := X6_begins_z hv tv tw tm
          obtain ⟨tv2, tw2, e4, h4, h5⟩ := X6_insert_L (V := V) (G := G) (p := p) (n := n) (by omega) (by omega) (n - p).toNat FU n tv1 tw1 (by rw [FU_e]; omega) (by omega) (by omega) ⟨fun i g0 g1 _ => h3.2.1 i g0 g1, fun i g0 g1 => by omega⟩ ⟨fun i g0 g1 _ => h3.2.2.1 i g0 g1, fun i g0 g1 => by omega⟩
          have h6 : Rt (upd tv2 p.toNat (zI v)) (upd tw2 p.toNat (zI 1)) (n + 1) (inV V p v) (inV G p 1) := ⟨by omega, opn_fin h4 (by omega), opn_fin h5 (by omega), h2.2.2.2.2⟩
          obtain ⟨a, fr', row', past', va, we, pv', pw', pm', h', V', G', P', e5, e6, h7, _⟩ := E_both (fr := fr) hB h2 h6 hb
          have hs' := h7.1.2.1
          rw [e1, sob, e2, sob, e5, sob, e3, sob]
          simp only []
          rw [e4, sob, wr_in (by omega) (by omega) (by omega), sob, show (1 : Int32) = zI 1 from rfl, wr_in (by omega) (by omega) (by omega), sob, zI_add, e6, sob]
          simp only []
          rw [hs']
          exact ⟨_, _, _, _, _, _, _, _, _, _, _, _, _, _, _, _, _, _, rfl, rfl, h7⟩
        · rw [if_neg (show ¬ zI n < 120 by rw [z_120, zI_lt (by omega) (by omega) (by omega) (by omega)]; exact g), if_neg (show ¬ ¬ zI n = 120 by rw [show n = 120 by omega]; exact not_not_intro rfl)]
          have h0 := EdP_no (nx := nx) (fr := fr) (tv := tv) (tw := tw) (tm := tm) hB (-1)
          exact h0
      · rw [bz_f d, if_pos rfl, if_pos rfl]
        exact EdP_no hB _
/-! remove -/
def ouV (V : Int → Int) (p : Int) : Int → Int := fun i => if i < p then V i else V (i + 1)
def cls (f : FnT) (n p q : Int) (V : Int → Int) : Prop := (∀ i, 0 ≤ i → i < q → f i.toNat = zI (ouV V p i)) ∧ (∀ i, q ≤ i → i < n → f i.toNat = zI (V i))
theorem cls_step {f : FnT} {n p q : Int} {V : Int → Int} (h : cls f n p q V) (hp : 0 ≤ p ∧ p ≤ q) (hq : q + 1 < n) : cls (upd f q.toNat (f (q + 1).toNat)) n p (q + 1) V := by
  refine ⟨fun i h0 h1 => ?_, fun i h1 h2 => ?_⟩
  · rw [upd_at (by omega) h0]
    by_cases e : i = q
    · rw [if_pos e, h.2 (q + 1) (by omega) hq, e]
      unfold ouV
      rw [if_neg (by omega)]
    · rw [if_neg e]; exact h.1 i h0 (by omega)
  · rw [upd_at (by omega) (by omega), if_neg (by omega)]; exact h.2 i (by omega) h2
theorem cls_0 {f : FnT} {n p : Int} {V : Int → Int} (h : Ar f n V) (hp : 0 ≤ p ∧ p < n) : cls f n p p V := ⟨fun i h0 h1 => by unfold ouV; rw [if_pos h1]; exact h i h0 (by omega), fun i h0 h1 => h i (by omega) h1⟩
theorem X2_close_L {n p : Int} {V G : Int → Int} (hn : 0 ≤ n ∧ n ≤ 120) (hp : 0 ≤ p ∧ p < n) : ∀ (k f : Nat) (q : Int) (t : RowT), k < f → n - 1 = q + k → p ≤ q → t.2.2 = zI (n - 1) → cls t.1 n p q V → cls t.2.1 n p q G → ∃ t', mX2_close_L12 f (zI q) t = some t' ∧ cls t'.1 n p (n - 1) V ∧ cls t'.2.1 n p (n - 1) G ∧ t'.2.2 = zI (n - 1)
  | k, 0, q, t, h, _, _, _, _, _ => absurd h (Nat.not_lt_zero k)
  | 0, f + 1, q, t, _, hk, hq, hs, h1, h2 => by
    rw [mX2_close_L12, hs, if_pos (show zI (n - 1) ≤ zI q by rw [zI_le (by omega) (by omega) (by omega) (by omega)]; omega)]
    have : q = n - 1 := by omega
    subst this
    exact ⟨t, rfl, h1, h2, hs⟩
  | k + 1, f + 1, q, t, h, hk, hq, hs, h1, h2 => by
    rw [mX2_close_L12, if_neg (show ¬ t.2.2 ≤ zI q by rw [hs, zI_le (by omega) (by omega) (by omega) (by omega)]; omega), zI_a1, rd_in (by omega) (by omega) (by omega), sob, wr_in (by omega) (by omega) (by omega), sob, rd_in (by omega) (by omega) (by omega), sob, wr_in (by omega) (by omega) (by omega), sob]
    exact X2_close_L hn hp k f (q + 1) _ (by omega) (by omega) (by omega) hs (cls_step h1 (by omega) (by omega)) (cls_step h2 (by omega) (by omega))
theorem X6_remove_L {n p : Int} {V G : Int → Int} (hn : 0 ≤ n ∧ n ≤ 120) (hp : 0 ≤ p ∧ p < n) : ∀ (k f : Nat) (q : Int) (tv tw : FnT), k < f → n - 1 = q + k → p ≤ q → cls tv n p q V → cls tw n p q G → ∃ tv' tw', mX6_remove_L28 (zI n) f (zI q) tv tw = some (tv', tw') ∧ cls tv' n p (n - 1) V ∧ cls tw' n p (n - 1) G
  | k, 0, q, tv, tw, h, _, _, _, _ => absurd h (Nat.not_lt_zero k)
  | 0, f + 1, q, tv, tw, _, hk, hq, h1, h2 => by
    rw [mX6_remove_L28, zI_a1, if_pos (show zI n ≤ zI (q + 1) by rw [zI_le (by omega) (by omega) (by omega) (by omega)]; omega)]
    have : q = n - 1 := by omega
    subst this
    exact ⟨tv, tw, rfl, h1, h2⟩
  | k + 1, f + 1, q, tv, tw, h, hk, hq, h1, h2 => by
    rw [mX6_remove_L28, zI_a1, if_neg (show ¬ zI n ≤ zI (q + 1) by rw [zI_le (by omega) (by omega) (by omega) (by omega)]; omega), rd_in (by omega) (by omega) (by omega), sob, wr_in (by omega) (by omega) (by omega), sob, rd_in (by omega) (by omega) (by omega), sob, wr_in (by omega) (by omega) (by omega), sob]
    exact X6_remove_L hn hp k f (q + 1) _ _ (by omega) (by omega) (by omega) (cls_step h1 (by omega) (by omega)) (cls_step h2 (by omega) (by omega))
theorem ouV_b {n p : Int} {V G : Int → Int} (hB : ∀ i, 0 ≤ i → i < n → (0 ≤ V i ∧ V i < 1000) ∧ 1 ≤ G i ∧ G i ≤ 9) : ∀ i, 0 ≤ i → i < n - 1 → (0 ≤ ouV V p i ∧ ouV V p i < 1000) ∧ 1 ≤ ouV G p i ∧ ouV G p i ≤ 9 := by
  intro i h0 h1
  unfold ouV
  by_cases e : i < p
  · rw [if_pos e, if_pos e]; exact hB i h0 (by omega)
  · rw [if_neg e, if_neg e]; exact hB (i + 1) (by omega) (by omega)
theorem P_remove {row nx : RowT} {past : PasT} {value weight pv pw pm tv tw : FnT} {n h b : Int} {V G : Int → Int} {P : PsT} {fr tm th : Int32} (hB : Bst row past value weight pv pw pm n h V G P) (hb : 2 ≤ b ∧ b ≤ 20) (x1 : Int32) :
    EdP (mX5_remove (zI b) fr row nx past x1) (mX6_remove th value weight (zI n) (zI b) pv pw pm (zI h) fr tv tw tm x1) := by
  obtain ⟨p, hp, rfl⟩ := zI_ex x1
  have hR := hB.1
  have hv := hB.2.1
  obtain ⟨hs, hn⟩ := hR.ok
  unfold mX5_remove mX6_remove
  rw [X2_has_z hs hn hp, X6_isPlace_z hn hp, sob, sob]
  by_cases c : 0 ≤ p ∧ p < n
  · rw [bz_t c, if_pos i1, if_pos i1]
    obtain ⟨t1, e1, h1⟩ := X2_take_z hR nx
    obtain ⟨tv1, tw1, e2, h2⟩ := X6_begins_z hv tv tw tm
    obtain ⟨t2, e3, q1, q2, q3⟩ := X2_close_L (V := V) (G := G) hn c (n - 1 - p).toNat FU p (t1.1, t1.2.1, zI (n - 1)) (by rw [FU_e]; omega) (by omega) (by omega) rfl (cls_0 h1.2.2.1 c) (cls_0 h1.2.2.2.1 c)
    obtain ⟨tv2, tw2, e4, q4, q5⟩ := X6_remove_L (V := V) (G := G) hn c (n - 1 - p).toNat FU p tv1 tw1 (by rw [FU_e]; omega) (by omega) (by omega) (cls_0 h2.2.1 c) (cls_0 h2.2.2.1 c)
    have h3 : Rw t2 (n - 1) (ouV V p) (ouV G p) := ⟨by omega, q3, fun i g0 g1 => q1.1 i g0 g1, fun i g0 g1 => q2.1 i g0 g1, ouV_b hR.2.2.2.2⟩
    have h4 : Rt tv2 tw2 (n - 1) (ouV V p) (ouV G p) := ⟨by omega, fun i g0 g1 => q4.1 i g0 g1, fun i g0 g1 => q5.1 i g0 g1, ouV_b hR.2.2.2.2⟩
    obtain ⟨a, fr', row', past', va, we, pv', pw', pm', h', V', G', P', e5, e6, h7, _⟩ := E_both (fr := fr) hB h3 h4 hb
    have e3' : mX2_close t1 (zI p) = some t2 := by
      unfold mX2_close
      rw [h1.2.1, zI_m1, e3, sob]
    rw [rd_A hR.2.2.1 c.1 c.2 (by omega) (by omega), sob, e1, sob, e3', sob, e5, sob, rd_A hv.2.1 c.1 c.2 (by omega) (by omega), sob, e2, sob]
    simp only []
    rw [e4, sob]
    simp only []
    rw [zI_m1, e6, sob]
    exact ⟨_, _, _, _, _, _, _, _, _, _, _, _, _, _, _, _, _, _, rfl, rfl, h7⟩
  · rw [bz_f c, if_neg i0n, if_neg i0n]; exact EdP_no hB _

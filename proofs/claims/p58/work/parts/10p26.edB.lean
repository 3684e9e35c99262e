/-! PURE ROWS. fill, swap, replace, flip, shift, undo -/
theorem E_done {value weight pv pw pm tv tw : FnT} {n b h : Int} {V G V2 G2 : Int → Int} {fr : Int32} (hv : Rv value weight n V G) (hT : Rt tv tw n V2 G2) : mX6_done value weight (zI n) (zI b) pv pw pm (zI h) fr tv tw (zI n) = (mX6_edits value weight (zI n) (zI b) pv pw pm (zI h) fr tv tw (zI n)).bind fun q2 => some (zI (otT n V V2 0 n.toNat), q2) := by
  unfold mX6_done
  rw [X6_others_z hv hT, sob]
/-- an edit by which no place comes or goes: what both say -/
theorem E_same {row nx nx0 : RowT} {past : PasT} {value weight pv pw pm tv tw tv0 tw0 : FnT} {n b h : Int} {V G V2 G2 : Int → Int} {P : PsT} {fr tm : Int32} (hB : Bst row past value weight pv pw pm n h V G P) (hN : Rw nx n V2 G2) (hT : Rt tv tw n V2 G2) (hb : 2 ≤ b ∧ b ≤ 20) :
    EdP ((mX5_settle (zI b) fr row nx past).bind fun q => some (q.1, q.2.1, q.2.2.1, nx, q.2.2.2)) ((mX6_done value weight (zI n) (zI b) pv pw pm (zI h) fr tv tw (zI n)).bind fun q => some (q.1, 0, q.2.1, q.2.2.1, q.2.2.2.1, q.2.2.2.2.1, q.2.2.2.2.2.1, q.2.2.2.2.2.2.1, q.2.2.2.2.2.2.2.1, q.2.2.2.2.2.2.2.2, tv, tw, zI n)) := by
  obtain ⟨a, fr', row', past', va, we, pv', pw', pm', h', V', G', P', e3, e4, h5, h6⟩ := E_both (fr := fr) hB hN hT hb
  rw [E_done hB.2.1 hT, e3, e4, sob, sob, sob, h6 rfl]
  exact ⟨_, _, _, _, _, _, _, _, _, _, _, _, _, _, _, _, _, _, rfl, rfl, h5⟩
/-! fill -/
def fiV (V : Int → Int) (l q v : Int) : Int → Int := fun i => if l ≤ i ∧ i < q then v else V i
theorem X5_fill_L {n l r v : Int} {V G : Int → Int} (hl : 0 ≤ l) (hr : r < n) (hv : 0 ≤ v ∧ v < 1000) : ∀ (k f : Nat) (q : Int) (t : RowT), k < f → l ≤ q → r + 1 = q + k → Rw t n (fiV V l q v) G → ∃ t', mX5_fill_L35 (zI r) (zI v) f (zI q) t = some t' ∧ Rw t' n (fiV V l (r + 1) v) G
  | k, 0, q, t, h, _, _, _ => absurd h (Nat.not_lt_zero k)
  | 0, f + 1, q, t, _, hq, hk, h1 => by
    have hn := h1.1
    rw [mX5_fill_L35, if_pos (show zI r < zI q by rw [zI_lt (by omega) (by omega) (by omega) (by omega)]; omega)]
    rw [show r + 1 = q by omega]
    exact ⟨t, rfl, h1⟩
  | k + 1, f + 1, q, t, h, hq, hk, h1 => by
    have hn := h1.1
    rw [mX5_fill_L35, if_neg (show ¬ zI r < zI q by rw [zI_lt (by omega) (by omega) (by omega) (by omega)]; omega), wr_in (by omega) (by omega) (by omega), sob, zI_a1]
    exact X5_fill_L hl hr hv k f (q + 1) _ (by omega) (by omega) (by omega) ((h1.setV (p := q) (v := v) (by omega) hv).eq (fun i h0 h2 => ⟨by
      unfold pt fiV
      by_cases e : i = q
      · rw [if_pos e, if_pos (by omega)]
      · rw [if_neg e]
        by_cases d : l ≤ i ∧ i < q
        · rw [if_pos d, if_pos (by omega)]
        · rw [if_neg d, if_neg (by omega)], rfl⟩))
theorem X6_fill_L {n l r v : Int} {V G : Int → Int} {tw : FnT} (hl : 0 ≤ l) (hr : r < n) (hv : 0 ≤ v ∧ v < 1000) : ∀ (k f : Nat) (q : Int) (tv : FnT), k < f → l ≤ q → r + 1 = q + k → Rt tv tw n (fiV V l q v) G → ∃ tv', mX6_fill_L30 (zI r) (zI v) f (zI q) tv = some tv' ∧ Rt tv' tw n (fiV V l (r + 1) v) G
  | k, 0, q, t, h, _, _, _ => absurd h (Nat.not_lt_zero k)
  | 0, f + 1, q, t, _, hq, hk, h1 => by
    have hn := h1.1
    rw [mX6_fill_L30, if_pos (show zI r < zI q by rw [zI_lt (by omega) (by omega) (by omega) (by omega)]; omega)]
    rw [show r + 1 = q by omega]
    exact ⟨t, rfl, h1⟩
  | k + 1, f + 1, q, t, h, hq, hk, h1 => by
    have hn := h1.1
    rw [mX6_fill_L30, if_neg (show ¬ zI r < zI q by rw [zI_lt (by omega) (by omega) (by omega) (by omega)]; omega), wr_in (by omega) (by omega) (by omega), sob, zI_a1]
    exact X6_fill_L hl hr hv k f (q + 1) _ (by omega) (by omega) (by omega) ((h1.setV (p := q) (v := v) (by omega) hv).eq (fun i h0 h2 => ⟨by
      unfold pt fiV
      by_cases e : i = q
      · rw [if_pos e, if_pos (by omega)]
      · rw [if_neg e]
        by_cases d : l ≤ i ∧ i < q
        · rw [if_pos d, if_pos (by omega)]
        · rw [if_neg d, if_neg (by omega)], rfl⟩))
theorem fiV_0 (V : Int → Int) (l v : Int) : fiV V l l v = V := by
  funext i
  unfold fiV
  rw [if_neg (by omega)]
theorem P_fill {row nx : RowT} {past : PasT} {value weight pv pw pm tv tw : FnT} {n h b : Int} {V G : Int → Int} {P : PsT} {fr tm th : Int32} (hB : Bst row past value weight pv pw pm n h V G P) (hb : 2 ≤ b ∧ b ≤ 20) (x1 x2 x3 : Int32) :
    EdP (mX5_fill (zI b) fr row nx past x1 x2 x3) (mX6_fill th value weight (zI n) (zI b) pv pw pm (zI h) fr tv tw tm x1 x2 x3) := by
  obtain ⟨l, hl, rfl⟩ := zI_ex x1
  obtain ⟨r, hr, rfl⟩ := zI_ex x2
  obtain ⟨v, hvv, rfl⟩ := zI_ex x3
  have hR := hB.1
  have hv := hB.2.1
  obtain ⟨hs, hn⟩ := hR.ok
  unfold mX5_fill mX6_fill
  rw [X2_hasSpan_z hs hn hl hr, X6_isSpan_z hn hl hr, sob, sob]
  by_cases c : 0 ≤ l ∧ l ≤ r ∧ r < n
  · rw [bz_t c, if_neg i1, if_neg i1, X5_isValue_z hvv, X6_isValue_z hvv, sob, sob]
    by_cases d : 0 ≤ v ∧ v < 1000
    · rw [bz_t d, if_pos i1, if_pos i1]
      obtain ⟨t1, e1, h1⟩ := X2_take_z hR nx
      obtain ⟨tv1, tw1, e2, h2⟩ := X6_begins_z hv tv tw tm
      obtain ⟨t2, e3, h3⟩ := X5_fill_L (V := V) (G := G) (l := l) c.1 c.2.2 d (r + 1 - l).toNat FU l t1 (by rw [FU_e]; omega) (by omega) (by omega) (by rw [fiV_0]; exact h1)
      obtain ⟨tv2, e4, h4⟩ := X6_fill_L (V := V) (G := G) (l := l) c.1 c.2.2 d (r + 1 - l).toNat FU l tv1 (by rw [FU_e]; omega) (by omega) (by omega) (by rw [fiV_0]; exact h2)
      rw [e1, sob, e3, sob, e2, sob]
      simp only []
      rw [e4, sob]
      exact E_same (nx0 := nx) (tv0 := tv) (tw0 := tw) (tm := tm) hB h3 h4 hb
    · rw [bz_f d, if_neg i0n, if_neg i0n]; exact EdP_no hB _
  · rw [bz_f c, if_pos rfl, if_pos rfl]; exact EdP_no hB _
/-! replace -/
def rpV (V : Int → Int) (q v w : Int) : Int → Int := fun i => if i < q ∧ V i = v then w else V i
theorem X5_repl_L {n v w : Int} {V G : Int → Int} (hB : ∀ i, 0 ≤ i → i < n → 0 ≤ V i ∧ V i < 1000) (hv : 0 ≤ v ∧ v < 1000) (hw : 0 ≤ w ∧ w < 1000) : ∀ (k f : Nat) (q : Int) (t : RowT), k < f → 0 ≤ q → n = q + k → Rw t n (rpV V q v w) G → ∃ t', mX5_replace_L29 (zI v) (zI w) f (zI q) t = some t' ∧ Rw t' n (rpV V n v w) G
  | k, 0, q, t, h, _, _, _ => absurd h (Nat.not_lt_zero k)
  | 0, f + 1, q, t, _, hq, hk, h1 => by
    have hn := h1.1
    rw [mX5_replace_L29, h1.2.1, if_pos (show zI n ≤ zI q by rw [zI_le (by omega) (by omega) (by omega) (by omega)]; omega)]
    have e : n = q := by omega
    subst e
    exact ⟨t, rfl, h1⟩
  | k + 1, f + 1, q, t, h, hq, hk, h1 => by
    have hn := h1.1
    have hVq : rpV V q v w q = V q := by unfold rpV; rw [if_neg (by omega)]
    have hb := hB q hq (by omega)
    rw [mX5_replace_L29, h1.2.1, if_neg (show ¬ zI n ≤ zI q by rw [zI_le (by omega) (by omega) (by omega) (by omega)]; omega), rd_A h1.2.2.1 hq (by omega) (by omega) (by omega), hVq, sob, zI_a1]
    simp (disch := omega) only [zI_eq]
    by_cases e : V q = v
    · rw [if_neg (not_not_intro e), wr_in (by omega) (by omega) (by omega), sob, ← h1.2.1]
      exact X5_repl_L hB hv hw k f (q + 1) _ (by omega) (by omega) (by omega) ((h1.setV (p := q) (v := w) hq hw).eq (fun i h0 h2 => ⟨by
        unfold pt rpV
        by_cases g : i = q
        · rw [if_pos g, if_pos ⟨by omega, by rw [g]; exact e⟩]
        · rw [if_neg g]
          by_cases d : i < q ∧ V i = v
          · rw [if_pos d, if_pos ⟨by omega, d.2⟩]
          · rw [if_neg d, if_neg (fun y => d ⟨by omega, y.2⟩)], rfl⟩))
    · rw [if_pos e]
      exact X5_repl_L hB hv hw k f (q + 1) _ (by omega) (by omega) (by omega) (h1.eq (fun i h0 h2 => ⟨by
        unfold rpV
        by_cases d : i < q ∧ V i = v
        · rw [if_pos d, if_pos ⟨by omega, d.2⟩]
        · rw [if_neg d, if_neg (fun y => by
            by_cases g : i = q
            · rw [g] at y; exact e y.2
            · exact d ⟨by omega, y.2⟩)], rfl⟩))
theorem X6_repl_L {value weight tw : FnT} {n v w : Int} {V G : Int → Int} (hR : Rv value weight n V G) (hv : 0 ≤ v ∧ v < 1000) (hw : 0 ≤ w ∧ w < 1000) : ∀ (k f : Nat) (q : Int) (tv : FnT), k < f → 0 ≤ q → n = q + k → Rt tv tw n (rpV V q v w) G → ∃ tv', mX6_replace_L27 value (zI n) (zI v) (zI w) f (zI q) tv = some tv' ∧ Rt tv' tw n (rpV V n v w) G
  | k, 0, q, t, h, _, _, _ => absurd h (Nat.not_lt_zero k)
  | 0, f + 1, q, t, _, hq, hk, h1 => by
    have hn := h1.1
    rw [mX6_replace_L27, if_pos (show zI n ≤ zI q by rw [zI_le (by omega) (by omega) (by omega) (by omega)]; omega)]
    have e : n = q := by omega
    subst e
    exact ⟨t, rfl, h1⟩
  | k + 1, f + 1, q, t, h, hq, hk, h1 => by
    have hn := h1.1
    have hb := hR.bv q hq (by omega)
    rw [mX6_replace_L27, if_neg (show ¬ zI n ≤ zI q by rw [zI_le (by omega) (by omega) (by omega) (by omega)]; omega), rd_A hR.2.1 hq (by omega) (by omega) (by omega), sob, zI_a1]
    simp (disch := omega) only [zI_eq]
    by_cases e : V q = v
    · rw [if_neg (not_not_intro e), wr_in (by omega) (by omega) (by omega), sob]
      exact X6_repl_L hR hv hw k f (q + 1) _ (by omega) (by omega) (by omega) ((h1.setV (p := q) (v := w) hq hw).eq (fun i h0 h2 => ⟨by
        unfold pt rpV
        by_cases g : i = q
        · rw [if_pos g, if_pos ⟨by omega, by rw [g]; exact e⟩]
        · rw [if_neg g]
          by_cases d : i < q ∧ V i = v
          · rw [if_pos d, if_pos ⟨by omega, d.2⟩]
          · rw [if_neg d, if_neg (fun y => d ⟨by omega, y.2⟩)], rfl⟩))
    · rw [if_pos e]
      exact X6_repl_L hR hv hw k f (q + 1) _ (by omega) (by omega) (by omega) (h1.eq (fun i h0 h2 => ⟨by
        unfold rpV
        by_cases d : i < q ∧ V i = v
        · rw [if_pos d, if_pos ⟨by omega, d.2⟩]
        · rw [if_neg d, if_neg (fun y => by
            by_cases g : i = q
            · rw [g] at y; exact e y.2
            · exact d ⟨by omega, y.2⟩)], rfl⟩))
theorem P_replace {row nx : RowT} {past : PasT} {value weight pv pw pm tv tw : FnT} {n h b : Int} {V G : Int → Int} {P : PsT} {fr tm th : Int32} (hB : Bst row past value weight pv pw pm n h V G P) (hb : 2 ≤ b ∧ b ≤ 20) (x1 x2 : Int32) :
    EdP (mX5_replace (zI b) fr row nx past x1 x2) (mX6_replace th value weight (zI n) (zI b) pv pw pm (zI h) fr tv tw tm x1 x2) := by
  obtain ⟨v, hvv, rfl⟩ := zI_ex x1
  obtain ⟨w, hww, rfl⟩ := zI_ex x2
  have hR := hB.1
  have hv := hB.2.1
  obtain ⟨hs, hn⟩ := hR.ok
  unfold mX5_replace mX6_replace
  rw [X5_isValue_z hvv, X6_isValue_z hvv, sob, sob]
  by_cases c : 0 ≤ v ∧ v < 1000
  · rw [bz_t c, if_neg i1, if_neg i1, X5_isValue_z hww, X6_isValue_z hww, sob, sob]
    by_cases d : 0 ≤ w ∧ w < 1000
    · rw [bz_t d, if_pos i1, if_pos i1]
      obtain ⟨t1, e1, h1⟩ := X2_take_z hR nx
      obtain ⟨tv1, tw1, e2, h2⟩ := X6_begins_z hv tv tw tm
      have h00 : ∀ i, 0 ≤ i → i < n → V i = rpV V 0 v w i ∧ G i = G i := fun i g0 g1 => ⟨by unfold rpV; rw [if_neg (by omega)], rfl⟩
      obtain ⟨t2, e3, h3⟩ := X5_repl_L (V := V) (G := G) hR.bv c d n.toNat FU 0 t1 (by rw [FU_e]; omega) (by omega) (by omega) (h1.eq h00)
      obtain ⟨tv2, e4, h4⟩ := X6_repl_L hv c d n.toNat FU 0 tv1 (by rw [FU_e]; omega) (by omega) (by omega) (h2.eq h00)
      rw [e1, sob, show (0 : Int32) = zI 0 from rfl, e3, sob, e2, sob]
      simp only []
      rw [e4, sob]
      exact E_same (nx0 := nx) (tv0 := tv) (tw0 := tw) (tm := tm) hB h3 h4 hb
    · rw [bz_f d, if_neg i0n, if_neg i0n]; exact EdP_no hB _
  · rw [bz_f c, if_pos rfl, if_pos rfl]; exact EdP_no hB _
/-! swap -/
def swI (V : Int → Int) (p q : Int) : Int → Int := fun i => if i = p then V q else if i = q then V p else V i
theorem X2_exchange_z {t : RowT} {n p q : Int} {V G : Int → Int} (h : Rw t n V G) (hp : 0 ≤ p ∧ p < n) (hq : 0 ≤ q ∧ q < n) : ∃ t', mX2_exchange t (zI p) (zI q) = some t' ∧ Rw t' n (swI V p q) (swI G p q) := by
  obtain ⟨hn, hs, hV, hG, hB⟩ := h
  have key : ∀ (f : FnT) (U : Int → Int), Ar f n U → Ar (upd (upd f p.toNat (zI (U q))) q.toNat (zI (U p))) n (swI U p q) := fun f U hU i h0 h1 => by
    rw [upd_at hq.1 h0, upd_at hp.1 h0]
    unfold swI
    by_cases e : i = q
    · rw [if_pos e]
      by_cases d : i = p
      · rw [if_pos d, ← d, e]
      · rw [if_neg d, if_pos e]
    · rw [if_neg e]
      by_cases d : i = p
      · rw [if_pos d, if_pos d]
      · rw [if_neg d, if_neg d, if_neg e]; exact hU i h0 h1
  refine ⟨(upd (upd t.1 p.toNat (zI (V q))) q.toNat (zI (V p)), upd (upd t.2.1 p.toNat (zI (G q))) q.toNat (zI (G p)), t.2.2), ?_, hn, hs, key _ _ hV, key _ _ hG, fun i h0 h1 => ?_⟩
  · unfold mX2_exchange
    rw [rd_A hV hp.1 hp.2 (by omega) (by omega), sob, rd_A hG hp.1 hp.2 (by omega) (by omega), sob, rd_A hV hq.1 hq.2 (by omega) (by omega), sob, wr_in hp.1 (by omega) (by omega), sob, rd_A hG hq.1 hq.2 (by omega) (by omega), sob, wr_in hp.1 (by omega) (by omega), sob, wr_in hq.1 (by omega) (by omega), sob, wr_in hq.1 (by omega) (by omega), sob]
  · unfold swI
    by_cases d : i = p
    · rw [if_pos d, if_pos d]; exact hB q hq.1 hq.2
    · rw [if_neg d, if_neg d]
      by_cases e : i = q
      · rw [if_pos e, if_pos e]; exact hB p hp.1 hp.2
      · rw [if_neg e, if_neg e]; exact hB i h0 h1
theorem X6_lies_z {value weight tv tw : FnT} {n p q : Int} {V G U H : Int → Int} (hv : Rv value weight n V G) (hT : Rt tv tw n U H) (hp : 0 ≤ p ∧ p < n) (hq : 0 ≤ q ∧ q < n) : mX6_lies value weight tv tw (zI p) (zI q) = some (upd tv q.toNat (zI (V p)), upd tw q.toNat (zI (G p))) ∧ Rt (upd tv q.toNat (zI (V p))) (upd tw q.toNat (zI (G p))) n (pt U q (V p)) (pt H q (G p)) := by
  obtain ⟨hn, hV, hG, hB⟩ := hv
  constructor
  · unfold mX6_lies
    rw [rd_A hV hp.1 hp.2 (by omega) (by omega), sob, wr_in hq.1 (by omega) (by omega), sob, rd_A hG hp.1 hp.2 (by omega) (by omega), sob, wr_in hq.1 (by omega) (by omega), sob]
  · exact (hT.setV hq.1 (hB p hp.1 hp.2).1).setG hq.1 (hB p hp.1 hp.2).2
theorem P_swap {row nx : RowT} {past : PasT} {value weight pv pw pm tv tw : FnT} {n h b : Int} {V G : Int → Int} {P : PsT} {fr tm th : Int32} (hB : Bst row past value weight pv pw pm n h V G P) (hb : 2 ≤ b ∧ b ≤ 20) (x1 x2 : Int32) :
    EdP (mX5_swap (zI b) fr row nx past x1 x2) (mX6_swap th value weight (zI n) (zI b) pv pw pm (zI h) fr tv tw tm x1 x2) := by
  obtain ⟨p, hp, rfl⟩ := zI_ex x1
  obtain ⟨q, hq, rfl⟩ := zI_ex x2
  have hR := hB.1
  have hv := hB.2.1
  obtain ⟨hs, hn⟩ := hR.ok
  unfold mX5_swap mX6_swap
  rw [X2_has_z hs hn hp, X6_isPlace_z hn hp, sob, sob]
  by_cases c : 0 ≤ p ∧ p < n
  · rw [bz_t c, if_neg i1, if_neg i1, X2_has_z hs hn hq, X6_isPlace_z hn hq, sob, sob]
    by_cases d : 0 ≤ q ∧ q < n
    · rw [bz_t d, if_neg i1, if_neg i1]
      by_cases e : p = q
      · rw [if_neg (show ¬ ¬ zI p = zI q by rw [e]; exact not_not_intro rfl), if_neg (show ¬ ¬ zI p = zI q by rw [e]; exact not_not_intro rfl)]
        exact EdP_no hB _
      · rw [if_pos (show ¬ zI p = zI q by rw [zI_eq (by omega) (by omega) (by omega) (by omega)]; exact e), if_pos (show ¬ zI p = zI q by rw [zI_eq (by omega) (by omega) (by omega) (by omega)]; exact e)]
        obtain ⟨t1, e1, h1⟩ := X2_take_z hR nx
        obtain ⟨t2, e2, h2⟩ := X2_exchange_z h1 c d
        obtain ⟨tv1, tw1, e3, h3⟩ := X6_begins_z hv tv tw tm
        obtain ⟨e4, h4⟩ := X6_lies_z hv h3 c d
        obtain ⟨e5, h5⟩ := X6_lies_z hv h4 d c
        have h6 := h5.eq (V' := swI V p q) (G' := swI G p q) (fun i g0 g1 => by
          unfold pt swI
          by_cases y : i = p
          · simp only [if_pos y]; exact ⟨trivial, trivial⟩
          · simp only [if_neg y]; exact ⟨trivial, trivial⟩)
        obtain ⟨a, fr', row', past', va, we, pv', pw', pm', h', V', G', P', e6, e7, h7, _⟩ := E_both (fr := fr) hB h2 h6 hb
        rw [e1, sob, e2, sob, e6, sob, e3, sob]
        simp only []
        rw [e4, sob]
        simp only []
        rw [e5, sob]
        simp only []
        rw [e7, sob]
        exact ⟨_, _, _, _, _, _, _, _, _, _, _, _, _, _, _, _, _, _, rfl, rfl, h7⟩
    · rw [bz_f d, if_pos rfl, if_pos rfl]; exact EdP_no hB _
  · rw [bz_f c, if_pos rfl, if_pos rfl]; exact EdP_no hB _
/-! flip -/
def tuV (V : Int → Int) (l r : Int) : Int → Int := fun i => if l ≤ i ∧ i ≤ r then V (l + r - i) else V i
def tuI (V : Int → Int) (l r k : Int) : Int → Int := fun i => if l + k ≤ i ∧ i ≤ r - k then V (l + r - i) else V i
theorem tuI_end {V : Int → Int} {l r k : Int} (h : r - k ≤ l + k) : tuI V l r k = V := by
  funext i
  unfold tuI
  by_cases c : l + k ≤ i ∧ i ≤ r - k
  · rw [if_pos c, show l + r - i = i by omega]
  · rw [if_neg c]
theorem tuI_step {V : Int → Int} {l r k : Int} (h : l + k < r - k) : tuI (swI V (l + k) (r - k)) l r (k + 1) = tuI V l r k := by
  funext i
  unfold tuI swI
  by_cases c : l + (k + 1) ≤ i ∧ i ≤ r - (k + 1)
  · rw [if_pos c, if_neg (by omega), if_neg (by omega), if_pos (by omega)]
  · rw [if_neg c]
    by_cases d : i = l + k
    · rw [if_pos d, if_pos (by omega)]; congr 1; omega
    · rw [if_neg d]
      by_cases e : i = r - k
      · rw [if_pos e, if_pos (by omega)]; congr 1; omega
      · rw [if_neg e, if_neg (by omega)]
theorem X2_turn_L {n l r : Int} (hl : 0 ≤ l) (hr : -1 ≤ r ∧ r < n) : ∀ (d f : Nat) (k : Int) (t : RowT) (V G : Int → Int), d < f → 0 ≤ k → k ≤ 121 → l ≤ 121 → r - k - (l + k) ≤ 2 * d → Rw t n V G → ∃ t', mX2_turn_L2 (zI l) (zI r) f (zI k) t = some t' ∧ Rw t' n (tuI V l r k) (tuI G l r k)
  | d, 0, k, t, V, G, h, _, _, _, _, _ => absurd h (Nat.not_lt_zero d)
  | 0, f + 1, k, t, V, G, _, hk, hk2, hl2, hd, h1 => by
    have hn := h1.1
    rw [mX2_turn_L2, zI_sub, zI_add, if_pos (show zI (r - k) ≤ zI (l + k) by rw [zI_le (by omega) (by omega) (by omega) (by omega)]; omega), tuI_end (by omega), tuI_end (by omega)]
    exact ⟨t, rfl, h1⟩
  | d + 1, f + 1, k, t, V, G, h, hk, hk2, hl2, hd, h1 => by
    have hn := h1.1
    rw [mX2_turn_L2, zI_sub, zI_add]
    by_cases c : r - k ≤ l + k
    · rw [if_pos (show zI (r - k) ≤ zI (l + k) by rw [zI_le (by omega) (by omega) (by omega) (by omega)]; exact c), tuI_end c, tuI_end c]
      exact ⟨t, rfl, h1⟩
    · obtain ⟨t1, e1, h2⟩ := X2_exchange_z h1 (p := l + k) (q := r - k) (by omega) (by omega)
      rw [if_neg (show ¬ zI (r - k) ≤ zI (l + k) by rw [zI_le (by omega) (by omega) (by omega) (by omega)]; exact c), e1, sob, zI_a1]
      obtain ⟨t2, e2, h3⟩ := X2_turn_L hl hr d f (k + 1) t1 _ _ (by omega) (by omega) (by omega) hl2 (by omega) h2
      rw [tuI_step (by omega), tuI_step (by omega)] at h3
      exact ⟨t2, e2, h3⟩
theorem tuI_0 (V : Int → Int) (l r : Int) : tuI V l r 0 = tuV V l r := by
  funext i
  unfold tuI tuV
  rw [Int.add_zero, Int.sub_zero]
theorem X2_turn_z {t : RowT} {n l r : Int} {V G : Int → Int} (hl : 0 ≤ l ∧ l ≤ 121) (hr : -1 ≤ r ∧ r < n) (h : Rw t n V G) : ∃ t', mX2_turn t (zI l) (zI r) = some t' ∧ Rw t' n (tuV V l r) (tuV G l r) := by
  have hn := h.1
  obtain ⟨t', e, h1⟩ := X2_turn_L hl.1 hr 200 FU 0 t V G (by rw [FU_e]; omega) (by omega) (by omega) hl.2 (by omega) h
  rw [tuI_0, tuI_0] at h1
  refine ⟨t', ?_, h1⟩
  unfold mX2_turn
  rw [show (0 : Int32) = zI 0 from rfl, e, sob]
theorem X6_flip_L {value weight : FnT} {n l r : Int} {V G : Int → Int} (hv : Rv value weight n V G) (hl : 0 ≤ l) (hlr : l ≤ r) (hr : r < n) : ∀ (k f : Nat) (p : Int) (tv tw : FnT) (U H : Int → Int), k < f → l ≤ p → r + 1 = p + k → Rt tv tw n U H → (∀ i, 0 ≤ i → i < n → l + r - p < i → U i = tuV V l r i ∧ H i = tuV G l r i) → (∀ i, 0 ≤ i → i < n → i < l → U i = V i ∧ H i = G i) →
    ∃ tv' tw', mX6_flip_L22 value weight (zI l) (zI r) f (zI p) tv tw = some (tv', tw') ∧ Rt tv' tw' n (tuV V l r) (tuV G l r)
  | k, 0, p, tv, tw, U, H, h, _, _, _, _, _ => absurd h (Nat.not_lt_zero k)
  | 0, f + 1, p, tv, tw, U, H, _, hp, hk, h1, h2, h3 => by
    have hn := h1.1
    rw [mX6_flip_L22, if_pos (show zI r < zI p by rw [zI_lt (by omega) (by omega) (by omega) (by omega)]; omega)]
    refine ⟨tv, tw, rfl, h1.eq (fun i g0 g1 => ?_)⟩
    by_cases c : i < l
    · obtain ⟨y1, y2⟩ := h3 i g0 g1 c
      unfold tuV
      rw [if_neg (by omega), if_neg (by omega)]
      exact ⟨y1, y2⟩
    · exact h2 i g0 g1 (by omega)
  | k + 1, f + 1, p, tv, tw, U, H, h, hp, hk, h1, h2, h3 => by
    have hn := h1.1
    obtain ⟨e1, h4⟩ := X6_lies_z hv h1 (p := p) (q := l + r - p) (by omega) (by omega)
    rw [mX6_flip_L22, if_neg (show ¬ zI r < zI p by rw [zI_lt (by omega) (by omega) (by omega) (by omega)]; omega), zI_add, zI_sub, e1, sob, zI_a1]
    refine X6_flip_L hv hl hlr hr k f (p + 1) _ _ _ _ (by omega) (by omega) (by omega) h4 (fun i g0 g1 g2 => ?_) (fun i g0 g1 g2 => ?_)
    · unfold pt
      by_cases e : i = l + r - p
      · rw [if_pos e, if_pos e]
        unfold tuV
        rw [if_pos (by omega), if_pos (by omega), show l + r - i = p by omega]
        exact ⟨rfl, rfl⟩
      · rw [if_neg e, if_neg e]; exact h2 i g0 g1 (by omega)
    · unfold pt
      rw [if_neg (by omega), if_neg (by omega)]
      exact h3 i g0 g1 g2
theorem P_flip {row nx : RowT} {past : PasT} {value weight pv pw pm tv tw : FnT} {n h b : Int} {V G : Int → Int} {P : PsT} {fr tm th : Int32} (hB : Bst row past value weight pv pw pm n h V G P) (hb : 2 ≤ b ∧ b ≤ 20) (x1 x2 : Int32) :
    EdP (mX5_flip (zI b) fr row nx past x1 x2) (mX6_flip th value weight (zI n) (zI b) pv pw pm (zI h) fr tv tw tm x1 x2) := by
  obtain ⟨l, hl, rfl⟩ := zI_ex x1
  obtain ⟨r, hr, rfl⟩ := zI_ex x2
  have hR := hB.1
  have hv := hB.2.1
  obtain ⟨hs, hn⟩ := hR.ok
  unfold mX5_flip mX6_flip
  rw [X2_hasSpan_z hs hn hl hr, X6_isSpan_z hn hl hr, sob, sob]
  by_cases c : 0 ≤ l ∧ l ≤ r ∧ r < n
  · rw [bz_t c, if_pos i1, if_pos i1]
    obtain ⟨t1, e1, h1⟩ := X2_take_z hR nx
    obtain ⟨t2, e2, h2⟩ := X2_turn_z (l := l) (r := r) (by omega) (by omega) h1
    obtain ⟨tv1, tw1, e3, h3⟩ := X6_begins_z hv tv tw tm
    obtain ⟨tv2, tw2, e4, h4⟩ := X6_flip_L hv c.1 c.2.1 c.2.2 (r + 1 - l).toNat FU l tv1 tw1 V G (by rw [FU_e]; omega) (by omega) (by omega) h3 (fun i g0 g1 g2 => by
      unfold tuV
      rw [if_neg (by omega), if_neg (by omega)]
      exact ⟨rfl, rfl⟩) (fun i _ _ _ => ⟨rfl, rfl⟩)
    rw [e1, sob, e2, sob, e3, sob]
    simp only []
    rw [e4, sob]
    exact E_same (nx0 := nx) (tv0 := tv) (tw0 := tw) (tm := tm) hB h2 h4 hb
  · rw [bz_f c, if_neg i0n, if_neg i0n]; exact EdP_no hB _

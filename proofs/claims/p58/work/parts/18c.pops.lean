/-! edits of the class, each by what it answers and what then is -/
def EdQ (b fr n h : Int) (V G : Int → Int) (P : PsT) (past : PasT) (n2 : Int) (V2 G2 : Int → Int) (pmn' : Int32) (row' : RowT) (past' : PasT) : Prop :=
  Rw row' n2 V2 G2 ∧ ((n2 = n ∧ smP V G V2 G2 0 n.toNat ∧ pmn' = zI fr ∧ past' = past) ∨ (¬ (n2 = n ∧ smP V G V2 G2 0 n.toNat) ∧ pmn' = zI (ouF (tcT b n V n2 V2) 0 (blN n2 b).toNat) ∧ PasC past' (if h < 12 then h + 1 else 12) (psN P n V G)))
theorem settle_c {nx row : RowT} {past : PasT} {n n2 b h fr : Int} {V G V2 G2 : Int → Int} {P : PsT} (hR : Rw row n V G) (hN : Rw nx n2 V2 G2) (hb : 2 ≤ b ∧ b ≤ 20) (hp : PasC past h P) :
    ∃ a pmn' row' past', mX5_settle (zI b) (zI fr) row nx past = some (a, pmn', row', past') ∧ EdQ b fr n h V G P past n2 V2 G2 pmn' row' past' ∧ (n2 = n → a = zI (otT n V V2 0 n.toNat)) := by
  rcases X5_settle_z (fr := zI fr) hR hN hb hp with ⟨e, hn, hs⟩ | ⟨row', past', e, h1, h2, h3⟩
  · refine ⟨_, _, _, _, e, ⟨?_, Or.inl ⟨hn, hs, rfl, rfl⟩⟩, fun _ => ?_⟩
    · subst hn
      have hn0 := hR.1
      exact hR.eq (fun i h0 h1 => by have := hs i (by omega) (by omega); exact ⟨this.1.symm, this.2.symm⟩)
    · have hn0 := hR.1
      rw [otT_sm (n := n) n.toNat 0 (by omega) hs]; rfl
  · exact ⟨_, _, _, _, e, ⟨h1, Or.inr ⟨h3, rfl, h2⟩⟩, fun hn => by rw [hn]⟩
section
variable {row nx : RowT} {past : PasT} {n h b fr : Int} {V G : Int → Int} {P : PsT}
theorem c_set (hR : Rw row n V G) (hp : PasC past h P) (hb : 2 ≤ b ∧ b ≤ 20) {p v : Int} (c : 0 ≤ p ∧ p < n) (d : 0 ≤ v ∧ v < 1000) : ∃ pmn' row' next' past', mX5_set (zI b) (zI fr) row nx past (zI p) (zI v) = some (zI (V p), pmn', row', next', past') ∧ EdQ b fr n h V G P past n (pt V p v) G pmn' row' past' := by
  obtain ⟨hs, hn⟩ := hR.ok
  obtain ⟨t1, e1, h1⟩ := X2_take_z hR nx
  obtain ⟨a, pmn', row', past', e3, h5, _⟩ := settle_c (fr := fr) hR (h1.setV (p := p) (v := v) c.1 d) hb hp
  unfold mX5_set
  rw [X2_has_z hs hn (by omega), sob, bz_t c, if_neg i1, X5_isValue_z (by omega), sob, bz_t d, if_pos i1, rd_A hR.2.2.1 c.1 c.2 (by omega) (by omega), sob, e1, sob, wr_in c.1 (by omega) (by omega), sob, e3, sob]
  exact ⟨_, _, _, _, rfl, h5⟩
theorem c_weigh (hR : Rw row n V G) (hp : PasC past h P) (hb : 2 ≤ b ∧ b ≤ 20) {p v : Int} (c : 0 ≤ p ∧ p < n) (d : 1 ≤ v ∧ v ≤ 9) : ∃ pmn' row' next' past', mX5_weigh (zI b) (zI fr) row nx past (zI p) (zI v) = some (zI (G p), pmn', row', next', past') ∧ EdQ b fr n h V G P past n V (pt G p v) pmn' row' past' := by
  obtain ⟨hs, hn⟩ := hR.ok
  obtain ⟨t1, e1, h1⟩ := X2_take_z hR nx
  obtain ⟨a, pmn', row', past', e3, h5, _⟩ := settle_c (fr := fr) hR (h1.setG (p := p) (v := v) c.1 d) hb hp
  unfold mX5_weigh
  rw [X2_has_z hs hn (by omega), sob, bz_t c, if_neg i1, if_neg (show ¬ zI v < 1 by rw [z_1, zI_lt (by omega) (by omega) (by omega) (by omega)]; omega), if_pos (show zI v ≤ 9 by rw [z_9, zI_le (by omega) (by omega) (by omega) (by omega)]; omega), rd_A hR.2.2.2.1 c.1 c.2 (by omega) (by omega), sob, e1, sob, wr_in c.1 (by omega) (by omega), sob, e3, sob]
  exact ⟨_, _, _, _, rfl, h5⟩
theorem c_insert (hR : Rw row n V G) (hp : PasC past h P) (hb : 2 ≤ b ∧ b ≤ 20) {p v : Int} (c : 0 ≤ p ∧ p ≤ n) (g : n < 120) (d : 0 ≤ v ∧ v < 1000) : ∃ pmn' row' next' past', mX5_insert (zI b) (zI fr) row nx past (zI p) (zI v) = some (zI (n + 1), pmn', row', next', past') ∧ EdQ b fr n h V G P past (n + 1) (inV V p v) (inV G p 1) pmn' row' past' := by
  obtain ⟨hs, hn⟩ := hR.ok
  obtain ⟨t1, e1, h1⟩ := X2_take_z hR nx
  obtain ⟨t2, e2, h2⟩ := X2_open_z h1 g (p := p) c d
  obtain ⟨a, pmn', row', past', e3, h5, _⟩ := settle_c (fr := fr) hR h2 hb hp
  have hs' := h5.1.2.1
  unfold mX5_insert
  rw [hs, if_neg (show ¬ zI p < 0 by rw [z_0, zI_lt (by omega) (by omega) (by omega) (by omega)]; omega), if_neg (show ¬ zI n < zI p by rw [zI_lt (by omega) (by omega) (by omega) (by omega)]; omega), X5_isValue_z (by omega), sob, bz_t d, if_neg i1, if_pos (show zI n < 120 by rw [z_120, zI_lt (by omega) (by omega) (by omega) (by omega)]; exact g), e1, sob, e2, sob, e3, sob]
  simp only []
  rw [hs']
  exact ⟨_, _, _, _, rfl, h5⟩
theorem c_remove (hR : Rw row n V G) (hp : PasC past h P) (hb : 2 ≤ b ∧ b ≤ 20) {p : Int} (c : 0 ≤ p ∧ p < n) : ∃ pmn' row' next' past', mX5_remove (zI b) (zI fr) row nx past (zI p) = some (zI (V p), pmn', row', next', past') ∧ EdQ b fr n h V G P past (n - 1) (ouV V p) (ouV G p) pmn' row' past' := by
  obtain ⟨hs, hn⟩ := hR.ok
  obtain ⟨t1, e1, h1⟩ := X2_take_z hR nx
  obtain ⟨t2, e3, q1, q2, q3⟩ := X2_close_L (V := V) (G := G) hn c (n - 1 - p).toNat FU p (t1.1, t1.2.1, zI (n - 1)) (by rw [FU_e]; omega) (by omega) (by omega) rfl (cls_0 h1.2.2.1 c) (cls_0 h1.2.2.2.1 c)
  have h3 : Rw t2 (n - 1) (ouV V p) (ouV G p) := ⟨by omega, q3, fun i g0 g1 => q1.1 i g0 g1, fun i g0 g1 => q2.1 i g0 g1, ouV_b hR.2.2.2.2⟩
  have e3' : mX2_close t1 (zI p) = some t2 := by
    unfold mX2_close
    rw [h1.2.1, zI_m1, e3, sob]
  obtain ⟨a, pmn', row', past', e5, h5, _⟩ := settle_c (fr := fr) hR h3 hb hp
  unfold mX5_remove
  rw [X2_has_z hs hn (by omega), sob, bz_t c, if_pos i1, rd_A hR.2.2.1 c.1 c.2 (by omega) (by omega), sob, e1, sob, e3', sob, e5, sob]
  exact ⟨_, _, _, _, rfl, h5⟩
theorem c_fill (hR : Rw row n V G) (hp : PasC past h P) (hb : 2 ≤ b ∧ b ≤ 20) {l r v : Int} (c : 0 ≤ l ∧ l ≤ r ∧ r < n) (d : 0 ≤ v ∧ v < 1000) : ∃ pmn' row' next' past', mX5_fill (zI b) (zI fr) row nx past (zI l) (zI r) (zI v) = some (zI (otT n V (fiV V l (r + 1) v) 0 n.toNat), pmn', row', next', past') ∧ EdQ b fr n h V G P past n (fiV V l (r + 1) v) G pmn' row' past' := by
  obtain ⟨hs, hn⟩ := hR.ok
  obtain ⟨t1, e1, h1⟩ := X2_take_z hR nx
  obtain ⟨t2, e3, h3⟩ := X5_fill_L (V := V) (G := G) (l := l) c.1 c.2.2 d (r + 1 - l).toNat FU l t1 (by rw [FU_e]; omega) (by omega) (by omega) (by rw [fiV_0]; exact h1)
  obtain ⟨a, pmn', row', past', e5, h5, ha⟩ := settle_c (fr := fr) hR h3 hb hp
  unfold mX5_fill
  rw [X2_hasSpan_z hs hn (by omega) (by omega), sob, bz_t c, if_neg i1, X5_isValue_z (by omega), sob, bz_t d, if_pos i1, e1, sob, e3, sob, e5, sob, ha rfl]
  exact ⟨_, _, _, _, rfl, h5⟩
theorem c_replace (hR : Rw row n V G) (hp : PasC past h P) (hb : 2 ≤ b ∧ b ≤ 20) {v w : Int} (c : 0 ≤ v ∧ v < 1000) (d : 0 ≤ w ∧ w < 1000) : ∃ pmn' row' next' past', mX5_replace (zI b) (zI fr) row nx past (zI v) (zI w) = some (zI (otT n V (rpV V n v w) 0 n.toNat), pmn', row', next', past') ∧ EdQ b fr n h V G P past n (rpV V n v w) G pmn' row' past' := by
  obtain ⟨hs, hn⟩ := hR.ok
  obtain ⟨t1, e1, h1⟩ := X2_take_z hR nx
  have h00 : ∀ i, 0 ≤ i → i < n → V i = rpV V 0 v w i ∧ G i = G i := fun i g0 g1 => ⟨by unfold rpV; rw [if_neg (by omega)], rfl⟩
  obtain ⟨t2, e3, h3⟩ := X5_repl_L (V := V) (G := G) hR.bv c d n.toNat FU 0 t1 (by rw [FU_e]; omega) (by omega) (by omega) (h1.eq h00)
  obtain ⟨a, pmn', row', past', e5, h5, ha⟩ := settle_c (fr := fr) hR h3 hb hp
  unfold mX5_replace
  rw [X5_isValue_z (by omega), sob, bz_t c, if_neg i1, X5_isValue_z (by omega), sob, bz_t d, if_pos i1, e1, sob, show (0 : Int32) = zI 0 from rfl, e3, sob, e5, sob, ha rfl]
  exact ⟨_, _, _, _, rfl, h5⟩
theorem c_swap (hR : Rw row n V G) (hp : PasC past h P) (hb : 2 ≤ b ∧ b ≤ 20) {p q : Int} (c : 0 ≤ p ∧ p < n) (d : 0 ≤ q ∧ q < n) : ∃ pmn' row' next' past', mX5_swap (zI b) (zI fr) row nx past (zI p) (zI q) = some (bz (¬ p = q), pmn', row', next', past') ∧ EdQ b fr n h V G P past n (swI V p q) (swI G p q) pmn' row' past' := by
  obtain ⟨hs, hn⟩ := hR.ok
  unfold mX5_swap
  rw [X2_has_z hs hn (by omega), sob, bz_t c, if_neg i1, X2_has_z hs hn (by omega), sob, bz_t d, if_neg i1]
  by_cases e : p = q
  · rw [if_neg (show ¬ ¬ zI p = zI q by rw [e]; exact not_not_intro rfl), bz_f (fun z => z e)]
    have hq : ∀ (U : Int → Int) (i : Int), U i = swI U p q i := fun U i => by
      unfold swI
      by_cases y : i = p
      · rw [if_pos y, y, e]
      · rw [if_neg y, if_neg (fun z => y (z.trans e.symm))]
    exact ⟨_, _, _, _, rfl, hR.eq (fun i _ _ => ⟨hq V i, hq G i⟩), Or.inl ⟨rfl, fun i _ _ => ⟨(hq V i).symm, (hq G i).symm⟩, rfl, rfl⟩⟩
  · obtain ⟨t1, e1, h1⟩ := X2_take_z hR nx
    obtain ⟨t2, e2, h2⟩ := X2_exchange_z h1 c d
    obtain ⟨a, pmn', row', past', e5, h5, ha⟩ := settle_c (fr := fr) hR h2 hb hp
    rw [if_pos (show ¬ zI p = zI q by rw [zI_eq (by omega) (by omega) (by omega) (by omega)]; exact e), e1, sob, e2, sob, e5, sob, bz_t e]
    exact ⟨_, _, _, _, rfl, h5⟩
theorem c_flip (hR : Rw row n V G) (hp : PasC past h P) (hb : 2 ≤ b ∧ b ≤ 20) {l r : Int} (c : 0 ≤ l ∧ l ≤ r ∧ r < n) : ∃ pmn' row' next' past', mX5_flip (zI b) (zI fr) row nx past (zI l) (zI r) = some (zI (otT n V (tuV V l r) 0 n.toNat), pmn', row', next', past') ∧ EdQ b fr n h V G P past n (tuV V l r) (tuV G l r) pmn' row' past' := by
  obtain ⟨hs, hn⟩ := hR.ok
  obtain ⟨t1, e1, h1⟩ := X2_take_z hR nx
  obtain ⟨t2, e2, h2⟩ := X2_turn_z (l := l) (r := r) (by omega) (by omega) h1
  obtain ⟨a, pmn', row', past', e5, h5, ha⟩ := settle_c (fr := fr) hR h2 hb hp
  unfold mX5_flip
  rw [X2_hasSpan_z hs hn (by omega) (by omega), sob, bz_t c, if_pos i1, e1, sob, e2, sob, e5, sob, ha rfl]
  exact ⟨_, _, _, _, rfl, h5⟩
theorem c_shift (hR : Rw row n V G) (hp : PasC past h P) (hb : 2 ≤ b ∧ b ≤ 20) {l r s : Int} (c : 0 ≤ l ∧ l ≤ r ∧ r < n) (d : 0 ≤ s ∧ s ≤ r - l + 1) : ∃ pmn' row' next' past', mX5_shift (zI b) (zI fr) row nx past (zI l) (zI r) (zI s) = some (zI (otT n V (fun i => V (shS l r s i)) 0 n.toNat), pmn', row', next', past') ∧ EdQ b fr n h V G P past n (fun i => V (shS l r s i)) (fun i => G (shS l r s i)) pmn' row' past' := by
  obtain ⟨hs, hn⟩ := hR.ok
  obtain ⟨t1, e1, h1⟩ := X2_take_z hR nx
  obtain ⟨t2, e2, h2⟩ := X2_turn_z (l := l) (r := r) (by omega) (by omega) h1
  obtain ⟨t3, e3, h3⟩ := X2_turn_z (l := l) (r := l + s - 1) (by omega) (by omega) h2
  obtain ⟨t4, e4, h4⟩ := X2_turn_z (l := l + s) (r := r) (by omega) (by omega) h3
  rw [shS_cl V c.2.1 (by omega), shS_cl G c.2.1 (by omega)] at h4
  obtain ⟨a, pmn', row', past', e5, h5, ha⟩ := settle_c (fr := fr) hR h4 hb hp
  unfold mX5_shift
  rw [X2_hasSpan_z hs hn (by omega) (by omega), sob, bz_t c, if_neg i1, if_neg (show ¬ zI s < 0 by rw [z_0, zI_lt (by omega) (by omega) (by omega) (by omega)]; omega), zI_sub, zI_a1, if_pos (show zI s ≤ zI (r - l + 1) by rw [zI_le (by omega) (by omega) (by omega) (by omega)]; omega), e1, sob, e2, sob, zI_add, zI_m1, e3, sob, e4, sob, e5, sob, ha rfl]
  exact ⟨_, _, _, _, rfl, h5⟩
theorem c_sort (hR : Rw row n V G) (hp : PasC past h P) (hb : 2 ≤ b ∧ b ≤ 20) {l r : Int} {up : Int32} (c : 0 ≤ l ∧ l ≤ r ∧ r < n) : ∃ s pmn' row' next' past', mX5_sort (zI b) (zI fr) row nx past (zI l) (zI r) up = some (zI (otT n V (fun i => V (s i)) 0 n.toNat), pmn', row', next', past') ∧ EdQ b fr n h V G P past n (fun i => V (s i)) (fun i => G (s i)) pmn' row' past' ∧ soI V (¬ up = 0) l r s ∧ (∀ i j, l ≤ i → i < j → j ≤ r → soK V (¬ up = 0) (s i) < soK V (¬ up = 0) (s j)) := by
  obtain ⟨hs, hn⟩ := hR.ok
  obtain ⟨t1, e1, h1⟩ := X2_take_z hR nx
  obtain ⟨t2, s, e2, h2, h3, h4⟩ := X2_order_z (up := up) h1 c.1 c.2.1 c.2.2
  obtain ⟨a, pmn', row', past', e5, h5, ha⟩ := settle_c (fr := fr) hR h2 hb hp
  unfold mX5_sort
  rw [X2_hasSpan_z hs hn (by omega) (by omega), sob, bz_t c, if_pos i1, e1, sob, e2, sob, e5, sob, ha rfl]
  exact ⟨s, _, _, _, _, rfl, h5, h3, h4⟩
theorem c_undo (hR : Rw row n V G) (hp : PasC past h P) (hb : 2 ≤ b ∧ b ≤ 20) : ∃ q, mX5_undo (zI b) (zI fr) row past = some q ∧ ((h = 0 ∧ q.1 < 0 ∧ Rw q.2.2.1 n V G) ∨ (0 < h ∧ ¬ q.1 < 0 ∧ (∃ fr', q.2.1 = zI fr') ∧ Rw q.2.2.1 (P 1).1 (P 1).2.1 (P 1).2.2 ∧ PasC q.2.2.2 (h - 1) (fun k => P (k + 1)))) := by
  obtain ⟨hh, hph, la, hla, hpl, hP⟩ := id hp
  have hn := hR.1
  unfold mX5_undo
  rw [hph]
  by_cases c : h = 0
  · rw [if_neg (show ¬ ¬ zI h = 0 by rw [c]; exact not_not_intro rfl)]
    exact ⟨_, rfl, Or.inl ⟨c, show (-1 : Int32) < 0 by decide, hR⟩⟩
  · have hr := hP 1 (by omega) (by omega)
    rw [if_pos (show ¬ zI h = 0 by rw [z_0, zI_eq (by omega) (by omega) (by omega) (by omega)]; exact c)]
    obtain ⟨t1, e1, h1⟩ := X2_take_z hr row
    have e4 : mX0_dropLatest past = some (past.1, zI (h - 1), zI ((la - 1) % 12)) := by
      unfold mX0_dropLatest
      rw [hpl, hph, zI_m1, zI_m1, fm_z (by omega), sob]
    rw [show (1 : Int32) = zI 1 from rfl, X0_ago_z hla hpl (by omega), sob, X5_pairsTouched_z hR hr hb, sob, e1, sob, e4, sob]
    refine ⟨_, rfl, Or.inr ⟨by omega, ?_, ⟨_, rfl⟩, h1, ⟨by omega, rfl, (la - 1) % 12, by omega, rfl, fun k hk1 hk2 => ?_⟩⟩⟩
    · show ¬ zI (h - 1) < 0
      rw [z_0, zI_lt (by omega) (by omega) (by omega) (by omega)]; omega
    · have := hP (k + 1) (by omega) (by omega)
      rw [show ((la - (k + 1 - 1)) % 12).toNat = (((la - 1) % 12 - (k - 1)) % 12).toNat by omega] at this
      exact this
theorem c_place (hR : Rw row n V G) (bk : Int32) {p : Int} (c : 0 ≤ p ∧ p < n) : mX5_place bk row (zI p) 0 = some (zI (V p)) ∧ mX5_place bk row (zI p) 1 = some (zI (G p)) := by
  obtain ⟨hs, hn⟩ := hR.ok
  unfold mX5_place
  constructor
  · rw [X2_has_z hs hn (by omega), sob, bz_t c, if_pos i1, rd_A hR.2.2.1 c.1 c.2 (by omega) (by omega), sob]
    rfl
  · rw [X2_has_z hs hn (by omega), sob, bz_t c, if_pos i1, rd_A hR.2.2.1 c.1 c.2 (by omega) (by omega), sob, rd_A hR.2.2.2.1 c.1 c.2 (by omega) (by omega), sob]
    rfl
end

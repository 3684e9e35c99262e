/-! one edit: the law's own row, and what the class does -/
def EdR (n : Nat) (b fr h : Int) (V G : Int → Int) (P : PsT) (past : PasT) (row nx : RowT) (f g : Nat → Int32) (x4 : Int32) (p q v : Int) : Prop :=
  ∃ (n2 : Nat) (tF tG : Nat → Int32) (V2 G2 : Int → Int) (pmn' : Int32) (row' next' : RowT) (past' : PasT),
    mL_edited n f g f g x4 (zI p) (zI q) (zI v) (nI n) = some (n2, tF, tG) ∧ mL_does n n n2 (zI b) (zI fr) row nx past f g tF tG x4 (zI p) (zI q) (zI v) = some (1, pmn', row', next', past') ∧
    Ar tF n2 V2 ∧ Ar tG n2 G2 ∧ (1 ≤ n2 ∧ n2 ≤ n + 1) ∧ (∀ i : Int, 0 ≤ i → i < n2 → V2 i < 9) ∧ EdQ b fr n h V G P past n2 V2 G2 pmn' row' past'
theorem EdR_of {n : Nat} {b fr h : Int} {V G : Int → Int} {P : PsT} {past : PasT} {row nx : RowT} {f g : Nat → Int32} {x4 : Int32} {p q v : Int} (n2 : Nat) (tF tG : Nat → Int32) (V2 G2 : Int → Int) (pmn' : Int32) (row' next' : RowT) (past' : PasT)
    (h1 : mL_edited n f g f g x4 (zI p) (zI q) (zI v) (nI n) = some (n2, tF, tG)) (hQ : EdQ b fr n h V G P past n2 V2 G2 pmn' row' past') (h3 : Ar tF n2 V2) (h4 : Ar tG n2 G2) (h5 : 1 ≤ n2 ∧ n2 ≤ n + 1) (h6 : ∀ i : Int, 0 ≤ i → i < n2 → V2 i < 9)
    (hf : Ar f n V) (hR : Rw row n V G) (hn : n ≤ 100)
    (h2 : ∀ z, mL_does_L24 n n2 f tF FU 0 0 = some z → (n = n2 → z = zI (otT n V V2 0 n)) → mL_does n n n2 (zI b) (zI fr) row nx past f g tF tG x4 (zI p) (zI q) (zI v) = some (1, pmn', row', next', past')) : EdR n b fr h V G P past row nx f g x4 p q v := by
  have hV2 : ∀ i : Int, 0 ≤ i → i < n2 → 0 ≤ V2 i ∧ V2 i < 1000 := fun i h0 h1 => (hQ.1.2.2.2.2 i h0 h1).1
  obtain ⟨z, ez, hz⟩ := other_z hf h3 (by omega) (by omega) (fun i h0 h1 => (hR.2.2.2.2 i h0 h1).1) hV2
  exact ⟨n2, tF, tG, V2, G2, pmn', row', next', past', h1, h2 z ez hz, h3, h4, h5, h6, hQ⟩
section
variable {n : Nat} {b fr h : Int} {V G : Int → Int} {P : PsT} {past : PasT} {row nx : RowT} {f g : Nat → Int32} {p q v : Int}
theorem E_set (hR : Rw row n V G) (hp : PasC past h P) (hb : 2 ≤ b ∧ b ≤ 20) (hf : Ar f n V) (hg : Ar g n G) (hn : 1 ≤ n ∧ n ≤ 40) (h9 : ∀ i : Int, 0 ≤ i → i < n → V i < 9) (c : 0 ≤ p ∧ p < n) (d : 0 ≤ q ∧ q < n) (e : 0 ≤ v ∧ v < 9) : EdR n b fr h V G P past row nx f g 0 p q v := by
  obtain ⟨pmn', row', next', past', e1, hQ⟩ := c_set (fr := fr) (nx := nx) hR hp hb c (v := v) (by omega)
  refine EdR_of n (upd f p.toNat (zI v)) g (pt V p v) G pmn' row' next' past' ?_ hQ (Ar_wr hf c.1) hg (by omega) (fun i h0 h1 => ?_) hf hR (by omega) (fun z ez _ => ?_)
  · unfold mL_edited
    rw [if_pos rfl]
    rw [wr_in c.1 (by omega) (by omega), sob]
  · unfold pt; split
    · omega
    · exact h9 i h0 h1
  · unfold mL_does
    rw [ez, sob, if_pos rfl]
    rw [e1, sob, rd_A hf c.1 c.2 (by omega) (by omega), sob]
    exact if_neg (not_not_intro rfl)
theorem E_weigh (hR : Rw row n V G) (hp : PasC past h P) (hb : 2 ≤ b ∧ b ≤ 20) (hf : Ar f n V) (hg : Ar g n G) (hn : 1 ≤ n ∧ n ≤ 40) (h9 : ∀ i : Int, 0 ≤ i → i < n → V i < 9) (c : 0 ≤ p ∧ p < n) (d : 0 ≤ q ∧ q < n) (e : 0 ≤ v ∧ v < 9) : EdR n b fr h V G P past row nx f g 1 p q v := by
  have m0 := Int.emod_nonneg v (show (9 : Int) ≠ 0 by omega)
  have m1 := Int.emod_lt_of_pos v (show (0 : Int) < 9 by omega)
  obtain ⟨pmn', row', next', past', e1, hQ⟩ := c_weigh (fr := fr) (nx := nx) hR hp hb c (v := 1 + v % 9) (by omega)
  refine EdR_of n f (upd g p.toNat (zI (1 + v % 9))) V (pt G p (1 + v % 9)) pmn' row' next' past' ?_ hQ hf (Ar_wr hg c.1) (by omega) h9 hf hR (by omega) (fun z ez _ => ?_)
  · unfold mL_edited
    rw [if_neg (show ¬ (1 : Int32) = 0 by decide), if_pos rfl]
    rw [z_9, irm_z (by omega) (by omega) (by omega) (by omega), sob, z_1, zI_add, wr_in c.1 (by omega) (by omega), sob]
  · unfold mL_does
    rw [ez, sob, if_neg (show ¬ (1 : Int32) = 0 by decide), if_pos rfl]
    rw [z_9, irm_z (by omega) (by omega) (by omega) (by omega), sob, show (1 : Int32) + zI (v % 9) = zI (1 + v % 9) from zI_add 1 _, e1, sob, rd_A hg c.1 c.2 (by omega) (by omega), sob]
    exact if_neg (not_not_intro rfl)
theorem E_insert (hR : Rw row n V G) (hp : PasC past h P) (hb : 2 ≤ b ∧ b ≤ 20) (hf : Ar f n V) (hg : Ar g n G) (hn : 1 ≤ n ∧ n ≤ 40) (h9 : ∀ i : Int, 0 ≤ i → i < n → V i < 9) (c : 0 ≤ p ∧ p < n) (d : 0 ≤ q ∧ q < n) (e : 0 ≤ v ∧ v < 9) : EdR n b fr h V G P past row nx f g 2 p q v := by
  obtain ⟨pmn', row', next', past', e1, hQ⟩ := c_insert (fr := fr) (nx := nx) hR hp hb (p := p) (v := v) (by omega) (by omega) (by omega)
  obtain ⟨z1, ez1, a1, a2⟩ := ed_ins_L hf hg (by omega) c (v := v) (n + 1) FU 0 (fun _ => 0) (fun _ => 0) (by rw [FU_e]; omega) (by omega) (by omega) (Ar_0 _ _) (Ar_0 _ _)
  have ez1' : mL_edited_L130 n f g (zI p) (zI v) (zI n) FU 0 (fun _ => 0) (fun _ => 0) = some z1 := ez1
  have hc : (zI (n : Int) + 1).toNatClampNeg = n + 1 := by rw [zI_a1, zI_clamp (by omega) (by omega)]; omega
  have hnw : nw (zI (n : Int) + 1) = some () := if_neg (by rw [hc, zI_a1, z_0, zI_lt (by omega) (by omega) (by omega) (by omega)]; omega)
  refine EdR_of (n + 1) z1.1 z1.2 (inV V p v) (inV G p 1) pmn' row' next' past' ?_ hQ a1 a2 (by omega) (fun i h0 h1 => ?_) hf hR (by omega) (fun z ez _ => ?_)
  · unfold mL_edited
    rw [if_neg (show ¬ (2 : Int32) = 0 by decide), if_neg (show ¬ (2 : Int32) = 1 by decide), if_pos rfl]
    rw [n_z, hnw, sob, sob, ez1', sob, hc]
  · unfold inV; split
    · exact h9 i h0 (by omega)
    · split
      · omega
      · exact h9 (i - 1) (by omega) (by omega)
  · unfold mL_does
    rw [ez, sob, if_neg (show ¬ (2 : Int32) = 0 by decide), if_neg (show ¬ (2 : Int32) = 1 by decide), if_pos rfl]
    rw [e1, sob]
    exact if_neg (show ¬ ¬ zI ((n : Int) + 1) = nI n + 1 by rw [n_z, zI_a1]; exact not_not_intro rfl)
theorem E_remove (hR : Rw row n V G) (hp : PasC past h P) (hb : 2 ≤ b ∧ b ≤ 20) (hf : Ar f n V) (hg : Ar g n G) (hn : 1 ≤ n ∧ n ≤ 40) (h9 : ∀ i : Int, 0 ≤ i → i < n → V i < 9) (c : 0 ≤ p ∧ p < n) (d : 0 ≤ q ∧ q < n) (e : 0 ≤ v ∧ v < 9) (h2 : 2 ≤ n) : EdR n b fr h V G P past row nx f g 3 p q v := by
  obtain ⟨pmn', row', next', past', e1, hQ⟩ := c_remove (fr := fr) (nx := nx) hR hp hb c
  obtain ⟨z1, ez1, a1, a2⟩ := ed_rem_L hf hg (by omega) c (n - 1) FU 0 (fun _ => 0) (fun _ => 0) (by rw [FU_e]; omega) (by omega) (by omega) (Ar_0 _ _) (Ar_0 _ _)
  have ez1' : mL_edited_L234 n f g (zI p) (zI n) FU 0 (fun _ => 0) (fun _ => 0) = some z1 := ez1
  have hc : (zI (n : Int) - 1).toNatClampNeg = n - 1 := by rw [zI_m1, zI_clamp (by omega) (by omega)]; omega
  have hnw : nw (zI (n : Int) - 1) = some () := if_neg (by rw [hc, zI_m1, z_0, zI_lt (by omega) (by omega) (by omega) (by omega)]; omega)
  have hi : ((n - 1 : Nat) : Int) = (n : Int) - 1 := by omega
  refine EdR_of (n - 1) z1.1 z1.2 (ouV V p) (ouV G p) pmn' row' next' past' ?_ (by rw [hi]; exact hQ) (by rw [hi]; exact a1) (by rw [hi]; exact a2) (by omega) (fun i h0 h1 => ?_) hf hR (by omega) (fun z ez _ => ?_)
  · unfold mL_edited
    rw [if_neg (show ¬ (3 : Int32) = 0 by decide), if_neg (show ¬ (3 : Int32) = 1 by decide), if_neg (show ¬ (3 : Int32) = 2 by decide), if_pos rfl]
    rw [n_z, hnw, sob, sob, ez1', sob, hc]
  · unfold ouV; split
    · exact h9 i h0 (by omega)
    · exact h9 (i + 1) (by omega) (by omega)
  · unfold mL_does
    rw [ez, sob, if_neg (show ¬ (3 : Int32) = 0 by decide), if_neg (show ¬ (3 : Int32) = 1 by decide), if_neg (show ¬ (3 : Int32) = 2 by decide), if_pos rfl]
    rw [e1, sob, rd_A hf c.1 c.2 (by omega) (by omega), sob]
    exact if_neg (not_not_intro rfl)
theorem E_fill (hR : Rw row n V G) (hp : PasC past h P) (hb : 2 ≤ b ∧ b ≤ 20) (hf : Ar f n V) (hg : Ar g n G) (hn : 1 ≤ n ∧ n ≤ 40) (h9 : ∀ i : Int, 0 ≤ i → i < n → V i < 9) (c : 0 ≤ p ∧ p < n) (d : 0 ≤ q ∧ q < n) (e : 0 ≤ v ∧ v < 9) : EdR n b fr h V G P past row nx f g 4 p q v := by
  have mn1 := mn_z (p := p) (q := q) (by omega) (by omega)
  have mx1 := mn_z (p := q) (q := p) (by omega) (by omega)
  have mx2 : (if zI p < zI q then zI q else zI p) = zI (if p < q then q else p) := by
    by_cases w : p < q
    · rw [if_pos w, if_pos (show zI p < zI q by rw [zI_lt (by omega) (by omega) (by omega) (by omega)]; exact w)]
    · rw [if_neg w, if_neg (show ¬ zI p < zI q by rw [zI_lt (by omega) (by omega) (by omega) (by omega)]; exact w)]
  obtain ⟨l, hl⟩ : ∃ l, (if q < p then q else p) = l := ⟨_, rfl⟩
  obtain ⟨r, hr⟩ : ∃ r, (if p < q then q else p) = r := ⟨_, rfl⟩
  rw [hl] at mn1
  rw [hr] at mx2
  have hlr : 0 ≤ l ∧ l ≤ r ∧ r < n := by split at hl <;> split at hr <;> omega
  obtain ⟨pmn', row', next', past', e1, hQ⟩ := c_fill (fr := fr) (nx := nx) hR hp hb hlr (v := v) (by omega)
  obtain ⟨f', ef, a1⟩ := ed_fill_L (V := V) (v := v) (by omega) hlr.1 hlr.2.2 (r + 1 - l).toNat FU l f (by rw [FU_e]; omega) (by omega) (by omega) (by rw [fiV_0]; exact hf)
  refine EdR_of n f' g (fiV V l (r + 1) v) G pmn' row' next' past' ?_ hQ a1 hg (by omega) (fun i h0 h1 => ?_) hf hR (by omega) (fun z ez hz => ?_)
  · unfold mL_edited
    rw [if_neg (show ¬ (4 : Int32) = 0 by decide), if_neg (show ¬ (4 : Int32) = 1 by decide), if_neg (show ¬ (4 : Int32) = 2 by decide), if_neg (show ¬ (4 : Int32) = 3 by decide), if_pos rfl]
    rw [mn1, mx2, ef, sob]
  · unfold fiV; split
    · omega
    · exact h9 i h0 h1
  · unfold mL_does
    rw [ez, sob, if_neg (show ¬ (4 : Int32) = 0 by decide), if_neg (show ¬ (4 : Int32) = 1 by decide), if_neg (show ¬ (4 : Int32) = 2 by decide), if_neg (show ¬ (4 : Int32) = 3 by decide), if_pos rfl]
    rw [mn1, mx2, e1, sob]
    exact if_neg (show ¬ ¬ zI (otT n V (fiV V l (r + 1) v) 0 (n : Int).toNat) = z by rw [hz rfl]; exact not_not_intro rfl)
theorem E_swap (hR : Rw row n V G) (hp : PasC past h P) (hb : 2 ≤ b ∧ b ≤ 20) (hf : Ar f n V) (hg : Ar g n G) (hn : 1 ≤ n ∧ n ≤ 40) (h9 : ∀ i : Int, 0 ≤ i → i < n → V i < 9) (c : 0 ≤ p ∧ p < n) (d : 0 ≤ q ∧ q < n) (e : 0 ≤ v ∧ v < 9) : EdR n b fr h V G P past row nx f g 5 p q v := by
  obtain ⟨pmn', row', next', past', e1, hQ⟩ := c_swap (fr := fr) (nx := nx) hR hp hb c d
  have key : ∀ (w : Nat → Int32) (W : Int → Int), Ar w n W → Ar (upd (upd w p.toNat (zI (W q))) q.toNat (zI (W p))) n (swI W p q) := fun w W hw => (Ar_wr (Ar_wr hw c.1) d.1).eq (fun i _ _ => by
    unfold pt swI
    by_cases y : i = q
    · rw [if_pos y]
      by_cases y2 : i = p
      · rw [if_pos y2, ← y2, y]
      · rw [if_neg y2, if_pos y]
    · rw [if_neg y]
      by_cases y2 : i = p
      · rw [if_pos y2, if_pos y2]
      · rw [if_neg y2, if_neg y2, if_neg y])
  refine EdR_of n _ _ (swI V p q) (swI G p q) pmn' row' next' past' ?_ hQ (key f V hf) (key g G hg) (by omega) (fun i h0 h1 => ?_) hf hR (by omega) (fun z ez _ => ?_)
  · unfold mL_edited
    rw [if_neg (show ¬ (5 : Int32) = 0 by decide), if_neg (show ¬ (5 : Int32) = 1 by decide), if_neg (show ¬ (5 : Int32) = 2 by decide), if_neg (show ¬ (5 : Int32) = 3 by decide), if_neg (show ¬ (5 : Int32) = 4 by decide), if_pos rfl]
    rw [rd_A hf d.1 d.2 (by omega) (by omega), sob, wr_in c.1 (by omega) (by omega), sob, rd_A hg d.1 d.2 (by omega) (by omega), sob, wr_in c.1 (by omega) (by omega), sob, rd_A hf c.1 c.2 (by omega) (by omega), sob, wr_in d.1 (by omega) (by omega), sob, rd_A hg c.1 c.2 (by omega) (by omega), sob, wr_in d.1 (by omega) (by omega), sob]
  · unfold swI; split
    · exact h9 q d.1 d.2
    · split
      · exact h9 p c.1 c.2
      · exact h9 i h0 h1
  · unfold mL_does
    rw [ez, sob, if_neg (show ¬ (5 : Int32) = 0 by decide), if_neg (show ¬ (5 : Int32) = 1 by decide), if_neg (show ¬ (5 : Int32) = 2 by decide), if_neg (show ¬ (5 : Int32) = 3 by decide), if_neg (show ¬ (5 : Int32) = 4 by decide), if_pos rfl]
    rw [e1, sob]
    by_cases y : p = q
    · rw [if_pos (show zI p = zI q by rw [y]), bz_f (fun w => w y)]
      exact if_neg (not_not_intro rfl)
    · rw [if_neg (show ¬ zI p = zI q by rw [zI_eq (by omega) (by omega) (by omega) (by omega)]; exact y), bz_t y]
      exact if_neg (not_not_intro rfl)
theorem E_flip (hR : Rw row n V G) (hp : PasC past h P) (hb : 2 ≤ b ∧ b ≤ 20) (hf : Ar f n V) (hg : Ar g n G) (hn : 1 ≤ n ∧ n ≤ 40) (h9 : ∀ i : Int, 0 ≤ i → i < n → V i < 9) (c : 0 ≤ p ∧ p < n) (d : 0 ≤ q ∧ q < n) (e : 0 ≤ v ∧ v < 9) : EdR n b fr h V G P past row nx f g 6 p q v := by
  have mn1 := mn_z (p := p) (q := q) (by omega) (by omega)
  have mx1 := mn_z (p := q) (q := p) (by omega) (by omega)
  have mx2 : (if zI p < zI q then zI q else zI p) = zI (if p < q then q else p) := by
    by_cases w : p < q
    · rw [if_pos w, if_pos (show zI p < zI q by rw [zI_lt (by omega) (by omega) (by omega) (by omega)]; exact w)]
    · rw [if_neg w, if_neg (show ¬ zI p < zI q by rw [zI_lt (by omega) (by omega) (by omega) (by omega)]; exact w)]
  obtain ⟨l, hl⟩ : ∃ l, (if q < p then q else p) = l := ⟨_, rfl⟩
  obtain ⟨r, hr⟩ : ∃ r, (if p < q then q else p) = r := ⟨_, rfl⟩
  rw [hl] at mn1
  rw [hr] at mx2
  have hlr : 0 ≤ l ∧ l ≤ r ∧ r < n := by split at hl <;> split at hr <;> omega
  obtain ⟨pmn', row', next', past', e1, hQ⟩ := c_flip (fr := fr) (nx := nx) hR hp hb hlr
  have h00 : ∀ (W : Int → Int) (i : Int), W i = fpV W l r l i := fun W i => by unfold fpV; rw [if_neg (by omega)]
  have h11 : ∀ (W : Int → Int) (i : Int), fpV W l r (r + 1) i = tuV W l r i := fun W i => by
    unfold fpV tuV
    by_cases y : l ≤ i ∧ i ≤ r
    · rw [if_pos y, if_pos (by omega)]
    · rw [if_neg y, if_neg (by omega)]
  obtain ⟨z1, ez1, a1, a2⟩ := ed_flip_L hf hg (by omega) hlr.1 hlr.2.2 (r + 1 - l).toNat FU l f g (by rw [FU_e]; omega) (by omega) (by omega) (hf.eq (fun i _ _ => h00 V i)) (hg.eq (fun i _ _ => h00 G i))
  refine EdR_of n z1.1 z1.2 (tuV V l r) (tuV G l r) pmn' row' next' past' ?_ hQ (a1.eq (fun i _ _ => h11 V i)) (a2.eq (fun i _ _ => h11 G i)) (by omega) (fun i h0 h1 => ?_) hf hR (by omega) (fun z ez hz => ?_)
  · unfold mL_edited
    rw [if_neg (show ¬ (6 : Int32) = 0 by decide), if_neg (show ¬ (6 : Int32) = 1 by decide), if_neg (show ¬ (6 : Int32) = 2 by decide), if_neg (show ¬ (6 : Int32) = 3 by decide), if_neg (show ¬ (6 : Int32) = 4 by decide), if_neg (show ¬ (6 : Int32) = 5 by decide), if_pos rfl]
    rw [mn1, mx2, ez1, sob]
  · unfold tuV; split
    · exact h9 _ (by omega) (by omega)
    · exact h9 i h0 h1
  · unfold mL_does
    rw [ez, sob, if_neg (show ¬ (6 : Int32) = 0 by decide), if_neg (show ¬ (6 : Int32) = 1 by decide), if_neg (show ¬ (6 : Int32) = 2 by decide), if_neg (show ¬ (6 : Int32) = 3 by decide), if_neg (show ¬ (6 : Int32) = 4 by decide), if_neg (show ¬ (6 : Int32) = 5 by decide), if_pos rfl]
    rw [mn1, mx2, e1, sob]
    exact if_neg (show ¬ ¬ zI (otT n V (tuV V l r) 0 (n : Int).toNat) = z by rw [hz rfl]; exact not_not_intro rfl)
theorem E_shift (hR : Rw row n V G) (hp : PasC past h P) (hb : 2 ≤ b ∧ b ≤ 20) (hf : Ar f n V) (hg : Ar g n G) (hn : 1 ≤ n ∧ n ≤ 40) (h9 : ∀ i : Int, 0 ≤ i → i < n → V i < 9) (c : 0 ≤ p ∧ p < n) (d : 0 ≤ q ∧ q < n) (e : 0 ≤ v ∧ v < 9) : EdR n b fr h V G P past row nx f g 7 p q v := by
  have mn1 := mn_z (p := p) (q := q) (by omega) (by omega)
  have mx1 := mn_z (p := q) (q := p) (by omega) (by omega)
  have mx2 : (if zI p < zI q then zI q else zI p) = zI (if p < q then q else p) := by
    by_cases w : p < q
    · rw [if_pos w, if_pos (show zI p < zI q by rw [zI_lt (by omega) (by omega) (by omega) (by omega)]; exact w)]
    · rw [if_neg w, if_neg (show ¬ zI p < zI q by rw [zI_lt (by omega) (by omega) (by omega) (by omega)]; exact w)]
  obtain ⟨l, hl⟩ : ∃ l, (if q < p then q else p) = l := ⟨_, rfl⟩
  obtain ⟨r, hr⟩ : ∃ r, (if p < q then q else p) = r := ⟨_, rfl⟩
  rw [hl] at mn1
  rw [hr] at mx2
  have hlr : 0 ≤ l ∧ l ≤ r ∧ r < n := by split at hl <;> split at hr <;> omega
  have s0 := Int.emod_nonneg v (show r - l + 2 ≠ 0 by omega)
  have s1 := Int.emod_lt_of_pos v (show 0 < r - l + 2 by omega)
  obtain ⟨s, hs⟩ : ∃ s, s = v % (r - l + 2) := ⟨_, rfl⟩
  obtain ⟨pmn', row', next', past', e1, hQ⟩ := c_shift (fr := fr) (nx := nx) hR hp hb hlr (s := s) (by omega)
  have hin : ∀ i : Int, l ≤ i ∧ i ≤ r → l ≤ shS l r s i ∧ shS l r s i ≤ r := fun i hi => by
    unfold shS; rw [if_pos hi]; split <;> omega
  have h00 : ∀ (W : Int → Int) (i : Int), W i = sfV W l r s l i := fun W i => by
    unfold sfV
    rw [if_neg (fun y => by have := hin i y.1; omega)]
  have h11 : ∀ (W : Int → Int) (i : Int), sfV W l r s (r + 1) i = W (shS l r s i) := fun W i => by
    unfold sfV
    by_cases y : l ≤ i ∧ i ≤ r
    · rw [if_pos ⟨y, by have := hin i y; omega⟩]
    · rw [if_neg (fun w => y w.1)]
      unfold shS; rw [if_neg y]
  obtain ⟨z1, ez1, a1, a2⟩ := ed_shift_L hf hg (by omega) hlr.1 hlr.2.1 hlr.2.2 (v := v) (by omega) hs (r + 1 - l).toNat FU l f g (by rw [FU_e]; omega) (by omega) (by omega) (hf.eq (fun i _ _ => h00 V i)) (hg.eq (fun i _ _ => h00 G i))
  refine EdR_of n z1.1 z1.2 (fun i => V (shS l r s i)) (fun i => G (shS l r s i)) pmn' row' next' past' ?_ hQ (a1.eq (fun i _ _ => h11 V i)) (a2.eq (fun i _ _ => h11 G i)) (by omega) (fun i h0 h1 => ?_) hf hR (by omega) (fun z ez hz => ?_)
  · unfold mL_edited
    rw [if_neg (show ¬ (7 : Int32) = 0 by decide), if_neg (show ¬ (7 : Int32) = 1 by decide), if_neg (show ¬ (7 : Int32) = 2 by decide), if_neg (show ¬ (7 : Int32) = 3 by decide), if_neg (show ¬ (7 : Int32) = 4 by decide), if_neg (show ¬ (7 : Int32) = 5 by decide), if_neg (show ¬ (7 : Int32) = 6 by decide), if_pos rfl]
    rw [mn1, mx2, ez1, sob]
  · show V (shS l r s i) < 9
    by_cases y : l ≤ i ∧ i ≤ r
    · have := hin i y
      exact h9 _ (by omega) (by omega)
    · rw [show shS l r s i = i by unfold shS; rw [if_neg y]]
      exact h9 i h0 h1
  · unfold mL_does
    rw [ez, sob, if_neg (show ¬ (7 : Int32) = 0 by decide), if_neg (show ¬ (7 : Int32) = 1 by decide), if_neg (show ¬ (7 : Int32) = 2 by decide), if_neg (show ¬ (7 : Int32) = 3 by decide), if_neg (show ¬ (7 : Int32) = 4 by decide), if_neg (show ¬ (7 : Int32) = 5 by decide), if_neg (show ¬ (7 : Int32) = 6 by decide), if_pos rfl]
    rw [mn1, mx2, zI_sub, z_2, zI_add, irm_z (by omega) (by omega) (by omega) (by omega), sob, ← hs, e1, sob]
    exact if_neg (show ¬ ¬ zI (otT n V (fun i => V (shS l r s i)) 0 (n : Int).toNat) = z by rw [hz rfl]; exact not_not_intro rfl)
theorem E_repl (hR : Rw row n V G) (hp : PasC past h P) (hb : 2 ≤ b ∧ b ≤ 20) (hf : Ar f n V) (hg : Ar g n G) (hn : 1 ≤ n ∧ n ≤ 40) (h9 : ∀ i : Int, 0 ≤ i → i < n → V i < 9) (c : 0 ≤ p ∧ p < n) (d : 0 ≤ q ∧ q < n) (e : 0 ≤ v ∧ v < 9) : EdR n b fr h V G P past row nx f g 8 p q v := by
  have hV := fun i h0 h1 => (hR.2.2.2.2 i h0 h1).1
  have hVp := hV p c.1 c.2
  obtain ⟨pmn', row', next', past', e1, hQ⟩ := c_replace (fr := fr) (nx := nx) hR hp hb (v := V p) (w := v) hVp (by omega)
  obtain ⟨f', ef, a1⟩ := ed_repl_L hf (by omega) hV c (v := v) n FU 0 f (by rw [FU_e]; omega) (by omega) (by omega) (hf.eq (fun i _ _ => by unfold rpV; rw [if_neg (by omega)]))
  refine EdR_of n f' g (rpV V n (V p) v) G pmn' row' next' past' ?_ hQ a1 hg (by omega) (fun i h0 h1 => ?_) hf hR (by omega) (fun z ez hz => ?_)
  · unfold mL_edited
    rw [if_neg (show ¬ (8 : Int32) = 0 by decide), if_neg (show ¬ (8 : Int32) = 1 by decide), if_neg (show ¬ (8 : Int32) = 2 by decide), if_neg (show ¬ (8 : Int32) = 3 by decide), if_neg (show ¬ (8 : Int32) = 4 by decide), if_neg (show ¬ (8 : Int32) = 5 by decide), if_neg (show ¬ (8 : Int32) = 6 by decide), if_neg (show ¬ (8 : Int32) = 7 by decide), if_pos rfl]
    rw [n_z, show (0 : Int32) = zI 0 from rfl, ef, sob]
  · unfold rpV; split
    · omega
    · exact h9 i h0 h1
  · unfold mL_does
    rw [ez, sob, if_neg (show ¬ (8 : Int32) = 0 by decide), if_neg (show ¬ (8 : Int32) = 1 by decide), if_neg (show ¬ (8 : Int32) = 2 by decide), if_neg (show ¬ (8 : Int32) = 3 by decide), if_neg (show ¬ (8 : Int32) = 4 by decide), if_neg (show ¬ (8 : Int32) = 5 by decide), if_neg (show ¬ (8 : Int32) = 6 by decide), if_neg (show ¬ (8 : Int32) = 7 by decide), if_pos rfl]
    rw [rd_A hf c.1 c.2 (by omega) (by omega), sob, e1, sob]
    exact if_neg (show ¬ ¬ zI (otT n V (rpV V n (V p) v) 0 (n : Int).toNat) = z by rw [hz rfl]; exact not_not_intro rfl)
theorem E_sort (hR : Rw row n V G) (hp : PasC past h P) (hb : 2 ≤ b ∧ b ≤ 20) (hf : Ar f n V) (hg : Ar g n G) (hn : 1 ≤ n ∧ n ≤ 40) (h9 : ∀ i : Int, 0 ≤ i → i < n → V i < 9) (c : 0 ≤ p ∧ p < n) (d : 0 ≤ q ∧ q < n) (e : 0 ≤ v ∧ v < 9) : EdR n b fr h V G P past row nx f g 9 p q v := by
  have mn1 := mn_z (p := p) (q := q) (by omega) (by omega)
  have mx1 := mn_z (p := q) (q := p) (by omega) (by omega)
  have mx2 : (if zI p < zI q then zI q else zI p) = zI (if p < q then q else p) := by
    by_cases w : p < q
    · rw [if_pos w, if_pos (show zI p < zI q by rw [zI_lt (by omega) (by omega) (by omega) (by omega)]; exact w)]
    · rw [if_neg w, if_neg (show ¬ zI p < zI q by rw [zI_lt (by omega) (by omega) (by omega) (by omega)]; exact w)]
  obtain ⟨l, hl⟩ : ∃ l, (if q < p then q else p) = l := ⟨_, rfl⟩
  obtain ⟨r, hr⟩ : ∃ r, (if p < q then q else p) = r := ⟨_, rfl⟩
  rw [hl] at mn1
  rw [hr] at mx2
  have hlr : 0 ≤ l ∧ l ≤ r ∧ r < n := by split at hl <;> split at hr <;> omega
  have s0 := Int.emod_nonneg v (show (2 : Int) ≠ 0 by omega)
  obtain ⟨hs, hn0⟩ := hR.ok
  obtain ⟨t1, et1, ht1⟩ := X2_take_z hR nx
  obtain ⟨t2, z1, V2, G2, et2, ez1, hR2, a1, a2, hV9⟩ := ed_sort_z (by omega) hlr.1 hlr.2.1 hlr.2.2 (v := v) (by omega) rfl ht1 hf hg h9
  obtain ⟨a, pmn', row', past', e5, hQ, ha⟩ := settle_c (fr := fr) hR hR2 hb hp
  have e1 : mX5_sort (zI b) (zI fr) row nx past (zI l) (zI r) (if v % 2 = 0 then 1 else 0) = some (zI (otT n V V2 0 (n : Int).toNat), pmn', row', t2, past') := by
    unfold mX5_sort
    rw [X2_hasSpan_z hs hn0 (by omega) (by omega), sob, bz_t hlr, if_pos i1, et1, sob, et2, sob, e5, sob, ha rfl]
  refine EdR_of n z1.1 z1.2 V2 G2 pmn' row' t2 past' ?_ hQ a1 a2 (by omega) hV9 hf hR (by omega) (fun z ez hz => ?_)
  · unfold mL_edited
    rw [if_neg (show ¬ (9 : Int32) = 0 by decide), if_neg (show ¬ (9 : Int32) = 1 by decide), if_neg (show ¬ (9 : Int32) = 2 by decide), if_neg (show ¬ (9 : Int32) = 3 by decide), if_neg (show ¬ (9 : Int32) = 4 by decide), if_neg (show ¬ (9 : Int32) = 5 by decide), if_neg (show ¬ (9 : Int32) = 6 by decide), if_neg (show ¬ (9 : Int32) = 7 by decide), if_neg (show ¬ (9 : Int32) = 8 by decide)]
    rw [mn1, mx2, ez1, sob]
  · unfold mL_does
    rw [ez, sob, if_neg (show ¬ (9 : Int32) = 0 by decide), if_neg (show ¬ (9 : Int32) = 1 by decide), if_neg (show ¬ (9 : Int32) = 2 by decide), if_neg (show ¬ (9 : Int32) = 3 by decide), if_neg (show ¬ (9 : Int32) = 4 by decide), if_neg (show ¬ (9 : Int32) = 5 by decide), if_neg (show ¬ (9 : Int32) = 6 by decide), if_neg (show ¬ (9 : Int32) = 7 by decide), if_neg (show ¬ (9 : Int32) = 8 by decide)]
    rw [z_2, irm_z (by omega) (by omega) (by omega) (by omega), sob, mn1, mx2]
    have e6 : (if ¬ zI (v % 2) = 0 then some (0 : Int32) else some 1) = some (if v % 2 = 0 then 1 else 0) := by
      by_cases y : v % 2 = 0
      · rw [if_pos y, if_neg (show ¬ ¬ zI (v % 2) = 0 by rw [y]; exact not_not_intro rfl)]
      · rw [if_neg y, if_pos (show ¬ zI (v % 2) = 0 by rw [z_0, zI_eq (by omega) (by omega) (by omega) (by omega)]; exact y)]
    rw [e6, sob, e1, sob]
    exact if_neg (show ¬ ¬ zI (otT n V V2 0 (n : Int).toNat) = z by rw [hz rfl]; exact not_not_intro rfl)
theorem E_all (hR : Rw row n V G) (hp : PasC past h P) (hb : 2 ≤ b ∧ b ≤ 20) (hf : Ar f n V) (hg : Ar g n G) (hn : 1 ≤ n ∧ n ≤ 40) (h9 : ∀ i : Int, 0 ≤ i → i < n → V i < 9) (c : 0 ≤ p ∧ p < n) (d : 0 ≤ q ∧ q < n) (e : 0 ≤ v ∧ v < 9) {k : Int} (hk : 0 ≤ k ∧ k < 10) (h2 : k = 3 → 2 ≤ n) : EdR n b fr h V G P past row nx f g (zI k) p q v := by
  rcases (show k = 0 ∨ k = 1 ∨ k = 2 ∨ k = 3 ∨ k = 4 ∨ k = 5 ∨ k = 6 ∨ k = 7 ∨ k = 8 ∨ k = 9 by omega) with rfl | rfl | rfl | rfl | rfl | rfl | rfl | rfl | rfl | rfl
  · exact E_set hR hp hb hf hg hn h9 c d e
  · exact E_weigh hR hp hb hf hg hn h9 c d e
  · exact E_insert hR hp hb hf hg hn h9 c d e
  · exact E_remove hR hp hb hf hg hn h9 c d e (h2 rfl)
  · exact E_fill hR hp hb hf hg hn h9 c d e
  · exact E_swap hR hp hb hf hg hn h9 c d e
  · exact E_flip hR hp hb hf hg hn h9 c d e
  · exact E_shift hR hp hb hf hg hn h9 c d e
  · exact E_repl hR hp hb hf hg hn h9 c d e
  · exact E_sort hR hp hb hf hg hn h9 c d e
end

/-! all steps, the end; what is left: the text that is told is read as it says -/
theorem run_z {xs : Nat → Int32} {nS : Nat} (hnS : nS ≤ 260) {b t : Int} (hb : 2 ≤ b ∧ b ≤ 20) (ht : 0 ≤ t ∧ t ≤ 3) (hbk : mL_block xs nS = some (zI b)) (hti : mL_ties xs nS = some (zI t)) (li : Int32) (tp : TapT) {n0 : Int} {V0 G0 : Int → Int} {Q : ST → Prop} (hQ : ∀ S, LInv n0 V0 G0 9 S → Q S) : ∀ (k i : Nat) (S : ST), i + k = 9 → LInv n0 V0 G0 i S → LRun xs nS (zI b) (zI t) li tp Q k i S
  | 0, i, S, h, hI => by
    have h : i = 9 := h
    subst h
    exact hQ S hI
  | k + 1, i, S, h, hI => by
    obtain ⟨S2, h1, h2⟩ := step_z hnS hb ht hbk hti li tp (by omega) hI
    exact ⟨S2, h1, run_z hnS hb ht hbk hti li tp hQ k (i + 1) S2 (by omega) h2⟩
theorem undos_z {b : Int} (hb : 2 ≤ b ∧ b ≤ 20) : ∀ (h : Nat) (fr n : Int) (row : RowT) (past : PasT) (V G : Int → Int) (P : PsT), Rw row n V G → PasC past h P → ∃ z, mL_undos (zI b) h (zI fr) row past = some z ∧ (h = 0 → Rw z.2.1 n V G) ∧ (0 < h → Rw z.2.1 (P h).1 (P h).2.1 (P h).2.2)
  | 0, fr, n, row, past, V, G, P, hR, hp => by
    obtain ⟨q, e, hq⟩ := c_undo (fr := fr) hR hp hb
    rcases hq with ⟨_, h1, h2⟩ | ⟨h0, _⟩
    · refine ⟨(q.2.1, q.2.2.1, q.2.2.2), ?_, fun _ => h2, fun z => absurd z (by decide)⟩
      rw [mL_undos, e, sob, if_pos h1]
    · exact absurd h0 (by decide)
  | h + 1, fr, n, row, past, V, G, P, hR, hp => by
    obtain ⟨q, e, hq⟩ := c_undo (fr := fr) hR hp hb
    rcases hq with ⟨h0, _⟩ | ⟨_, h1, ⟨fr2, h2⟩, h3, h4⟩
    · exact absurd h0 (by omega)
    · rw [show ((h + 1 : Nat) : Int) - 1 = (h : Int) by omega] at h4
      obtain ⟨z, ez, z0, z1⟩ := undos_z hb h fr2 _ q.2.2.1 q.2.2.2 _ _ (fun k => P (k + 1)) h3 h4
      refine ⟨z, ?_, fun w => absurd w (by omega), fun _ => ?_⟩
      · rw [mL_undos, e, sob, if_neg h1, h2]; exact ez
      · by_cases w : h = 0
        · have := z0 w
          subst w
          exact this
        · have := z1 (by omega)
          rw [show ((h + 1 : Nat) : Int) = (h : Int) + 1 by omega]
          exact this
theorem end_z {b : Int} (hb : 2 ≤ b ∧ b ≤ 20) (ti li : Int32) (tp : TapT) {mn : Nat} {va wt : Nat → Nat} (S : ST) (hI : LInv mn (fun j => (va j.toNat : Int)) (fun j => (wt j.toNat : Int)) 9 S) : LEnd (zI b) ti li tp mn va wt S := by
  obtain ⟨pmn, row, next, past, tal, N, f, g, fs⟩ := S
  obtain ⟨n, V, G, h, fr, P, eN, hn, hR, h9, hf, hg, epm, efs, hp, hhi, hT, hz0, hz1⟩ := hI
  have epm : pmn = zI fr := epm
  subst epm
  have hR : Rw row n V G := hR
  have hp : PasC past h P := hp
  have hh := hp.1
  have eh : ((h.toNat : Nat) : Int) = h := Int.toNat_of_nonneg hh.1
  obtain ⟨z, ez, z0, z1⟩ := undos_z hb h.toNat fr n row past V G P hR (by rw [eh]; exact hp)
  have hZ : Rw z.2.1 mn (fun j => (va j.toNat : Int)) (fun j => (wt j.toNat : Int)) := by
    by_cases c : h = 0
    · obtain ⟨w1, w2⟩ := hz0 c
      have := z0 (by omega)
      rw [w1] at this
      exact this.eq (fun j h0 h1 => w2 j h0 h1)
    · obtain ⟨w1, w2⟩ := hz1 (by omega)
      have := z1 (by omega)
      rw [eh, w1] at this
      exact this.eq (fun j h0 h1 => w2 j h0 h1)
  refine ⟨h.toNat, tal, z, tal, ?_, ez, fun k hk => ?_, fun k hk => ?_, ?_⟩
  · rw [cnt6]
    show some (past.2.1, tal) = _
    rw [hp.2.1, n_zt hh.1]
  · rw [n_z, (c_place hZ (zI b) (p := (k : Int)) ⟨by omega, by omega⟩).1, n_z]; rfl
  · rw [n_z, (c_place hZ (zI b) (p := (k : Int)) ⟨by omega, by omega⟩).2, n_z]; rfl
  · rw [cnt0, hZ.2.1, n_z]
/-- a value of every place that is told -/
theorem pick {P : Nat → Nat → Prop} (m : Nat) (h : ∀ k, k < m → ∃ v, P k v) : ∃ va : Nat → Nat, ∀ k, k < m → P k (va k) :=
  ⟨fun k => if hk : k < m then (h k hk).choose else 0, fun k hk => by
    show P k (if hk : k < m then (h k hk).choose else 0)
    rw [dif_pos hk]
    exact (h k hk).choose_spec⟩
/-- what a text of this shape is read as -/
def TextOK (mn : Nat) (va wt : Nat → Nat) (bk ti : Nat) : Prop := ∃ (U : List Int32) (T' : TapT) (r : Nat) (q : Int32 × Int32 × Int32 × Int32 × Int32 × TapT × RdrT × RowT × RowT × PasT),
  dkC wt (dkB (dkA va mn) bk ti) mn ++ List.replicate r 32 = U ∧ r < 20 ∧ U.length % 20 = 0 ∧ mL_putL U 60 0 tape0 = some T' ∧ mX5_text 8 0 0 (-2) T' rdr0 row0 row0 pas0 (nI (dkC wt (dkB (dkA va mn) bk ti) mn).length) = some q ∧ ¬ q.1 ≤ 2 ∧
  q.2.1 = nI bk ∧ q.2.2.1 = nI ti ∧ q.2.2.2.2.1 = -2 ∧ Rw q.2.2.2.2.2.2.2.2.1 mn (fun j => (va j.toNat : Int)) (fun j => (wt j.toNat : Int)) ∧ q.2.2.2.2.2.2.2.2.2.2.1 = 0 ∧ q.2.2.2.2.2.2.2.2.2.2.2 = 0
theorem goal_of {xs : Nat → Int32} {nS : Nat} (hnS : nS ≤ 260) (hText : ∀ (mn : Nat) (va wt : Nat → Nat) (bk ti : Nat), 3 ≤ mn ∧ mn ≤ 20 → (∀ k, k < 20 → va k < 7) → (∀ k, k < 20 → 1 ≤ wt k ∧ wt k ≤ 3) → 2 ≤ bk ∧ bk ≤ 6 → ti < 4 → TextOK mn va wt bk ti) : LGoal xs nS := by
  obtain ⟨mn, hmn, em⟩ := many_z xs hnS
  obtain ⟨bk, hbk, eb⟩ := block_z xs hnS
  obtain ⟨ti, hti, et⟩ := ties_z xs hnS
  obtain ⟨va, hva⟩ := pick 20 (fun k hk => value_z xs hnS k hk)
  obtain ⟨wt, hwt⟩ := pick 20 (fun k hk => weight_z xs hnS k hk)
  obtain ⟨U, T', r, q, h1, h2, h3, h4, h5, h6, h7, h8, h9, hR, h10, h11⟩ := hText mn va wt bk ti hmn (fun k hk => (hva k hk).1) (fun k hk => (hwt k hk).1) hbk hti
  refine ⟨mn, va, wt, bk, ti, _, U, T', r, q, em, by omega, by omega, fun k hk => by have := (hva k hk).1; omega, fun k hk => (hva k (by omega)).2, fun k hk => by have := (hwt k hk).1; omega, fun k hk => (hwt k (by omega)).2, by omega, hti, eb, et, rfl, h1, h2, h3, h4, h5, h6, ?_⟩
  rw [h7, h8, n_z, n_z]
  refine run_z hnS (by omega) (by omega) (by rw [← n_z]; exact eb) (by rw [← n_z]; exact et) _ _ (fun S hS => end_z (by omega) _ _ _ S hS) 9 0 _ rfl ?_
  have hA : ∀ w : Nat → Nat, Ar (rwT (fun k => nI (w k)) mn) mn (fun j => (w j.toNat : Int)) := fun w j g0 g1 => by
    unfold rwT
    rw [if_pos (by omega)]
    exact n_z _
  refine ⟨mn, (fun j => (va j.toNat : Int)), (fun j => (wt j.toNat : Int)), 0, -2, (fun _ => (0, (fun _ => 0), (fun _ => 0))), rfl, by omega, hR, fun j g0 g1 => by
    have := (hva j.toNat (by omega)).1
    show (va j.toNat : Int) < 9
    omega, hA va, hA wt, h9.trans z_m2, z_m2, ⟨by omega, h10, 0, by omega, h11, fun k k0 k1 => by omega⟩, by omega, ⟨[], by decide, rfl, fun i => by simp, fun v h => absurd h List.not_mem_nil, fun v _ _ _ => rfl⟩, fun _ => ⟨rfl, fun _ _ _ => ⟨rfl, rfl⟩⟩, fun z => absurd z (by decide)⟩

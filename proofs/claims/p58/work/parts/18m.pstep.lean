/-! a step of the law, and what stays true -/
theorem cnt6 (bl ti li : Int32) (tp : TapT) (row : RowT) (past : PasT) (tal : TalT) : mX5_count bl ti li tp row past tal 6 = some (past.2.1, tal) := by
  unfold mX5_count
  rw [if_neg (by decide), if_neg (by decide), if_neg (by decide), if_neg (by decide), if_neg (by decide), if_neg (by decide), if_pos rfl]
theorem cnt0 (bl ti li : Int32) (tp : TapT) (row : RowT) (past : PasT) (tal : TalT) : mX5_count bl ti li tp row past tal 0 = some (row.2.2, tal) := by
  unfold mX5_count
  rw [if_pos rfl]
theorem c_was {row : RowT} {past : PasT} {n h : Int} {V G : Int → Int} {P : PsT} (hR : Rw row n V G) (hp : PasC past h P) {p : Int} (c : 0 ≤ p ∧ p < n) : mX5_was row past 0 (zI p) = some (zI (V p)) := by
  obtain ⟨hs, hn⟩ := hR.ok
  have hh := hp.1
  unfold mX5_was
  rw [if_neg (by decide), hp.2.1, if_neg (show ¬ zI h < 0 by rw [z_0, zI_lt (by omega) (by omega) (by omega) (by omega)]; omega), if_pos (show (0 : Int32) ≤ zI p by rw [z_0, zI_le (by omega) (by omega) (by omega) (by omega)]; omega), if_neg (show ¬ ¬ (0 : Int32) = 0 from not_not_intro rfl), X2_has_z hs hn (by omega), sob, bz_t c]
  first
    | rw [if_neg i1, rd_A hR.2.2.1 c.1 c.2 (by omega) (by omega), sob]
    | rw [if_pos i1, rd_A hR.2.2.1 c.1 c.2 (by omega) (by omega), sob]
def LInv (n0 : Int) (V0 G0 : Int → Int) (i : Nat) (S : ST) : Prop :=
  ∃ (n : Nat) (V G : Int → Int) (h fr : Int) (P : PsT), S.2.2.2.2.2.1 = n ∧ (1 ≤ n ∧ n ≤ 20 + i) ∧ Rw S.2.1 n V G ∧ (∀ j : Int, 0 ≤ j → j < n → V j < 9) ∧ Ar S.2.2.2.2.2.2.1 n V ∧ Ar S.2.2.2.2.2.2.2.1 n G ∧ S.1 = zI fr ∧ S.2.2.2.2.2.2.2.2 = zI fr ∧ PasC S.2.2.2.1 h P ∧ h ≤ i ∧ TalC S.2.2.2.2.1 ∧
    (h = 0 → (n : Int) = n0 ∧ ∀ j : Int, 0 ≤ j → j < n0 → V j = V0 j ∧ G j = G0 j) ∧ (0 < h → (P h).1 = n0 ∧ ∀ j : Int, 0 ≤ j → j < n0 → (P h).2.1 j = V0 j ∧ (P h).2.2 j = G0 j)
set_option maxHeartbeats 2000000 in
theorem step_z {xs : Nat → Int32} {nS : Nat} (hnS : nS ≤ 260) {b t : Int} (hb : 2 ≤ b ∧ b ≤ 20) (ht : 0 ≤ t ∧ t ≤ 3) (hbk : mL_block xs nS = some (zI b)) (hti : mL_ties xs nS = some (zI t)) (li : Int32) (tp : TapT) {n0 : Int} {V0 G0 : Int → Int} {i : Nat} (hi : i < 9) {S : ST} (hI : LInv n0 V0 G0 i S) : ∃ S2, LStep xs nS (zI b) (zI t) li tp i S S2 ∧ LInv n0 V0 G0 (i + 1) S2 := by
  obtain ⟨pmn, row, next, past, tal, N, f, g, fs⟩ := S
  obtain ⟨n, V, G, h, fr, P, eN, hn, hR, h9, hf, hg, epm, efs, hp, hhi, hT, hz0, hz1⟩ := hI
  have eN : N = n := eN
  have epm : pmn = zI fr := epm
  have efs : fs = zI fr := efs
  subst eN epm efs
  have hR : Rw row N V G := hR
  have hf : Ar f N V := hf
  have hg : Ar g N G := hg
  have hp : PasC past h P := hp
  have hT : TalC tal := hT
  have hh := hp.1
  obtain ⟨x, hx⟩ := cell_z xs hnS (k := 9 + (i : Int)) (by omega) (by omega)
  obtain ⟨k0, hk0, ek0⟩ := in_z x (m := 10) (by omega) (by omega)
  obtain ⟨p, hp0, ep⟩ := in_z (x / 16) (m := (N : Int)) (by omega) (by omega)
  obtain ⟨q, hq0, eq⟩ := in_z (x / 512) (m := (N : Int)) (by omega) (by omega)
  obtain ⟨kd, hkd, ekd⟩ := kinds_z xs hnS
  obtain ⟨v, hv0, ev⟩ := in_z (x / 16384) (m := kd + 2) (by omega) (by omega)
  obtain ⟨k, hk, hk3, ek⟩ : ∃ k : Int, (0 ≤ k ∧ k < 10) ∧ (k = 3 → 2 ≤ N) ∧ zI k = (if zI k0 = 3 ∧ N < 2 then 0 else zI k0) := by
    by_cases c : zI k0 = 3 ∧ N < 2
    · exact ⟨0, by omega, by omega, by rw [if_pos c]; rfl⟩
    · refine ⟨k0, hk0, fun h3 => ?_, by rw [if_neg c]⟩
      subst h3
      exact Nat.not_lt.mp (fun z => c ⟨rfl, z⟩)
  obtain ⟨n2, tF, tG, V2, G2, pmn', row', next', past', e1, e2, a1, a2, hn2, hV9, hQ⟩ := E_all (fr := fr) (nx := next) hR hp hb hf hg (by omega) h9 hp0 hq0 (v := v) (by omega) hk hk3
  have hR2 := hQ.1
  have hV : ∀ j : Int, 0 ≤ j → j < N → 0 ≤ V j ∧ V j < 1000 := fun j h0 h1 => (hR.2.2.2.2 j h0 h1).1
  have hV2 : ∀ j : Int, 0 ≤ j → j < n2 → 0 ≤ V2 j ∧ V2 j < 1000 := fun j h0 h1 => (hR2.2.2.2.2 j h0 h1).1
  have hG : ∀ j : Int, 0 ≤ j → j < N → 1 ≤ G j ∧ G j ≤ 9 := fun j h0 h1 => (hR.2.2.2.2 j h0 h1).2
  have hG2 : ∀ j : Int, 0 ≤ j → j < n2 → 1 ≤ G2 j ∧ G2 j ≤ 9 := fun j h0 h1 => (hR2.2.2.2.2 j h0 h1).2
  have sa := isSame_z hf a1 (by omega) (by omega) (fun j h0 h1 => by have := hV j h0 h1; omega) (fun j h0 h1 => by have := hV2 j h0 h1; omega)
  have sb := isSame_z hg a2 (by omega) (by omega) (fun j h0 h1 => by have := hG j h0 h1; omega) (fun j h0 h1 => by have := hG2 j h0 h1; omega)
  have hfresh := fresh_z hf a1 (by omega) (by omega) hV hV2 hb
  have big : ∃ (s0 s1 ed : Int32) (fi h2 : Int) (P2 : PsT), mL_isSame N n2 f tF = some s0 ∧ mL_isSame N n2 g tG = some s1 ∧ ed = (if s0 = 0 then 1 else if s1 = 0 then 1 else 0) ∧ (ed = 0 → zI fi = zI fr) ∧ (¬ ed = 0 → mL_fresh N n2 f tF (zI b) = some (zI fi)) ∧ pmn' = zI fi ∧ past'.2.1 = past.2.1 + ed ∧ PasC past' h2 P2 ∧ h2 ≤ (i : Int) + 1 ∧ (h2 = 0 → (n2 : Int) = n0 ∧ ∀ j : Int, 0 ≤ j → j < n0 → V2 j = V0 j ∧ G2 j = G0 j) ∧ (0 < h2 → (P2 h2).1 = n0 ∧ ∀ j : Int, 0 ≤ j → j < n0 → (P2 h2).2.1 j = V0 j ∧ (P2 h2).2.2 j = G0 j) := by
    rcases hQ.2 with ⟨q1, q2, q3, q4⟩ | ⟨q1, q2, q3⟩
    · have en : N = n2 := by omega
      have qv : ∀ j : Int, 0 ≤ j → j < N → V2 j = V j ∧ G2 j = G j := fun j h0 h1 => q2 j h0 (by omega)
      have ea : mL_isSame N n2 f tF = some 1 := by
        rcases sa with ⟨w, _⟩ | ⟨_, w⟩
        · exact w
        · exact absurd ⟨en, fun j h0 h1 => (qv j h0 h1).1.symm⟩ w
      have eb : mL_isSame N n2 g tG = some 1 := by
        rcases sb with ⟨w, _⟩ | ⟨_, w⟩
        · exact w
        · exact absurd ⟨en, fun j h0 h1 => (qv j h0 h1).2.symm⟩ w
      refine ⟨1, 1, 0, fr, h, P, ea, eb, by decide, fun _ => rfl, fun w => absurd rfl w, q3, ?_, by rw [q4]; exact hp, by omega, fun w => ?_, hz1⟩
      · rw [q4, show (0 : Int32) = zI 0 from rfl, hp.2.1, zI_add, Int.add_zero]
      · obtain ⟨w1, w2⟩ := hz0 w
        refine ⟨by omega, fun j h0 h1 => ?_⟩
        have := qv j h0 (by omega)
        rw [this.1, this.2]
        exact w2 j h0 h1
    · have hns : ¬ (N = n2 ∧ (∀ j : Int, 0 ≤ j → j < N → V j = V2 j) ∧ ∀ j : Int, 0 ≤ j → j < N → G j = G2 j) := fun w => q1 ⟨by omega, fun j h0 h1 => ⟨(w.2.1 j h0 (by omega)).symm, (w.2.2 j h0 (by omega)).symm⟩⟩
      have hh12 : h < 12 := by omega
      rw [if_pos hh12] at q3
      obtain ⟨s0, s1, ea, eb, hed⟩ : ∃ s0 s1 : Int32, mL_isSame N n2 f tF = some s0 ∧ mL_isSame N n2 g tG = some s1 ∧ (1 : Int32) = (if s0 = 0 then 1 else if s1 = 0 then 1 else 0) := by
        rcases sa with ⟨w, w1, w2⟩ | ⟨w, _⟩
        · rcases sb with ⟨y, y1, y2⟩ | ⟨y, _⟩
          · exact absurd ⟨w1, w2, y2⟩ hns
          · exact ⟨1, 0, w, y, by decide⟩
        · rcases sb with ⟨y, y1, y2⟩ | ⟨y, _⟩
          · exact ⟨0, 1, w, y, by decide⟩
          · exact ⟨0, 0, w, y, by decide⟩
      refine ⟨s0, s1, 1, _, h + 1, psN P N V G, ea, eb, hed, fun w => absurd w (by decide), fun _ => hfresh, q2, ?_, q3, by omega, fun w => by omega, fun _ => ?_⟩
      · rw [q3.2.1, hp.2.1, zI_a1]
      · by_cases w : h = 0
        · obtain ⟨w1, w2⟩ := hz0 w
          rw [w]
          exact ⟨w1, w2⟩
        · have e3 : psN P N V G (h + 1) = P h := by
            unfold psN
            rw [if_neg (by omega), show h + 1 - 1 = h by omega]
          rw [e3]
          exact hz1 (by omega)
  obtain ⟨s0, s1, ed, fi, h2, P2, es0, es1, hed, hf0, hf1, hpm, hun, hp2, hh2, hw0, hw1⟩ := big
  obtain ⟨lo, hlo, elo⟩ := in_z (x / 64) (m := (n2 : Int)) (by omega) (by omega)
  obtain ⟨hi_, hhi_, ehi⟩ := in_z (x / 2048) (m := (n2 : Int) - lo) (by omega) (by omega)
  obtain ⟨cC, T2, ec, hT2, esp⟩ := span_z (f := tF) (g := tG) hR2 a1 a2 (by omega) (fun j h0 h1 => ⟨(hV2 j h0 h1).1, hV9 j h0 h1⟩) (l := lo) (r := lo + hi_) (by omega) ht hT
  have hrw : Ar (rwT (fun j => zI (V2 (j : Int))) n2) n2 V2 := fun j h0 h1 => by
    unfold rwT
    rw [if_pos (by omega)]
    show zI (V2 ((j.toNat : Nat) : Int)) = zI (V2 j)
    rw [Int.toNat_of_nonneg h0]
  have esm : mL_isSame n2 n2 tF (rwT (fun j => zI (V2 (j : Int))) n2) = some 1 := by
    rcases isSame_z a1 hrw (by omega) (by omega) (fun j h0 h1 => by have := hV2 j h0 h1; omega) (fun j h0 h1 => by have := hV2 j h0 h1; omega) with ⟨w, _⟩ | ⟨_, w⟩
    · exact w
    · exact absurd ⟨rfl, fun _ _ _ => rfl⟩ w
  refine ⟨(pmn', row', next', past', T2, n2, tF, tG, zI fi), ⟨x, zI k0, zI k, zI p, zI q, zI kd, zI v, (n2, tF, tG), past.2.1, tal, pmn', row', next', past', s0, s1, ed, zI b, zI fi, past'.2.1, tal, fun j => zI (V2 (j : Int)), tal, zI lo, zI hi_, zI t, cC, T2, ?_, ek0, ek, ?_, ?_, ekd, ?_, e1, cnt6 _ _ _ _ _ _ _, e2, es0, es1, hed, hbk, hf0, hf1, ?_, cnt6 _ _ _ _ _ _ _, hun, by show n2 ≤ 60; omega, ?_, ?_, esm, ?_, ?_, ?_, ?_, hti, ?_, ?_, rfl⟩, ?_⟩
  · rw [n_z, z_9, zI_add]; exact hx
  · rw [n_z]; exact ep
  · rw [n_z]; exact eq
  · rw [z_2, zI_add]; exact ev
  · rw [hpm]; rfl
  · intro j hj
    rw [n_z]; exact (c_place hR2 (zI b) (p := (j : Int)) ⟨by omega, by show (j : Int) < n2; have : j < n2 := hj; omega⟩).1
  · rw [cnt0, hR2.2.1, n_z]
  · intro j hj
    have hj : j < n2 := hj
    rw [n_z, (c_place hR2 (zI b) (p := (j : Int)) ⟨by omega, by omega⟩).2]
    have := a2 (j : Int) (by omega) (by omega)
    rw [Int.toNat_natCast] at this
    rw [← this]
  · intro j hj
    have hj : j < n2 := hj
    rw [n_z, c_was hR2 hp2 (p := (j : Int)) ⟨by omega, by omega⟩]
    have := a1 (j : Int) (by omega) (by omega)
    rw [Int.toNat_natCast] at this
    rw [← this]
  · rw [n_z]; exact elo
  · rw [n_z, zI_sub]; exact ehi
  · rw [zI_add]; exact ec
  · rw [zI_add]; exact esp
  · exact ⟨n2, V2, G2, h2, fi, P2, rfl, by omega, hR2, hV9, a1, a2, hpm, rfl, hp2, by omega, hT2, hw0, hw1⟩
